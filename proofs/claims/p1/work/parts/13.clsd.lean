/-- Panyard.rehearse -/
def f_X7_rehearse_L60b (N : Nt) (ih60 : Int32 → Int32 → St → Option (Except String Int32 × St)) (y2 : Int32) (y1 : Int32) (u : St) : Option (Except String Int32 × St) :=
  if (u 2 0 0) ≤ y2 then
    sb (f_X7_soundingCount N u) fun r8 u10 =>
    some (.ok r8, u10)
  else
    gd (inb y2 8) <|
    gd ((ix y2) < N 15) <|
    sb (f_X5_soundingPan N u (ix y2)) fun r13 u15 =>
    oc r13
      (
        nm (y2 + 1) fun v18 =>
        ih60 v18 y1 u15
      )
      fun q16 =>
      gd (vPan N q16) <|
      sb (f_X7_rehearsePlaces N u15 y2 q16 (y1 / 10)) fun r20 u22 =>
      nm (y2 + 1) fun v23 =>
      ih60 v23 y1 u22
def f_X7_rehearse_L60 (N : Nt) : Nat → Int32 → Int32 → St → Option (Except String Int32 × St) := lp (fun _ _ _ => none) (f_X7_rehearse_L60b N)
def f_X7_rehearse (N : Nt) (u : St) (x1 : Int32) : Option (Except String Int32 × St) :=
  sb (f_X7_isWithin N u x1 10 120) fun r1 u3 =>
  if r1 = 0 then
    some (.error "java/lang/IllegalArgumentException", u3)
  else
    if ((u3 52 0 0) + x1) ≤ 120 then
      nm (sset u3 52 0 0 ((u3 52 0 0) + x1)) fun u6 =>
      f_X7_rehearse_L60 N 1000000 0 x1 u6
    else
      some (.error "java/lang/IllegalStateException", u3)
set_option maxRecDepth 100000 in
set_option maxHeartbeats 4000000 in
theorem c_X7_rehearse (l : Launch) (z : Zt) (ad : Ad) (N : Nt) (X : Gt) (u : St) (x1 : Int32) {r9 : Int32} {u9 : St} (h : f_X7_rehearse N u x1 = some (.ok r9, u9)) : MC l z yX7_rehearse cX7_rehearse 4 (some .int) { frames := 4, cells := 0, slots := 0, locals := 94 } 0 0 [.ref (ad 0 0), .int x1] ad (GC z ad N X u) (QI z ad (GC z ad N X u9) r9) := by
  refine Met.ofW (cc := cX7_rehearse) (maxL := 4) (ret := (some .int)) (by decide) rfl ?_
  intro p e s m args below meth c s₁ B hml hv
  obtain ⟨rfl, hSW, hW⟩ := hv
  have hx := B.exec; have hb := B.bytes; have hr := B.returns; have hlocks := B.notSynchronized
  have hown : s.vm.findClass RX7 = some m.cls := findClass_of_methodNamed B.named
  obtain ⟨hT, hK, hST, hB0⟩ := id hSW
  have hS : va_S (zA z) s.heap s.heap [] := va_S.rf
  have hl := lv_entry ([.ref (ad 0 0), .int x1]) (n := 4) (Nat.le_of_ble_eq_true rfl)
  rw [lg_entry_eq]
  generalize (lg_sl ([.ref (ad 0 0), .int x1]) ++ List.replicate (4 - (lg_sl ([.ref (ad 0 0), .int x1])).length) Slot.unset).toArray = ls at hl ⊢
  have hl : lv_has ls 4 [(0, .ref (ad 0 0)), (1, .int x1)] := hl
  let WW : Heap → List Loc → JFrame → Prop := fun H locs g => W p l e (headSpec [Cond.code yX7_rehearse cX7_rehearse 4 (some .int)] { frames := 4, cells := 0, slots := 0, locals := 94 }).room s m [.ref (ad 0 0), .int x1].toArray below meth c H locs 0 0 (MQ below (QI z ad (GC z ad N X u9) r9) [.ref (ad 0 0), .int x1].toArray s 0 0 (zA z)) g
  have hL60b : ∀ (ih60 : Int32 → Int32 → St → Option (Except String Int32 × St)) (hih60 : ∀ (y2 : Int32) (y1 : Int32) (u : St) (H : Heap) (locs : List Loc) (ls : Array Slot), lv_has ls 4 [(2, .int y2), (0, .ref (ad 0 0)), (1, .int y1)] → GW z ad (GC z ad N X u) H → va_S (zA z) s.heap H locs → ih60 y2 y1 u = some (.ok r9, u9) → WW H locs (F0 m 60 ls [])), ∀ (y2 : Int32) (y1 : Int32) (u : St) (H : Heap) (locs : List Loc) (ls : Array Slot), lv_has ls 4 [(2, .int y2), (0, .ref (ad 0 0)), (1, .int y1)] → GW z ad (GC z ad N X u) H → va_S (zA z) s.heap H locs → f_X7_rehearse_L60b N ih60 y2 y1 u = some (.ok r9, u9) → WW H locs (F0 m 60 ls []) := by
    intro ih60 hih60 y2 y1 u H locs ls hl hW hS h
    change W p l e _ s m _ below meth c H locs 0 0 _ (F0 m 60 ls [])
    unfold f_X7_rehearse_L60b at h
    refine lv_iload_n hx hb dX7_rehearse_60 rfl (lv_at hl 0 rfl) ?_
    refine lv_aload_n hx hb dX7_rehearse_61 rfl (lv_at hl 1 rfl) ?_
    refine nb_get hx hb hT hK hown hW fl_X7_147 kr_0 (v := .int (u 2 0 0)) rfl dX7_rehearse_62 ?_
    refine lv_icmp_ge (tgt := 98) hx hb dX7_rehearse_65 (by decide) (fun c7 => ?_) (fun c7 => ?_)
    · replace h := ite_t h c7
      refine lv_aload_n hx hb dX7_rehearse_98 rfl (lv_at hl 1 rfl) ?_
      obtain ⟨r8, u10, h09, h⟩ := sb_s h
      refine nb_ci (nb_runV (As := []) (rest := []) hx hb hml hown hSW hS hW (c_X7_soundingCount l z ad N X u h09) mf_X7_soundingCount lk_X7_244 kr_0 rfl rfl ⟨rfl, rfl⟩ ⟨Nat.le_of_ble_eq_true rfl, Nat.le_of_ble_eq_true rfl⟩ hl.1 (Nat.le_of_ble_eq_true rfl) dX7_rehearse_99 ⟨Nat.le_of_ble_eq_true rfl, Nat.le_of_ble_eq_true rfl⟩) hS (fun H locs (hW : GW z ad (GC z ad N X u10) H) hS => ?_)
      exact ne_iretX hx hb hr rfl hlocks hW hS dX7_rehearse_102 h
    · replace h := ite_f h c7
      refine lv_aload_n hx hb dX7_rehearse_68 rfl (lv_at hl 1 rfl) ?_
      refine nb_get hx hb hT hK hown hW fl_X7_23 kr_0 (v := .ref (ad 3 0)) rfl dX7_rehearse_69 ?_
      refine lv_iload_n hx hb dX7_rehearse_72 rfl (lv_at hl 0 rfl) ?_
      obtain ⟨g11, h⟩ := gd_s h
      obtain ⟨g12, h⟩ := gd_s h
      refine nb_aald hx hb hK hW 4 kr_3 rfl rfl (inb_in g11) (a := ad 15 (ix y2)) (qrow_at g12) dX7_rehearse_73 ?_
      obtain ⟨r13, u15, h14, h⟩ := sb_s h
      refine nb_cq (nb_runV (As := []) (rest := []) hx hb hml hown hSW hS hW (c_X5_soundingPan l z ad N X u (ix y2) g12 h14) mf_X5_soundingPan lk_X7_236 (kr_15 g12) rfl rfl ⟨rfl, rfl⟩ ⟨Nat.le_of_ble_eq_true rfl, Nat.le_of_ble_eq_true rfl⟩ hl.1 (Nat.le_of_ble_eq_true rfl) dX7_rehearse_74 ⟨Nat.le_of_ble_eq_true rfl, Nat.le_of_ble_eq_true rfl⟩) hS (fun H locs (hW : GW z ad (GC z ad N X u15) H) hS => ?_)
      refine nb_oc (fun o17 => ?_) (fun q16 o17 => ?_)
      · replace h := oc_n o17 h
        refine lv_astore_nN (lv' := [(3, .null), (2, .int y2), (0, .ref (ad 0 0)), (1, .int y1)]) hx hb dX7_rehearse_77 rfl hl (by decide) rfl (fun ls hl => ?_)
        refine lv_aload_nN hx hb dX7_rehearse_78 rfl (lv_at hl 0 rfl) ?_
        refine lv_ifnullN (tgt := 92) hx hb dX7_rehearse_79 (by decide) ?_
        obtain ⟨v18, ev18, h⟩ := nm_s h
        refine lv_iinc (v := v18) (lv' := [(2, .int v18), (3, .null), (0, .ref (ad 0 0)), (1, .int y1)]) hx hb dX7_rehearse_92 hl (k := 1) rfl (by rw [ev18]; rfl) (by decide) rfl (fun ls hl => ?_)
        refine lv_goto (tgt := 60) hx hb dX7_rehearse_95 (by decide) ?_
        exact hih60 _ _ _ _ _ _ (lv_sub hl [0, 2, 3] rfl) hW hS h
      · replace h := oc_q o17 h
        obtain ⟨g19, h⟩ := gd_s h
        refine lv_astore_n (lv' := [(3, .ref (ad 12 q16)), (2, .int y2), (0, .ref (ad 0 0)), (1, .int y1)]) hx hb dX7_rehearse_77 rfl hl (by decide) rfl (fun ls hl => ?_)
        refine lv_aload_n hx hb dX7_rehearse_78 rfl (lv_at hl 0 rfl) ?_
        refine lv_ifnull hx hb dX7_rehearse_79 ?_
        refine lv_aload_n hx hb dX7_rehearse_82 rfl (lv_at hl 2 rfl) ?_
        refine lv_iload_n hx hb dX7_rehearse_83 rfl (lv_at hl 1 rfl) ?_
        refine lv_aload_n hx hb dX7_rehearse_84 rfl (lv_at hl 0 rfl) ?_
        refine lv_iload_n hx hb dX7_rehearse_85 rfl (lv_at hl 3 rfl) ?_
        refine lv_bipush (v := 10) hx hb dX7_rehearse_86 (by decide) ?_
        refine lv_idiv hx hb dX7_rehearse_88 (by decide) ?_
        obtain ⟨r20, u22, h21, h⟩ := sb_s h
        refine nb_cv (nb_runV (As := [.int y2, .ref (ad 12 q16), .int (y1 / 10)]) (rest := []) hx hb hml hown hSW hS hW (c_X7_rehearsePlaces l z ad N X u15 y2 q16 (y1 / 10) g19 h21) mf_X7_rehearsePlaces lk_X7_240 kr_0 rfl rfl ⟨rfl, rfl⟩ ⟨Nat.le_of_ble_eq_true rfl, Nat.le_of_ble_eq_true rfl⟩ hl.1 (Nat.le_of_ble_eq_true rfl) dX7_rehearse_89 ⟨Nat.le_of_ble_eq_true rfl, Nat.le_of_ble_eq_true rfl⟩) hS (fun H locs (hW : GW z ad (GC z ad N X u22) H) hS => ?_)
        obtain ⟨v23, ev23, h⟩ := nm_s h
        refine lv_iinc (v := v23) (lv' := [(2, .int v23), (3, .ref (ad 12 q16)), (0, .ref (ad 0 0)), (1, .int y1)]) hx hb dX7_rehearse_92 hl (k := 1) rfl (by rw [ev23]; rfl) (by decide) rfl (fun ls hl => ?_)
        refine lv_goto (tgt := 60) hx hb dX7_rehearse_95 (by decide) ?_
        exact hih60 _ _ _ _ _ _ (lv_sub hl [0, 2, 3] rfl) hW hS h
  have hL60 : ∀ (n : Nat), ∀ (y2 : Int32) (y1 : Int32) (u : St) (H : Heap) (locs : List Loc) (ls : Array Slot), lv_has ls 4 [(2, .int y2), (0, .ref (ad 0 0)), (1, .int y1)] → GW z ad (GC z ad N X u) H → va_S (zA z) s.heap H locs → f_X7_rehearse_L60 N n y2 y1 u = some (.ok r9, u9) → WW H locs (F0 m 60 ls []) := by
    intro n
    induction n with
    | zero => intro y2 y1 u H locs ls hl hW hS h; exact absurd h (by intro q; cases q)
    | succ n ihn => intro y2 y1 u H locs ls hl hW hS h; exact hL60b (f_X7_rehearse_L60 N n) ihn y2 y1 u H locs ls hl hW hS h
  unfold f_X7_rehearse at h
  refine lv_iload_n hx hb dX7_rehearse_0 rfl (lv_at hl 1 rfl) ?_
  refine lv_bipush (v := 10) hx hb dX7_rehearse_1 (by decide) ?_
  refine lv_bipush (v := 120) hx hb dX7_rehearse_3 (by decide) ?_
  obtain ⟨r1, u3, h2, h⟩ := sb_s h
  refine nb_ci (nb_runS (As := [.int x1, .int 10, .int 120]) (rest := []) hx hb hml hown hSW hS hW (c_X7_isWithin l z ad N X u x1 10 120 h2) mf_X7_isWithin lk_X7_96 rfl ⟨rfl, rfl⟩ ⟨Nat.le_of_ble_eq_true rfl, Nat.le_of_ble_eq_true rfl⟩ hl.1 (Nat.le_of_ble_eq_true rfl) dX7_rehearse_5 ⟨Nat.le_of_ble_eq_true rfl, Nat.le_of_ble_eq_true rfl⟩) hS (fun H locs (hW : GW z ad (GC z ad N X u3) H) hS => ?_)
  refine lv_if_ne (tgt := 21) hx hb dX7_rehearse_8 (by decide) (fun c4 => ?_) (fun c4 => ?_)
  · replace h := ite_f h c4
    refine lv_aload_n hx hb dX7_rehearse_21 rfl (lv_at hl 0 rfl) ?_
    refine nb_get hx hb hT hK hown hW fl_X7_44 kr_0 (v := .ref (ad 5 0)) rfl dX7_rehearse_22 ?_
    refine nb_get hx hb hT hK hown hW fl_X7_231 kr_5 (v := .int (u3 52 0 0)) rfl dX7_rehearse_25 ?_
    refine lv_iload_n hx hb dX7_rehearse_28 rfl (lv_at hl 1 rfl) ?_
    refine lv_iadd hx hb dX7_rehearse_29 ?_
    refine lv_bipush (v := 120) hx hb dX7_rehearse_30 (by decide) ?_
    refine lv_icmp_le (tgt := 45) hx hb dX7_rehearse_32 (by decide) (fun c5 => ?_) (fun c5 => ?_)
    · replace h := ite_t h c5
      refine lv_aload_n hx hb dX7_rehearse_45 rfl (lv_at hl 0 rfl) ?_
      refine nb_get hx hb hT hK hown hW fl_X7_44 kr_0 (v := .ref (ad 5 0)) rfl dX7_rehearse_46 ?_
      refine lv_dup hx hb dX7_rehearse_49 rfl ?_
      refine nb_get hx hb hT hK hown hW fl_X7_231 kr_5 (v := .int (u3 52 0 0)) rfl dX7_rehearse_50 ?_
      refine lv_iload_n hx hb dX7_rehearse_53 rfl (lv_at hl 1 rfl) ?_
      refine lv_iadd hx hb dX7_rehearse_54 ?_
      obtain ⟨u6, eu6, h⟩ := nm_s h
      refine nb_put hx hb hT hK hown hW hS fl_X7_231 tyX6 tyX6_ok nmX6 kr_5 (v := .int ((u3 52 0 0) + x1)) rfl rfl rfl (Nat.le_of_ble_eq_true rfl) ((gp_52).trans (congrArg (GC z ad N X) eu6.symm)) dX7_rehearse_55 (fun H locs hW hS => ?_)
      refine lv_iconst (v := 0) hx hb dX7_rehearse_58 (by decide) ?_
      refine lv_istore_n (lv' := [(2, .int 0), (0, .ref (ad 0 0)), (1, .int x1)]) hx hb dX7_rehearse_59 rfl hl (by decide) rfl (fun ls hl => ?_)
      exact hL60 1000000 _ _ _ _ _ _ (lv_sub hl [0, 1, 2] rfl) hW hS h
    · replace h := ite_f h c5
      exact absurd h (by intro q; cases q)
  · replace h := ite_t h c4
    exact absurd h (by intro q; cases q)
/-- Panyard$Minds.sleep -/
def f_X2_sleep_L11b (N : Nt) (k0 : Nat) (ih2 : Int32 → Int32 → St → Option (Unit × St)) (ih11 : Int32 → Int32 → Int32 → St → Option (Unit × St)) (y4 : Int32) (y3 : Int32) (y2 : Int32) (u : St) : Option (Unit × St) :=
  if y2 ≤ y4 then
    gd (inb y3 8) <|
    nm (sset u 41 k0 (ix y3) 0) fun u4 =>
    nm (y3 + 1) fun v5 =>
    ih2 v5 y2 u4
  else
    gd (inb y3 8) <|
    if (((u 41 k0 (ix y3)) >>> (y4 &&& 31)) &&& 1) = 0 then
      gd (inb y4 8) <|
      gd ((ix y4) < N 14) <|
      nm (mmax 0 (((u 40 (8 * k0 + (ix y3)) (ix y4)) - ((u 21 (ix y4) 0) / 2)) - 1)) fun v11 =>
      nm (sset u 40 (8 * k0 + (ix y3)) (ix y4) v11) fun u12 =>
      nm (y4 + 1) fun v13 =>
      ih11 v13 y3 y2 u12
    else
      nm (y4 + 1) fun v8 =>
      ih11 v8 y3 y2 u
def f_X2_sleep_L11 (N : Nt) (k0 : Nat) (ih2 : Int32 → Int32 → St → Option (Unit × St)) : Nat → Int32 → Int32 → Int32 → St → Option (Unit × St) := lp (fun _ _ _ _ => none) (f_X2_sleep_L11b N k0 ih2)
def f_X2_sleep_L2b (N : Nt) (k0 : Nat) (ih2 : Int32 → Int32 → St → Option (Unit × St)) (y3 : Int32) (y2 : Int32) (u : St) : Option (Unit × St) :=
  if 8 ≤ y3 then
    some ((), u)
  else
    f_X2_sleep_L11 N k0 ih2 1000000 0 y3 y2 u
def f_X2_sleep_L2 (N : Nt) (k0 : Nat) : Nat → Int32 → Int32 → St → Option (Unit × St) := lp (fun _ _ _ => none) (f_X2_sleep_L2b N k0)
def f_X2_sleep (N : Nt) (u : St) (k0 : Nat) (x2 : Int32) : Option (Unit × St) :=
  f_X2_sleep_L2 N k0 1000000 0 x2 u
set_option maxRecDepth 100000 in
set_option maxHeartbeats 4000000 in
theorem c_X2_sleep (l : Launch) (z : Zt) (ad : Ad) (N : Nt) (X : Gt) (u : St) (k0 : Nat) (x2 : Int32) (hk0 : k0 < 2) {r9 : Unit} {u9 : St} (h : f_X2_sleep N u k0 x2 = some (r9, u9)) : MC l z yX2_sleep cX2_sleep 5 none { frames := 1, cells := 0, slots := 0, locals := 21 } 0 0 [.ref (ad 10 k0), .ref (ad 2 0), .int x2] ad (GC z ad N X u) (QV z ad (GC z ad N X u9)) := by
  refine Met.ofW (cc := cX2_sleep) (maxL := 5) (ret := none) (by decide) rfl ?_
  intro p e s m args below meth c s₁ B hml hv
  obtain ⟨rfl, hSW, hW⟩ := hv
  have hx := B.exec; have hb := B.bytes; have hr := B.returns; have hlocks := B.notSynchronized
  have hown : s.vm.findClass RX2 = some m.cls := findClass_of_methodNamed B.named
  obtain ⟨hT, hK, hST, hB0⟩ := id hSW
  have hS : va_S (zA z) s.heap s.heap [] := va_S.rf
  have hl := lv_entry ([.ref (ad 10 k0), .ref (ad 2 0), .int x2]) (n := 5) (Nat.le_of_ble_eq_true rfl)
  rw [lg_entry_eq]
  generalize (lg_sl ([.ref (ad 10 k0), .ref (ad 2 0), .int x2]) ++ List.replicate (5 - (lg_sl ([.ref (ad 10 k0), .ref (ad 2 0), .int x2])).length) Slot.unset).toArray = ls at hl ⊢
  have hl : lv_has ls 5 [(0, .ref (ad 10 k0)), (1, .ref (ad 2 0)), (2, .int x2)] := hl
  let WW : Heap → List Loc → JFrame → Prop := fun H locs g => W p l e (headSpec [Cond.code yX2_sleep cX2_sleep 5 none] { frames := 1, cells := 0, slots := 0, locals := 21 }).room s m [.ref (ad 10 k0), .ref (ad 2 0), .int x2].toArray below meth c H locs 0 0 (MQ below (QV z ad (GC z ad N X u9)) [.ref (ad 10 k0), .ref (ad 2 0), .int x2].toArray s 0 0 (zA z)) g
  have hL11b : ∀ (ih2 : Int32 → Int32 → St → Option (Unit × St)) (hih2 : ∀ (y3 : Int32) (y2 : Int32) (u : St) (H : Heap) (locs : List Loc) (ls : Array Slot), lv_has ls 5 [(3, .int y3), (0, .ref (ad 10 k0)), (1, .ref (ad 2 0)), (2, .int y2)] → GW z ad (GC z ad N X u) H → va_S (zA z) s.heap H locs → ih2 y3 y2 u = some (r9, u9) → WW H locs (F0 m 2 ls [])), ∀ (ih11 : Int32 → Int32 → Int32 → St → Option (Unit × St)) (hih11 : ∀ (y4 : Int32) (y3 : Int32) (y2 : Int32) (u : St) (H : Heap) (locs : List Loc) (ls : Array Slot), lv_has ls 5 [(4, .int y4), (3, .int y3), (0, .ref (ad 10 k0)), (1, .ref (ad 2 0)), (2, .int y2)] → GW z ad (GC z ad N X u) H → va_S (zA z) s.heap H locs → ih11 y4 y3 y2 u = some (r9, u9) → WW H locs (F0 m 11 ls [])), ∀ (y4 : Int32) (y3 : Int32) (y2 : Int32) (u : St) (H : Heap) (locs : List Loc) (ls : Array Slot), lv_has ls 5 [(4, .int y4), (3, .int y3), (0, .ref (ad 10 k0)), (1, .ref (ad 2 0)), (2, .int y2)] → GW z ad (GC z ad N X u) H → va_S (zA z) s.heap H locs → f_X2_sleep_L11b N k0 ih2 ih11 y4 y3 y2 u = some (r9, u9) → WW H locs (F0 m 11 ls []) := by
    intro ih2 hih2 ih11 hih11 y4 y3 y2 u H locs ls hl hW hS h
    change W p l e _ s m _ below meth c H locs 0 0 _ (F0 m 11 ls [])
    unfold f_X2_sleep_L11b at h
    refine lv_iload hx hb dX2_sleep_11 (lv_at hl 0 rfl) ?_
    refine lv_iload_n hx hb dX2_sleep_13 rfl (lv_at hl 4 rfl) ?_
    refine lv_icmp_ge (tgt := 71) hx hb dX2_sleep_14 (by decide) (fun c2 => ?_) (fun c2 => ?_)
    · replace h := ite_t h c2
      refine lv_aload_n hx hb dX2_sleep_71 rfl (lv_at hl 2 rfl) ?_
      refine nb_get hx hb hT hK hown hW fl_X2_16 (kr_10 hk0) (v := .ref (ad 21 k0)) rfl dX2_sleep_72 ?_
      refine lv_iload_n hx hb dX2_sleep_75 rfl (lv_at hl 1 rfl) ?_
      refine lv_iconst (v := 0) hx hb dX2_sleep_76 (by decide) ?_
      obtain ⟨g3, h⟩ := gd_s h
      obtain ⟨u4, eu4, h⟩ := nm_s h
      refine nb_iast hx hb hK hW hS 0 (kr_21 hk0) rfl (inb_in g3) ((gp_41 hk0).trans (congrArg (GC z ad N X) eu4.symm)) dX2_sleep_77 (fun H locs hW hS => ?_)
      obtain ⟨v5, ev5, h⟩ := nm_s h
      refine lv_iinc (v := v5) (lv' := [(3, .int v5), (4, .int y4), (0, .ref (ad 10 k0)), (1, .ref (ad 2 0)), (2, .int y2)]) hx hb dX2_sleep_78 hl (k := 1) rfl (by rw [ev5]; rfl) (by decide) rfl (fun ls hl => ?_)
      refine lv_goto (tgt := 2) hx hb dX2_sleep_81 (by decide) ?_
      exact hih2 _ _ _ _ _ _ (lv_sub hl [0, 2, 3, 4] rfl) hW hS h
    · replace h := ite_f h c2
      refine lv_aload_n hx hb dX2_sleep_17 rfl (lv_at hl 2 rfl) ?_
      refine nb_get hx hb hT hK hown hW fl_X2_16 (kr_10 hk0) (v := .ref (ad 21 k0)) rfl dX2_sleep_18 ?_
      refine lv_iload_n hx hb dX2_sleep_21 rfl (lv_at hl 1 rfl) ?_
      obtain ⟨g6, h⟩ := gd_s h
      refine nb_iald hx hb hK hW 0 (kr_21 hk0) rfl (inb_in g6) dX2_sleep_22 ?_
      refine lv_iload hx hb dX2_sleep_23 (lv_at hl 0 rfl) ?_
      refine lv_ishr hx hb dX2_sleep_25 ?_
      refine lv_iconst (v := 1) hx hb dX2_sleep_26 (by decide) ?_
      refine lv_iand hx hb dX2_sleep_27 ?_
      refine lv_if_ne (tgt := 65) hx hb dX2_sleep_28 (by decide) (fun c7 => ?_) (fun c7 => ?_)
      · replace h := ite_f h c7
        obtain ⟨v8, ev8, h⟩ := nm_s h
        refine lv_iinc (v := v8) (lv' := [(4, .int v8), (3, .int y3), (0, .ref (ad 10 k0)), (1, .ref (ad 2 0)), (2, .int y2)]) hx hb dX2_sleep_65 hl (k := 0) rfl (by rw [ev8]; rfl) (by decide) rfl (fun ls hl => ?_)
        refine lv_goto (tgt := 11) hx hb dX2_sleep_68 (by decide) ?_
        exact hih11 _ _ _ _ _ _ _ (lv_sub hl [0, 1, 2, 3, 4] rfl) hW hS h
      · replace h := ite_t h c7
        refine lv_aload_n hx hb dX2_sleep_31 rfl (lv_at hl 2 rfl) ?_
        refine nb_get hx hb hT hK hown hW fl_X2_11 (kr_10 hk0) (v := .ref (ad 11 k0)) rfl dX2_sleep_32 ?_
        refine lv_iload_n hx hb dX2_sleep_35 rfl (lv_at hl 1 rfl) ?_
        refine nb_aald hx hb hK hW 1 (kr_11 hk0) rfl rfl (inb_in g6) (a := ad 20 (8 * k0 + (ix y3))) (qrow_at (inb_lt g6)) dX2_sleep_36 ?_
        refine lv_iload hx hb dX2_sleep_37 (lv_at hl 0 rfl) ?_
        refine lv_iconst (v := 0) hx hb dX2_sleep_39 (by decide) ?_
        refine lv_aload_n hx hb dX2_sleep_40 rfl (lv_at hl 2 rfl) ?_
        refine nb_get hx hb hT hK hown hW fl_X2_11 (kr_10 hk0) (v := .ref (ad 11 k0)) rfl dX2_sleep_41 ?_
        refine lv_iload_n hx hb dX2_sleep_44 rfl (lv_at hl 1 rfl) ?_
        refine nb_aald hx hb hK hW 1 (kr_11 hk0) rfl rfl (inb_in g6) (a := ad 20 (8 * k0 + (ix y3))) (qrow_at (inb_lt g6)) dX2_sleep_45 ?_
        refine lv_iload hx hb dX2_sleep_46 (lv_at hl 0 rfl) ?_
        obtain ⟨g09, h⟩ := gd_s h
        refine nb_iald hx hb hK hW 0 (kr_20 (row_lt hk0 (inb_lt g6))) rfl (inb_in g09) dX2_sleep_48 ?_
        refine lv_aload_n hx hb dX2_sleep_49 rfl (lv_at hl 3 rfl) ?_
        refine lv_iload hx hb dX2_sleep_50 (lv_at hl 0 rfl) ?_
        obtain ⟨g10, h⟩ := gd_s h
        refine nb_aald hx hb hK hW 3 kr_2 rfl rfl (inb_in g09) (a := ad 14 (ix y4)) (qrow_at g10) dX2_sleep_52 ?_
        refine nb_get hx hb hT hK hown hW fl_X2_32 (kr_14 g10) (v := .int (u 21 (ix y4) 0)) rfl dX2_sleep_53 ?_
        refine lv_iconst (v := 2) hx hb dX2_sleep_56 (by decide) ?_
        refine lv_idiv hx hb dX2_sleep_57 (by decide) ?_
        refine lv_isub hx hb dX2_sleep_58 ?_
        refine lv_iconst (v := 1) hx hb dX2_sleep_59 (by decide) ?_
        refine lv_isub hx hb dX2_sleep_60 ?_
        refine nb_mmax hx hb hml hl.1 hown hT lm_X2_38 mf_Math_max ⟨Nat.le_of_ble_eq_true rfl, Nat.le_of_ble_eq_true rfl⟩ ⟨Nat.le_of_ble_eq_true rfl, Nat.le_of_ble_eq_true rfl⟩ dX2_sleep_61 ?_
        refine lv_topi (fun v11 ev11 => ?_)
        replace h := nm_at ev11 h
        obtain ⟨u12, eu12, h⟩ := nm_s h
        refine nb_iast hx hb hK hW hS 0 (kr_20 (row_lt hk0 (inb_lt g6))) rfl (inb_in g09) ((gp_40 (row_lt hk0 (inb_lt g6))).trans (congrArg (GC z ad N X) eu12.symm)) dX2_sleep_64 (fun H locs hW hS => ?_)
        obtain ⟨v13, ev13, h⟩ := nm_s h
        refine lv_iinc (v := v13) (lv' := [(4, .int v13), (3, .int y3), (0, .ref (ad 10 k0)), (1, .ref (ad 2 0)), (2, .int y2)]) hx hb dX2_sleep_65 hl (k := 0) rfl (by rw [ev13]; rfl) (by decide) rfl (fun ls hl => ?_)
        refine lv_goto (tgt := 11) hx hb dX2_sleep_68 (by decide) ?_
        exact hih11 _ _ _ _ _ _ _ (lv_sub hl [0, 1, 2, 3, 4] rfl) hW hS h
  have hL11 : ∀ (ih2 : Int32 → Int32 → St → Option (Unit × St)) (hih2 : ∀ (y3 : Int32) (y2 : Int32) (u : St) (H : Heap) (locs : List Loc) (ls : Array Slot), lv_has ls 5 [(3, .int y3), (0, .ref (ad 10 k0)), (1, .ref (ad 2 0)), (2, .int y2)] → GW z ad (GC z ad N X u) H → va_S (zA z) s.heap H locs → ih2 y3 y2 u = some (r9, u9) → WW H locs (F0 m 2 ls [])), ∀ (n : Nat), ∀ (y4 : Int32) (y3 : Int32) (y2 : Int32) (u : St) (H : Heap) (locs : List Loc) (ls : Array Slot), lv_has ls 5 [(4, .int y4), (3, .int y3), (0, .ref (ad 10 k0)), (1, .ref (ad 2 0)), (2, .int y2)] → GW z ad (GC z ad N X u) H → va_S (zA z) s.heap H locs → f_X2_sleep_L11 N k0 ih2 n y4 y3 y2 u = some (r9, u9) → WW H locs (F0 m 11 ls []) := by
    intro ih2 hih2 n
    induction n with
    | zero => intro y4 y3 y2 u H locs ls hl hW hS h; exact absurd h (by intro q; cases q)
    | succ n ihn => intro y4 y3 y2 u H locs ls hl hW hS h; exact hL11b ih2 hih2 (f_X2_sleep_L11 N k0 ih2 n) ihn y4 y3 y2 u H locs ls hl hW hS h
  have hL2b : ∀ (ih2 : Int32 → Int32 → St → Option (Unit × St)) (hih2 : ∀ (y3 : Int32) (y2 : Int32) (u : St) (H : Heap) (locs : List Loc) (ls : Array Slot), lv_has ls 5 [(3, .int y3), (0, .ref (ad 10 k0)), (1, .ref (ad 2 0)), (2, .int y2)] → GW z ad (GC z ad N X u) H → va_S (zA z) s.heap H locs → ih2 y3 y2 u = some (r9, u9) → WW H locs (F0 m 2 ls [])), ∀ (y3 : Int32) (y2 : Int32) (u : St) (H : Heap) (locs : List Loc) (ls : Array Slot), lv_has ls 5 [(3, .int y3), (0, .ref (ad 10 k0)), (1, .ref (ad 2 0)), (2, .int y2)] → GW z ad (GC z ad N X u) H → va_S (zA z) s.heap H locs → f_X2_sleep_L2b N k0 ih2 y3 y2 u = some (r9, u9) → WW H locs (F0 m 2 ls []) := by
    intro ih2 hih2 y3 y2 u H locs ls hl hW hS h
    change W p l e _ s m _ below meth c H locs 0 0 _ (F0 m 2 ls [])
    unfold f_X2_sleep_L2b at h
    refine lv_iload_n hx hb dX2_sleep_2 rfl (lv_at hl 0 rfl) ?_
    refine lv_bipush (v := 8) hx hb dX2_sleep_3 (by decide) ?_
    refine lv_icmp_ge (tgt := 84) hx hb dX2_sleep_5 (by decide) (fun c1 => ?_) (fun c1 => ?_)
    · replace h := ite_t h c1
      exact ne_vret hx hb hr hlocks hW hS dX2_sleep_84 h
    · replace h := ite_f h c1
      refine lv_iconst (v := 0) hx hb dX2_sleep_8 (by decide) ?_
      refine lv_istore (lv' := [(4, .int 0), (3, .int y3), (0, .ref (ad 10 k0)), (1, .ref (ad 2 0)), (2, .int y2)]) hx hb dX2_sleep_9 hl (by decide) rfl (fun ls hl => ?_)
      exact hL11 ih2 hih2 1000000 _ _ _ _ _ _ _ (lv_sub hl [0, 1, 2, 3, 4] rfl) hW hS h
  have hL2 : ∀ (n : Nat), ∀ (y3 : Int32) (y2 : Int32) (u : St) (H : Heap) (locs : List Loc) (ls : Array Slot), lv_has ls 5 [(3, .int y3), (0, .ref (ad 10 k0)), (1, .ref (ad 2 0)), (2, .int y2)] → GW z ad (GC z ad N X u) H → va_S (zA z) s.heap H locs → f_X2_sleep_L2 N k0 n y3 y2 u = some (r9, u9) → WW H locs (F0 m 2 ls []) := by
    intro n
    induction n with
    | zero => intro y3 y2 u H locs ls hl hW hS h; exact absurd h (by intro q; cases q)
    | succ n ihn => intro y3 y2 u H locs ls hl hW hS h; exact hL2b (f_X2_sleep_L2 N k0 n) ihn y3 y2 u H locs ls hl hW hS h
  unfold f_X2_sleep at h
  refine lv_iconst (v := 0) hx hb dX2_sleep_0 (by decide) ?_
  refine lv_istore_n (lv' := [(3, .int 0), (0, .ref (ad 10 k0)), (1, .ref (ad 2 0)), (2, .int x2)]) hx hb dX2_sleep_1 rfl hl (by decide) rfl (fun ls hl => ?_)
  exact hL2 1000000 _ _ _ _ _ _ (lv_sub hl [0, 1, 2, 3] rfl) hW hS h
/-- Panyard$Pan.warm -/
def f_X3_warm_L2b (N : Nt) (k0 : Nat) (ih2 : Int32 → St → Option (Unit × St)) (y1 : Int32) (u : St) : Option (Unit × St) :=
  if 8 ≤ y1 then
    some ((), u)
  else
    sb (f_X3_shift N u k0 y1 1) fun r2 u4 =>
    nm (y1 + 1) fun v5 =>
    ih2 v5 u4
def f_X3_warm_L2 (N : Nt) (k0 : Nat) : Nat → Int32 → St → Option (Unit × St) := lp (fun _ _ => none) (f_X3_warm_L2b N k0)
def f_X3_warm (N : Nt) (u : St) (k0 : Nat) : Option (Unit × St) :=
  f_X3_warm_L2 N k0 1000000 0 u
set_option maxRecDepth 100000 in
set_option maxHeartbeats 4000000 in
theorem c_X3_warm (l : Launch) (z : Zt) (ad : Ad) (N : Nt) (X : Gt) (u : St) (k0 : Nat) (hk0 : vPan N k0) {r9 : Unit} {u9 : St} (h : f_X3_warm N u k0 = some (r9, u9)) : MC l z yX3_warm cX3_warm 2 none { frames := 2, cells := 0, slots := 0, locals := 44 } 0 0 [.ref (ad 12 k0)] ad (GC z ad N X u) (QV z ad (GC z ad N X u9)) := by
  refine Met.ofW (cc := cX3_warm) (maxL := 2) (ret := none) (by decide) rfl ?_
  intro p e s m args below meth c s₁ B hml hv
  obtain ⟨rfl, hSW, hW⟩ := hv
  have hx := B.exec; have hb := B.bytes; have hr := B.returns; have hlocks := B.notSynchronized
  have hown : s.vm.findClass RX3 = some m.cls := findClass_of_methodNamed B.named
  obtain ⟨hT, hK, hST, hB0⟩ := id hSW
  have hS : va_S (zA z) s.heap s.heap [] := va_S.rf
  have hl := lv_entry ([.ref (ad 12 k0)]) (n := 2) (Nat.le_of_ble_eq_true rfl)
  rw [lg_entry_eq]
  generalize (lg_sl ([.ref (ad 12 k0)]) ++ List.replicate (2 - (lg_sl ([.ref (ad 12 k0)])).length) Slot.unset).toArray = ls at hl ⊢
  have hl : lv_has ls 2 [(0, .ref (ad 12 k0))] := hl
  let WW : Heap → List Loc → JFrame → Prop := fun H locs g => W p l e (headSpec [Cond.code yX3_warm cX3_warm 2 none] { frames := 2, cells := 0, slots := 0, locals := 44 }).room s m [.ref (ad 12 k0)].toArray below meth c H locs 0 0 (MQ below (QV z ad (GC z ad N X u9)) [.ref (ad 12 k0)].toArray s 0 0 (zA z)) g
  have hL2b : ∀ (ih2 : Int32 → St → Option (Unit × St)) (hih2 : ∀ (y1 : Int32) (u : St) (H : Heap) (locs : List Loc) (ls : Array Slot), lv_has ls 2 [(1, .int y1), (0, .ref (ad 12 k0))] → GW z ad (GC z ad N X u) H → va_S (zA z) s.heap H locs → ih2 y1 u = some (r9, u9) → WW H locs (F0 m 2 ls [])), ∀ (y1 : Int32) (u : St) (H : Heap) (locs : List Loc) (ls : Array Slot), lv_has ls 2 [(1, .int y1), (0, .ref (ad 12 k0))] → GW z ad (GC z ad N X u) H → va_S (zA z) s.heap H locs → f_X3_warm_L2b N k0 ih2 y1 u = some (r9, u9) → WW H locs (F0 m 2 ls []) := by
    intro ih2 hih2 y1 u H locs ls hl hW hS h
    change W p l e _ s m _ below meth c H locs 0 0 _ (F0 m 2 ls [])
    unfold f_X3_warm_L2b at h
    refine lv_iload_n hx hb dX3_warm_2 rfl (lv_at hl 0 rfl) ?_
    refine lv_bipush (v := 8) hx hb dX3_warm_3 (by decide) ?_
    refine lv_icmp_ge (tgt := 20) hx hb dX3_warm_5 (by decide) (fun c1 => ?_) (fun c1 => ?_)
    · replace h := ite_t h c1
      exact ne_vret hx hb hr hlocks hW hS dX3_warm_20 h
    · replace h := ite_f h c1
      refine lv_aload_n hx hb dX3_warm_8 rfl (lv_at hl 1 rfl) ?_
      refine lv_iload_n hx hb dX3_warm_9 rfl (lv_at hl 0 rfl) ?_
      refine lv_iconst (v := 1) hx hb dX3_warm_10 (by decide) ?_
      obtain ⟨r2, u4, h3, h⟩ := sb_s h
      refine nb_cv (nb_runV (As := [.int y1, .int 1]) (rest := []) hx hb hml hown hSW hS hW (c_X3_shift l z ad N X u k0 y1 1 hk0 h3) mf_X3_shift lk_X3_57 (kr_12 hk0) rfl rfl ⟨rfl, rfl⟩ ⟨Nat.le_of_ble_eq_true rfl, Nat.le_of_ble_eq_true rfl⟩ hl.1 (Nat.le_of_ble_eq_true rfl) dX3_warm_11 ⟨Nat.le_of_ble_eq_true rfl, Nat.le_of_ble_eq_true rfl⟩) hS (fun H locs (hW : GW z ad (GC z ad N X u4) H) hS => ?_)
      obtain ⟨v5, ev5, h⟩ := nm_s h
      refine lv_iinc (v := v5) (lv' := [(1, .int v5), (0, .ref (ad 12 k0))]) hx hb dX3_warm_14 hl (k := 0) rfl (by rw [ev5]; rfl) (by decide) rfl (fun ls hl => ?_)
      refine lv_goto (tgt := 2) hx hb dX3_warm_17 (by decide) ?_
      exact hih2 _ _ _ _ _ (lv_sub hl [0, 1] rfl) hW hS h
  have hL2 : ∀ (n : Nat), ∀ (y1 : Int32) (u : St) (H : Heap) (locs : List Loc) (ls : Array Slot), lv_has ls 2 [(1, .int y1), (0, .ref (ad 12 k0))] → GW z ad (GC z ad N X u) H → va_S (zA z) s.heap H locs → f_X3_warm_L2 N k0 n y1 u = some (r9, u9) → WW H locs (F0 m 2 ls []) := by
    intro n
    induction n with
    | zero => intro y1 u H locs ls hl hW hS h; exact absurd h (by intro q; cases q)
    | succ n ihn => intro y1 u H locs ls hl hW hS h; exact hL2b (f_X3_warm_L2 N k0 n) ihn y1 u H locs ls hl hW hS h
  unfold f_X3_warm at h
  refine lv_iconst (v := 0) hx hb dX3_warm_0 (by decide) ?_
  refine lv_istore_n (lv' := [(1, .int 0), (0, .ref (ad 12 k0))]) hx hb dX3_warm_1 rfl hl (by decide) rfl (fun ls hl => ?_)
  exact hL2 1000000 _ _ _ _ _ (lv_sub hl [0, 1] rfl) hW hS h
/-- Panyard.weather -/
def f_X7_weather_B25 (N : Nt) (ih2 : Int32 → Int32 → Int32 → St → Option (Unit × St)) (y3 : Int32) (y1 : Int32) (y2 : Int32) (u : St) : Option (Unit × St) :=
  if y2 < 5 then
    nm (y3 + 1) fun v4 =>
    ih2 v4 y1 y2 u
  else
    if (u 4 0 0) = 0 then
      gd (inb y3 6) <|
      gd ((ix y3) < N 12) <|
      nm (sset u 12 (ix y3) 0 ((u 12 (ix y3) 0) + 10)) fun u09 =>
      nm (y3 + 1) fun v10 =>
      ih2 v10 y1 y2 u09
    else
      nm (y3 + 1) fun v6 =>
      ih2 v6 y1 y2 u
def f_X7_weather_L2b (N : Nt) (ih2 : Int32 → Int32 → Int32 → St → Option (Unit × St)) (y3 : Int32) (y1 : Int32) (y2 : Int32) (u : St) : Option (Unit × St) :=
  if (u 0 0 0) ≤ y3 then
    some ((), u)
  else
    if y1 < 7 then
      f_X7_weather_B25 N ih2 y3 y1 y2 u
    else
      gd (inb y3 6) <|
      gd ((ix y3) < N 12) <|
      sb (f_X3_warm N u (ix y3)) fun r13 u15 =>
      f_X7_weather_B25 N ih2 y3 y1 y2 u15
def f_X7_weather_L2 (N : Nt) : Nat → Int32 → Int32 → Int32 → St → Option (Unit × St) := lp (fun _ _ _ _ => none) (f_X7_weather_L2b N)
def f_X7_weather (N : Nt) (u : St) (x1 : Int32) (x2 : Int32) : Option (Unit × St) :=
  f_X7_weather_L2 N 1000000 0 x1 x2 u
set_option maxRecDepth 100000 in
set_option maxHeartbeats 4000000 in
theorem c_X7_weather (l : Launch) (z : Zt) (ad : Ad) (N : Nt) (X : Gt) (u : St) (x1 : Int32) (x2 : Int32) {r9 : Unit} {u9 : St} (h : f_X7_weather N u x1 x2 = some (r9, u9)) : MC l z yX7_weather cX7_weather 4 none { frames := 3, cells := 0, slots := 0, locals := 65 } 0 0 [.ref (ad 0 0), .int x1, .int x2] ad (GC z ad N X u) (QV z ad (GC z ad N X u9)) := by
  refine Met.ofW (cc := cX7_weather) (maxL := 4) (ret := none) (by decide) rfl ?_
  intro p e s m args below meth c s₁ B hml hv
  obtain ⟨rfl, hSW, hW⟩ := hv
  have hx := B.exec; have hb := B.bytes; have hr := B.returns; have hlocks := B.notSynchronized
  have hown : s.vm.findClass RX7 = some m.cls := findClass_of_methodNamed B.named
  obtain ⟨hT, hK, hST, hB0⟩ := id hSW
  have hS : va_S (zA z) s.heap s.heap [] := va_S.rf
  have hl := lv_entry ([.ref (ad 0 0), .int x1, .int x2]) (n := 4) (Nat.le_of_ble_eq_true rfl)
  rw [lg_entry_eq]
  generalize (lg_sl ([.ref (ad 0 0), .int x1, .int x2]) ++ List.replicate (4 - (lg_sl ([.ref (ad 0 0), .int x1, .int x2])).length) Slot.unset).toArray = ls at hl ⊢
  have hl : lv_has ls 4 [(0, .ref (ad 0 0)), (1, .int x1), (2, .int x2)] := hl
  let WW : Heap → List Loc → JFrame → Prop := fun H locs g => W p l e (headSpec [Cond.code yX7_weather cX7_weather 4 none] { frames := 3, cells := 0, slots := 0, locals := 65 }).room s m [.ref (ad 0 0), .int x1, .int x2].toArray below meth c H locs 0 0 (MQ below (QV z ad (GC z ad N X u9)) [.ref (ad 0 0), .int x1, .int x2].toArray s 0 0 (zA z)) g
  have hB25 : ∀ (ih2 : Int32 → Int32 → Int32 → St → Option (Unit × St)) (hih2 : ∀ (y3 : Int32) (y1 : Int32) (y2 : Int32) (u : St) (H : Heap) (locs : List Loc) (ls : Array Slot), lv_has ls 4 [(3, .int y3), (0, .ref (ad 0 0)), (1, .int y1), (2, .int y2)] → GW z ad (GC z ad N X u) H → va_S (zA z) s.heap H locs → ih2 y3 y1 y2 u = some (r9, u9) → WW H locs (F0 m 2 ls [])), ∀ (y3 : Int32) (y1 : Int32) (y2 : Int32) (u : St) (H : Heap) (locs : List Loc) (ls : Array Slot), lv_has ls 4 [(3, .int y3), (0, .ref (ad 0 0)), (1, .int y1), (2, .int y2)] → GW z ad (GC z ad N X u) H → va_S (zA z) s.heap H locs → f_X7_weather_B25 N ih2 y3 y1 y2 u = some (r9, u9) → WW H locs (F0 m 25 ls []) := by
    intro ih2 hih2 y3 y1 y2 u H locs ls hl hW hS h
    change W p l e _ s m _ below meth c H locs 0 0 _ (F0 m 25 ls [])
    unfold f_X7_weather_B25 at h
    refine lv_iload_n hx hb dX7_weather_25 rfl (lv_at hl 3 rfl) ?_
    refine lv_iconst (v := 5) hx hb dX7_weather_26 (by decide) ?_
    refine lv_icmp_lt (tgt := 53) hx hb dX7_weather_27 (by decide) (fun c3 => ?_) (fun c3 => ?_)
    · replace h := ite_t h c3
      obtain ⟨v4, ev4, h⟩ := nm_s h
      refine lv_iinc (v := v4) (lv' := [(3, .int v4), (0, .ref (ad 0 0)), (1, .int y1), (2, .int y2)]) hx hb dX7_weather_53 hl (k := 0) rfl (by rw [ev4]; rfl) (by decide) rfl (fun ls hl => ?_)
      refine lv_goto (tgt := 2) hx hb dX7_weather_56 (by decide) ?_
      exact hih2 _ _ _ _ _ _ _ (lv_sub hl [0, 1, 2, 3] rfl) hW hS h
    · replace h := ite_f h c3
      refine lv_aload_n hx hb dX7_weather_30 rfl (lv_at hl 1 rfl) ?_
      refine nb_get hx hb hT hK hown hW fl_X7_126 kr_0 (v := .int (u 4 0 0)) rfl dX7_weather_31 ?_
      refine lv_if_ne (tgt := 53) hx hb dX7_weather_34 (by decide) (fun c5 => ?_) (fun c5 => ?_)
      · replace h := ite_f h c5
        obtain ⟨v6, ev6, h⟩ := nm_s h
        refine lv_iinc (v := v6) (lv' := [(3, .int v6), (0, .ref (ad 0 0)), (1, .int y1), (2, .int y2)]) hx hb dX7_weather_53 hl (k := 0) rfl (by rw [ev6]; rfl) (by decide) rfl (fun ls hl => ?_)
        refine lv_goto (tgt := 2) hx hb dX7_weather_56 (by decide) ?_
        exact hih2 _ _ _ _ _ _ _ (lv_sub hl [0, 1, 2, 3] rfl) hW hS h
      · replace h := ite_t h c5
        refine lv_aload_n hx hb dX7_weather_37 rfl (lv_at hl 1 rfl) ?_
        refine nb_get hx hb hT hK hown hW fl_X7_11 kr_0 (v := .ref (ad 1 0)) rfl dX7_weather_38 ?_
        refine lv_iload_n hx hb dX7_weather_41 rfl (lv_at hl 0 rfl) ?_
        obtain ⟨g7, h⟩ := gd_s h
        obtain ⟨g8, h⟩ := gd_s h
        refine nb_aald hx hb hK hW 2 kr_1 rfl rfl (inb_in g7) (a := ad 12 (ix y3)) (qrow_at g8) dX7_weather_42 ?_
        refine lv_dup hx hb dX7_weather_43 rfl ?_
        refine nb_get hx hb hT hK hown hW fl_X7_117 (kr_12 (Or.inl g8)) (v := .int (u 12 (ix y3) 0)) rfl dX7_weather_44 ?_
        refine lv_bipush (v := 10) hx hb dX7_weather_47 (by decide) ?_
        refine lv_iadd hx hb dX7_weather_49 ?_
        obtain ⟨u09, eu09, h⟩ := nm_s h
        refine nb_put hx hb hT hK hown hW hS fl_X7_117 tyX3 tyX3_ok nmX3 (kr_12 (Or.inl g8)) (v := .int ((u 12 (ix y3) 0) + 10)) rfl rfl rfl (Nat.le_of_ble_eq_true rfl) ((gp_12 (Or.inl g8)).trans (congrArg (GC z ad N X) eu09.symm)) dX7_weather_50 (fun H locs hW hS => ?_)
        obtain ⟨v10, ev10, h⟩ := nm_s h
        refine lv_iinc (v := v10) (lv' := [(3, .int v10), (0, .ref (ad 0 0)), (1, .int y1), (2, .int y2)]) hx hb dX7_weather_53 hl (k := 0) rfl (by rw [ev10]; rfl) (by decide) rfl (fun ls hl => ?_)
        refine lv_goto (tgt := 2) hx hb dX7_weather_56 (by decide) ?_
        exact hih2 _ _ _ _ _ _ _ (lv_sub hl [0, 1, 2, 3] rfl) hW hS h
  have hL2b : ∀ (ih2 : Int32 → Int32 → Int32 → St → Option (Unit × St)) (hih2 : ∀ (y3 : Int32) (y1 : Int32) (y2 : Int32) (u : St) (H : Heap) (locs : List Loc) (ls : Array Slot), lv_has ls 4 [(3, .int y3), (0, .ref (ad 0 0)), (1, .int y1), (2, .int y2)] → GW z ad (GC z ad N X u) H → va_S (zA z) s.heap H locs → ih2 y3 y1 y2 u = some (r9, u9) → WW H locs (F0 m 2 ls [])), ∀ (y3 : Int32) (y1 : Int32) (y2 : Int32) (u : St) (H : Heap) (locs : List Loc) (ls : Array Slot), lv_has ls 4 [(3, .int y3), (0, .ref (ad 0 0)), (1, .int y1), (2, .int y2)] → GW z ad (GC z ad N X u) H → va_S (zA z) s.heap H locs → f_X7_weather_L2b N ih2 y3 y1 y2 u = some (r9, u9) → WW H locs (F0 m 2 ls []) := by
    intro ih2 hih2 y3 y1 y2 u H locs ls hl hW hS h
    change W p l e _ s m _ below meth c H locs 0 0 _ (F0 m 2 ls [])
    unfold f_X7_weather_L2b at h
    refine lv_iload_n hx hb dX7_weather_2 rfl (lv_at hl 0 rfl) ?_
    refine lv_aload_n hx hb dX7_weather_3 rfl (lv_at hl 1 rfl) ?_
    refine nb_get hx hb hT hK hown hW fl_X7_80 kr_0 (v := .int (u 0 0 0)) rfl dX7_weather_4 ?_
    refine lv_icmp_ge (tgt := 59) hx hb dX7_weather_7 (by decide) (fun c1 => ?_) (fun c1 => ?_)
    · replace h := ite_t h c1
      exact ne_vret hx hb hr hlocks hW hS dX7_weather_59 h
    · replace h := ite_f h c1
      refine lv_iload_n hx hb dX7_weather_10 rfl (lv_at hl 2 rfl) ?_
      refine lv_bipush (v := 7) hx hb dX7_weather_11 (by decide) ?_
      refine lv_icmp_lt (tgt := 25) hx hb dX7_weather_13 (by decide) (fun c2 => ?_) (fun c2 => ?_)
      · replace h := ite_t h c2
        exact hB25 ih2 hih2 _ _ _ _ _ _ _ (lv_sub hl [0, 1, 2, 3] rfl) hW hS h
      · replace h := ite_f h c2
        refine lv_aload_n hx hb dX7_weather_16 rfl (lv_at hl 1 rfl) ?_
        refine nb_get hx hb hT hK hown hW fl_X7_11 kr_0 (v := .ref (ad 1 0)) rfl dX7_weather_17 ?_
        refine lv_iload_n hx hb dX7_weather_20 rfl (lv_at hl 0 rfl) ?_
        obtain ⟨g11, h⟩ := gd_s h
        obtain ⟨g12, h⟩ := gd_s h
        refine nb_aald hx hb hK hW 2 kr_1 rfl rfl (inb_in g11) (a := ad 12 (ix y3)) (qrow_at g12) dX7_weather_21 ?_
        obtain ⟨r13, u15, h14, h⟩ := sb_s h
        refine nb_cv (nb_runV (As := []) (rest := []) hx hb hml hown hSW hS hW (c_X3_warm l z ad N X u (ix y3) (Or.inl g12) h14) mf_X3_warm lk_X7_495 (kr_12 (Or.inl g12)) rfl rfl ⟨rfl, rfl⟩ ⟨Nat.le_of_ble_eq_true rfl, Nat.le_of_ble_eq_true rfl⟩ hl.1 (Nat.le_of_ble_eq_true rfl) dX7_weather_22 ⟨Nat.le_of_ble_eq_true rfl, Nat.le_of_ble_eq_true rfl⟩) hS (fun H locs (hW : GW z ad (GC z ad N X u15) H) hS => ?_)
        exact hB25 ih2 hih2 _ _ _ _ _ _ _ (lv_sub hl [0, 1, 2, 3] rfl) hW hS h
  have hL2 : ∀ (n : Nat), ∀ (y3 : Int32) (y1 : Int32) (y2 : Int32) (u : St) (H : Heap) (locs : List Loc) (ls : Array Slot), lv_has ls 4 [(3, .int y3), (0, .ref (ad 0 0)), (1, .int y1), (2, .int y2)] → GW z ad (GC z ad N X u) H → va_S (zA z) s.heap H locs → f_X7_weather_L2 N n y3 y1 y2 u = some (r9, u9) → WW H locs (F0 m 2 ls []) := by
    intro n
    induction n with
    | zero => intro y3 y1 y2 u H locs ls hl hW hS h; exact absurd h (by intro q; cases q)
    | succ n ihn => intro y3 y1 y2 u H locs ls hl hW hS h; exact hL2b (f_X7_weather_L2 N n) ihn y3 y1 y2 u H locs ls hl hW hS h
  unfold f_X7_weather at h
  refine lv_iconst (v := 0) hx hb dX7_weather_0 (by decide) ?_
  refine lv_istore_n (lv' := [(3, .int 0), (0, .ref (ad 0 0)), (1, .int x1), (2, .int x2)]) hx hb dX7_weather_1 rfl hl (by decide) rfl (fun ls hl => ?_)
  exact hL2 1000000 _ _ _ _ _ _ _ (lv_sub hl [0, 1, 2, 3] rfl) hW hS h
/-- Panyard$Today.turn -/
def f_X6_turn_L2b (N : Nt) (ih2 : Int32 → St → Option (Unit × St)) (y1 : Int32) (u : St) : Option (Unit × St) :=
  if 4 ≤ y1 then
    nm (sset u 52 0 0 0) fun u2 =>
    nm (sset u2 53 0 0 0) fun u3 =>
    nm (sset u3 51 0 0 ((u3 51 0 0) + 1)) fun u4 =>
    some ((), u4)
  else
    gd (inb y1 4) <|
    nm (sset u 50 0 (ix y1) 0) fun u6 =>
    nm (y1 + 1) fun v7 =>
    ih2 v7 u6
def f_X6_turn_L2 (N : Nt) : Nat → Int32 → St → Option (Unit × St) := lp (fun _ _ => none) (f_X6_turn_L2b N)
def f_X6_turn (N : Nt) (u : St) : Option (Unit × St) :=
  f_X6_turn_L2 N 1000000 0 u
set_option maxRecDepth 100000 in
set_option maxHeartbeats 4000000 in
theorem c_X6_turn (l : Launch) (z : Zt) (ad : Ad) (N : Nt) (X : Gt) (u : St) {r9 : Unit} {u9 : St} (h : f_X6_turn N u = some (r9, u9)) : MC l z yX6_turn cX6_turn 2 none { frames := 0, cells := 0, slots := 0, locals := 0 } 0 0 [.ref (ad 5 0)] ad (GC z ad N X u) (QV z ad (GC z ad N X u9)) := by
  refine Met.ofW (cc := cX6_turn) (maxL := 2) (ret := none) (by decide) rfl ?_
  intro p e s m args below meth c s₁ B hml hv
  obtain ⟨rfl, hSW, hW⟩ := hv
  have hx := B.exec; have hb := B.bytes; have hr := B.returns; have hlocks := B.notSynchronized
  have hown : s.vm.findClass RX6 = some m.cls := findClass_of_methodNamed B.named
  obtain ⟨hT, hK, hST, hB0⟩ := id hSW
  have hS : va_S (zA z) s.heap s.heap [] := va_S.rf
  have hl := lv_entry ([.ref (ad 5 0)]) (n := 2) (Nat.le_of_ble_eq_true rfl)
  rw [lg_entry_eq]
  generalize (lg_sl ([.ref (ad 5 0)]) ++ List.replicate (2 - (lg_sl ([.ref (ad 5 0)])).length) Slot.unset).toArray = ls at hl ⊢
  have hl : lv_has ls 2 [(0, .ref (ad 5 0))] := hl
  let WW : Heap → List Loc → JFrame → Prop := fun H locs g => W p l e (headSpec [Cond.code yX6_turn cX6_turn 2 none] { frames := 0, cells := 0, slots := 0, locals := 0 }).room s m [.ref (ad 5 0)].toArray below meth c H locs 0 0 (MQ below (QV z ad (GC z ad N X u9)) [.ref (ad 5 0)].toArray s 0 0 (zA z)) g
  have hL2b : ∀ (ih2 : Int32 → St → Option (Unit × St)) (hih2 : ∀ (y1 : Int32) (u : St) (H : Heap) (locs : List Loc) (ls : Array Slot), lv_has ls 2 [(1, .int y1), (0, .ref (ad 5 0))] → GW z ad (GC z ad N X u) H → va_S (zA z) s.heap H locs → ih2 y1 u = some (r9, u9) → WW H locs (F0 m 2 ls [])), ∀ (y1 : Int32) (u : St) (H : Heap) (locs : List Loc) (ls : Array Slot), lv_has ls 2 [(1, .int y1), (0, .ref (ad 5 0))] → GW z ad (GC z ad N X u) H → va_S (zA z) s.heap H locs → f_X6_turn_L2b N ih2 y1 u = some (r9, u9) → WW H locs (F0 m 2 ls []) := by
    intro ih2 hih2 y1 u H locs ls hl hW hS h
    change W p l e _ s m _ below meth c H locs 0 0 _ (F0 m 2 ls [])
    unfold f_X6_turn_L2b at h
    refine lv_iload_n hx hb dX6_turn_2 rfl (lv_at hl 0 rfl) ?_
    refine lv_iconst (v := 4) hx hb dX6_turn_3 (by decide) ?_
    refine lv_icmp_ge (tgt := 20) hx hb dX6_turn_4 (by decide) (fun c1 => ?_) (fun c1 => ?_)
    · replace h := ite_t h c1
      refine lv_aload_n hx hb dX6_turn_20 rfl (lv_at hl 1 rfl) ?_
      refine lv_iconst (v := 0) hx hb dX6_turn_21 (by decide) ?_
      obtain ⟨u2, eu2, h⟩ := nm_s h
      refine nb_put hx hb hT hK hown hW hS fl_X6_15 tyX6 tyX6_ok nmX6 kr_5 (v := .int 0) rfl rfl rfl (Nat.le_of_ble_eq_true rfl) ((gp_52).trans (congrArg (GC z ad N X) eu2.symm)) dX6_turn_22 (fun H locs hW hS => ?_)
      refine lv_aload_n hx hb dX6_turn_25 rfl (lv_at hl 1 rfl) ?_
      refine lv_iconst (v := 0) hx hb dX6_turn_26 (by decide) ?_
      obtain ⟨u3, eu3, h⟩ := nm_s h
      refine nb_put hx hb hT hK hown hW hS fl_X6_19 tyX6 tyX6_ok nmX6 kr_5 (v := .int 0) rfl rfl rfl (Nat.le_of_ble_eq_true rfl) ((gp_53).trans (congrArg (GC z ad N X) eu3.symm)) dX6_turn_27 (fun H locs hW hS => ?_)
      refine lv_aload_n hx hb dX6_turn_30 rfl (lv_at hl 1 rfl) ?_
      refine lv_dup hx hb dX6_turn_31 rfl ?_
      refine nb_get hx hb hT hK hown hW fl_X6_23 kr_5 (v := .int (u3 51 0 0)) rfl dX6_turn_32 ?_
      refine lv_iconst (v := 1) hx hb dX6_turn_35 (by decide) ?_
      refine lv_iadd hx hb dX6_turn_36 ?_
      obtain ⟨u4, eu4, h⟩ := nm_s h
      refine nb_put hx hb hT hK hown hW hS fl_X6_23 tyX6 tyX6_ok nmX6 kr_5 (v := .int ((u3 51 0 0) + 1)) rfl rfl rfl (Nat.le_of_ble_eq_true rfl) ((gp_51).trans (congrArg (GC z ad N X) eu4.symm)) dX6_turn_37 (fun H locs hW hS => ?_)
      exact ne_vret hx hb hr hlocks hW hS dX6_turn_40 h
    · replace h := ite_f h c1
      refine lv_aload_n hx hb dX6_turn_7 rfl (lv_at hl 1 rfl) ?_
      refine nb_get hx hb hT hK hown hW fl_X6_9 kr_5 (v := .ref (ad 7 0)) rfl dX6_turn_8 ?_
      refine lv_iload_n hx hb dX6_turn_11 rfl (lv_at hl 0 rfl) ?_
      refine lv_iconst (v := 0) hx hb dX6_turn_12 (by decide) ?_
      obtain ⟨g5, h⟩ := gd_s h
      obtain ⟨u6, eu6, h⟩ := nm_s h
      refine nb_iast hx hb hK hW hS 0 kr_7 rfl (inb_in g5) ((gp_50).trans (congrArg (GC z ad N X) eu6.symm)) dX6_turn_13 (fun H locs hW hS => ?_)
      obtain ⟨v7, ev7, h⟩ := nm_s h
      refine lv_iinc (v := v7) (lv' := [(1, .int v7), (0, .ref (ad 5 0))]) hx hb dX6_turn_14 hl (k := 0) rfl (by rw [ev7]; rfl) (by decide) rfl (fun ls hl => ?_)
      refine lv_goto (tgt := 2) hx hb dX6_turn_17 (by decide) ?_
      exact hih2 _ _ _ _ _ (lv_sub hl [0, 1] rfl) hW hS h
  have hL2 : ∀ (n : Nat), ∀ (y1 : Int32) (u : St) (H : Heap) (locs : List Loc) (ls : Array Slot), lv_has ls 2 [(1, .int y1), (0, .ref (ad 5 0))] → GW z ad (GC z ad N X u) H → va_S (zA z) s.heap H locs → f_X6_turn_L2 N n y1 u = some (r9, u9) → WW H locs (F0 m 2 ls []) := by
    intro n
    induction n with
    | zero => intro y1 u H locs ls hl hW hS h; exact absurd h (by intro q; cases q)
    | succ n ihn => intro y1 u H locs ls hl hW hS h; exact hL2b (f_X6_turn_L2 N n) ihn y1 u H locs ls hl hW hS h
  unfold f_X6_turn at h
  refine lv_iconst (v := 0) hx hb dX6_turn_0 (by decide) ?_
  refine lv_istore_n (lv' := [(1, .int 0), (0, .ref (ad 5 0))]) hx hb dX6_turn_1 rfl hl (by decide) rfl (fun ls hl => ?_)
  exact hL2 1000000 _ _ _ _ _ (lv_sub hl [0, 1] rfl) hW hS h
/-- Panyard.pass -/
def f_X7_pass_L53b (N : Nt) (ih53 : Int32 → Int32 → Int32 → Int32 → St → Option (Except String Int32 × St)) (y4 : Int32) (y1 : Int32) (y2 : Int32) (y3 : Int32) (u : St) : Option (Except String Int32 × St) :=
  if y1 ≤ y4 then
    some (.ok (u 51 0 0), u)
  else
    sb (f_X2_sleep N u 0 (u 1 0 0)) fun r14 u16 =>
    sb (f_X7_weather N u16 y2 y3) fun r17 u19 =>
    sb (f_X6_turn N u19) fun r20 u22 =>
    nm (y4 + 1) fun v23 =>
    ih53 v23 y1 y2 y3 u22
def f_X7_pass_L53 (N : Nt) : Nat → Int32 → Int32 → Int32 → Int32 → St → Option (Except String Int32 × St) := lp (fun _ _ _ _ _ => none) (f_X7_pass_L53b N)
def f_X7_pass (N : Nt) (u : St) (x1 : Int32) (x2 : Int32) (x3 : Int32) : Option (Except String Int32 × St) :=
  sb (f_X7_isWithin N u x1 1 30) fun r1 u3 =>
  if r1 = 0 then
    some (.error "java/lang/IllegalArgumentException", u3)
  else
    sb (f_X7_isWithin N u3 x2 0 9) fun r5 u7 =>
    if r5 = 0 then
      some (.error "java/lang/IllegalArgumentException", u7)
    else
      sb (f_X7_isWithin N u7 x3 0 9) fun r09 u11 =>
      if r09 = 0 then
        some (.error "java/lang/IllegalArgumentException", u11)
      else
        f_X7_pass_L53 N 1000000 0 x1 x2 x3 u11
set_option maxRecDepth 100000 in
set_option maxHeartbeats 4000000 in
theorem c_X7_pass (l : Launch) (z : Zt) (ad : Ad) (N : Nt) (X : Gt) (u : St) (x1 : Int32) (x2 : Int32) (x3 : Int32) {r9 : Int32} {u9 : St} (h : f_X7_pass N u x1 x2 x3 = some (.ok r9, u9)) : MC l z yX7_pass cX7_pass 5 (some .int) { frames := 4, cells := 0, slots := 0, locals := 88 } 0 0 [.ref (ad 0 0), .int x1, .int x2, .int x3] ad (GC z ad N X u) (QI z ad (GC z ad N X u9) r9) := by
  refine Met.ofW (cc := cX7_pass) (maxL := 5) (ret := (some .int)) (by decide) rfl ?_
  intro p e s m args below meth c s₁ B hml hv
  obtain ⟨rfl, hSW, hW⟩ := hv
  have hx := B.exec; have hb := B.bytes; have hr := B.returns; have hlocks := B.notSynchronized
  have hown : s.vm.findClass RX7 = some m.cls := findClass_of_methodNamed B.named
  obtain ⟨hT, hK, hST, hB0⟩ := id hSW
  have hS : va_S (zA z) s.heap s.heap [] := va_S.rf
  have hl := lv_entry ([.ref (ad 0 0), .int x1, .int x2, .int x3]) (n := 5) (Nat.le_of_ble_eq_true rfl)
  rw [lg_entry_eq]
  generalize (lg_sl ([.ref (ad 0 0), .int x1, .int x2, .int x3]) ++ List.replicate (5 - (lg_sl ([.ref (ad 0 0), .int x1, .int x2, .int x3])).length) Slot.unset).toArray = ls at hl ⊢
  have hl : lv_has ls 5 [(0, .ref (ad 0 0)), (1, .int x1), (2, .int x2), (3, .int x3)] := hl
  let WW : Heap → List Loc → JFrame → Prop := fun H locs g => W p l e (headSpec [Cond.code yX7_pass cX7_pass 5 (some .int)] { frames := 4, cells := 0, slots := 0, locals := 88 }).room s m [.ref (ad 0 0), .int x1, .int x2, .int x3].toArray below meth c H locs 0 0 (MQ below (QI z ad (GC z ad N X u9) r9) [.ref (ad 0 0), .int x1, .int x2, .int x3].toArray s 0 0 (zA z)) g
  have hL53b : ∀ (ih53 : Int32 → Int32 → Int32 → Int32 → St → Option (Except String Int32 × St)) (hih53 : ∀ (y4 : Int32) (y1 : Int32) (y2 : Int32) (y3 : Int32) (u : St) (H : Heap) (locs : List Loc) (ls : Array Slot), lv_has ls 5 [(4, .int y4), (0, .ref (ad 0 0)), (1, .int y1), (2, .int y2), (3, .int y3)] → GW z ad (GC z ad N X u) H → va_S (zA z) s.heap H locs → ih53 y4 y1 y2 y3 u = some (.ok r9, u9) → WW H locs (F0 m 53 ls [])), ∀ (y4 : Int32) (y1 : Int32) (y2 : Int32) (y3 : Int32) (u : St) (H : Heap) (locs : List Loc) (ls : Array Slot), lv_has ls 5 [(4, .int y4), (0, .ref (ad 0 0)), (1, .int y1), (2, .int y2), (3, .int y3)] → GW z ad (GC z ad N X u) H → va_S (zA z) s.heap H locs → f_X7_pass_L53b N ih53 y4 y1 y2 y3 u = some (.ok r9, u9) → WW H locs (F0 m 53 ls []) := by
    intro ih53 hih53 y4 y1 y2 y3 u H locs ls hl hW hS h
    change W p l e _ s m _ below meth c H locs 0 0 _ (F0 m 53 ls [])
    unfold f_X7_pass_L53b at h
    refine lv_iload hx hb dX7_pass_53 (lv_at hl 0 rfl) ?_
    refine lv_iload_n hx hb dX7_pass_55 rfl (lv_at hl 2 rfl) ?_
    refine lv_icmp_ge (tgt := 93) hx hb dX7_pass_56 (by decide) (fun c13 => ?_) (fun c13 => ?_)
    · replace h := ite_t h c13
      refine lv_aload_n hx hb dX7_pass_93 rfl (lv_at hl 1 rfl) ?_
      refine nb_get hx hb hT hK hown hW fl_X7_44 kr_0 (v := .ref (ad 5 0)) rfl dX7_pass_94 ?_
      refine nb_get hx hb hT hK hown hW fl_X7_261 kr_5 (v := .int (u 51 0 0)) rfl dX7_pass_97 ?_
      exact ne_iretX hx hb hr rfl hlocks hW hS dX7_pass_100 h
    · replace h := ite_f h c13
      refine lv_aload_n hx hb dX7_pass_59 rfl (lv_at hl 1 rfl) ?_
      refine nb_get hx hb hT hK hown hW fl_X7_37 kr_0 (v := .ref (ad 10 0)) rfl dX7_pass_60 ?_
      refine lv_aload_n hx hb dX7_pass_63 rfl (lv_at hl 1 rfl) ?_
      refine nb_get hx hb hT hK hown hW fl_X7_17 kr_0 (v := .ref (ad 2 0)) rfl dX7_pass_64 ?_
      refine lv_aload_n hx hb dX7_pass_67 rfl (lv_at hl 1 rfl) ?_
      refine nb_get hx hb hT hK hown hW fl_X7_133 kr_0 (v := .int (u 1 0 0)) rfl dX7_pass_68 ?_
      obtain ⟨r14, u16, h15, h⟩ := sb_s h
      refine nb_cv (nb_runV (As := [.ref (ad 2 0), .int (u 1 0 0)]) (rest := []) hx hb hml hown hSW hS hW (c_X2_sleep l z ad N X u 0 (u 1 0 0) (by decide) h15) mf_X2_sleep lk_X7_251 (kr_10 (by decide)) rfl rfl ⟨rfl, rfl⟩ ⟨Nat.le_of_ble_eq_true rfl, Nat.le_of_ble_eq_true rfl⟩ hl.1 (Nat.le_of_ble_eq_true rfl) dX7_pass_71 ⟨Nat.le_of_ble_eq_true rfl, Nat.le_of_ble_eq_true rfl⟩) hS (fun H locs (hW : GW z ad (GC z ad N X u16) H) hS => ?_)
      refine lv_aload_n hx hb dX7_pass_74 rfl (lv_at hl 1 rfl) ?_
      refine lv_iload_n hx hb dX7_pass_75 rfl (lv_at hl 3 rfl) ?_
      refine lv_iload_n hx hb dX7_pass_76 rfl (lv_at hl 4 rfl) ?_
      obtain ⟨r17, u19, h18, h⟩ := sb_s h
      refine nb_cv (nb_runV (As := [.int y2, .int y3]) (rest := []) hx hb hml hown hSW hS hW (c_X7_weather l z ad N X u16 y2 y3 h18) mf_X7_weather lk_X7_255 kr_0 rfl rfl ⟨rfl, rfl⟩ ⟨Nat.le_of_ble_eq_true rfl, Nat.le_of_ble_eq_true rfl⟩ hl.1 (Nat.le_of_ble_eq_true rfl) dX7_pass_77 ⟨Nat.le_of_ble_eq_true rfl, Nat.le_of_ble_eq_true rfl⟩) hS (fun H locs (hW : GW z ad (GC z ad N X u19) H) hS => ?_)
      refine lv_aload_n hx hb dX7_pass_80 rfl (lv_at hl 1 rfl) ?_
      refine nb_get hx hb hT hK hown hW fl_X7_44 kr_0 (v := .ref (ad 5 0)) rfl dX7_pass_81 ?_
      obtain ⟨r20, u22, h21, h⟩ := sb_s h
      refine nb_cv (nb_runV (As := []) (rest := []) hx hb hml hown hSW hS hW (c_X6_turn l z ad N X u19 h21) mf_X6_turn lk_X7_258 kr_5 rfl rfl ⟨rfl, rfl⟩ ⟨Nat.le_of_ble_eq_true rfl, Nat.le_of_ble_eq_true rfl⟩ hl.1 (Nat.le_of_ble_eq_true rfl) dX7_pass_84 ⟨Nat.le_of_ble_eq_true rfl, Nat.le_of_ble_eq_true rfl⟩) hS (fun H locs (hW : GW z ad (GC z ad N X u22) H) hS => ?_)
      obtain ⟨v23, ev23, h⟩ := nm_s h
      refine lv_iinc (v := v23) (lv' := [(4, .int v23), (0, .ref (ad 0 0)), (1, .int y1), (2, .int y2), (3, .int y3)]) hx hb dX7_pass_87 hl (k := 0) rfl (by rw [ev23]; rfl) (by decide) rfl (fun ls hl => ?_)
      refine lv_goto (tgt := 53) hx hb dX7_pass_90 (by decide) ?_
      exact hih53 _ _ _ _ _ _ _ _ (lv_sub hl [0, 1, 2, 3, 4] rfl) hW hS h
  have hL53 : ∀ (n : Nat), ∀ (y4 : Int32) (y1 : Int32) (y2 : Int32) (y3 : Int32) (u : St) (H : Heap) (locs : List Loc) (ls : Array Slot), lv_has ls 5 [(4, .int y4), (0, .ref (ad 0 0)), (1, .int y1), (2, .int y2), (3, .int y3)] → GW z ad (GC z ad N X u) H → va_S (zA z) s.heap H locs → f_X7_pass_L53 N n y4 y1 y2 y3 u = some (.ok r9, u9) → WW H locs (F0 m 53 ls []) := by
    intro n
    induction n with
    | zero => intro y4 y1 y2 y3 u H locs ls hl hW hS h; exact absurd h (by intro q; cases q)
    | succ n ihn => intro y4 y1 y2 y3 u H locs ls hl hW hS h; exact hL53b (f_X7_pass_L53 N n) ihn y4 y1 y2 y3 u H locs ls hl hW hS h
  unfold f_X7_pass at h
  refine lv_iload_n hx hb dX7_pass_0 rfl (lv_at hl 1 rfl) ?_
  refine lv_iconst (v := 1) hx hb dX7_pass_1 (by decide) ?_
  refine lv_bipush (v := 30) hx hb dX7_pass_2 (by decide) ?_
  obtain ⟨r1, u3, h2, h⟩ := sb_s h
  refine nb_ci (nb_runS (As := [.int x1, .int 1, .int 30]) (rest := []) hx hb hml hown hSW hS hW (c_X7_isWithin l z ad N X u x1 1 30 h2) mf_X7_isWithin lk_X7_96 rfl ⟨rfl, rfl⟩ ⟨Nat.le_of_ble_eq_true rfl, Nat.le_of_ble_eq_true rfl⟩ hl.1 (Nat.le_of_ble_eq_true rfl) dX7_pass_4 ⟨Nat.le_of_ble_eq_true rfl, Nat.le_of_ble_eq_true rfl⟩) hS (fun H locs (hW : GW z ad (GC z ad N X u3) H) hS => ?_)
  refine lv_if_ne (tgt := 20) hx hb dX7_pass_7 (by decide) (fun c4 => ?_) (fun c4 => ?_)
  · replace h := ite_f h c4
    refine lv_iload_n hx hb dX7_pass_20 rfl (lv_at hl 2 rfl) ?_
    refine lv_iconst (v := 0) hx hb dX7_pass_21 (by decide) ?_
    refine lv_bipush (v := 9) hx hb dX7_pass_22 (by decide) ?_
    obtain ⟨r5, u7, h6, h⟩ := sb_s h
    refine nb_ci (nb_runS (As := [.int x2, .int 0, .int 9]) (rest := []) hx hb hml hown hSW hS hW (c_X7_isWithin l z ad N X u3 x2 0 9 h6) mf_X7_isWithin lk_X7_96 rfl ⟨rfl, rfl⟩ ⟨Nat.le_of_ble_eq_true rfl, Nat.le_of_ble_eq_true rfl⟩ hl.1 (Nat.le_of_ble_eq_true rfl) dX7_pass_24 ⟨Nat.le_of_ble_eq_true rfl, Nat.le_of_ble_eq_true rfl⟩) hS (fun H locs (hW : GW z ad (GC z ad N X u7) H) hS => ?_)
    refine lv_if_eq (tgt := 40) hx hb dX7_pass_27 (by decide) (fun c8 => ?_) (fun c8 => ?_)
    · replace h := ite_t h c8
      exact absurd h (by intro q; cases q)
    · replace h := ite_f h c8
      refine lv_iload_n hx hb dX7_pass_30 rfl (lv_at hl 3 rfl) ?_
      refine lv_iconst (v := 0) hx hb dX7_pass_31 (by decide) ?_
      refine lv_bipush (v := 9) hx hb dX7_pass_32 (by decide) ?_
      obtain ⟨r09, u11, h10, h⟩ := sb_s h
      refine nb_ci (nb_runS (As := [.int x3, .int 0, .int 9]) (rest := []) hx hb hml hown hSW hS hW (c_X7_isWithin l z ad N X u7 x3 0 9 h10) mf_X7_isWithin lk_X7_96 rfl ⟨rfl, rfl⟩ ⟨Nat.le_of_ble_eq_true rfl, Nat.le_of_ble_eq_true rfl⟩ hl.1 (Nat.le_of_ble_eq_true rfl) dX7_pass_34 ⟨Nat.le_of_ble_eq_true rfl, Nat.le_of_ble_eq_true rfl⟩) hS (fun H locs (hW : GW z ad (GC z ad N X u11) H) hS => ?_)
      refine lv_if_ne (tgt := 50) hx hb dX7_pass_37 (by decide) (fun c12 => ?_) (fun c12 => ?_)
      · replace h := ite_f h c12
        refine lv_iconst (v := 0) hx hb dX7_pass_50 (by decide) ?_
        refine lv_istore (lv' := [(4, .int 0), (0, .ref (ad 0 0)), (1, .int x1), (2, .int x2), (3, .int x3)]) hx hb dX7_pass_51 hl (by decide) rfl (fun ls hl => ?_)
        exact hL53 1000000 _ _ _ _ _ _ _ _ (lv_sub hl [0, 1, 2, 3, 4] rfl) hW hS h
      · replace h := ite_t h c12
        exact absurd h (by intro q; cases q)
  · replace h := ite_t h c4
    exact absurd h (by intro q; cases q)
/-- Panyard.sponsor -/
def f_X7_sponsor (N : Nt) (u : St) (x1 : Int32) : Option (Except String Int32 × St) :=
  sb (f_X7_isWithin N u x1 1 500) fun r1 u3 =>
  if r1 = 0 then
    some (.error "java/lang/IllegalArgumentException", u3)
  else
    nm (sset u3 3 0 0 ((u3 3 0 0) + x1)) fun u5 =>
    some (.ok (u5 3 0 0), u5)
set_option maxRecDepth 100000 in
set_option maxHeartbeats 4000000 in
theorem c_X7_sponsor (l : Launch) (z : Zt) (ad : Ad) (N : Nt) (X : Gt) (u : St) (x1 : Int32) {r9 : Int32} {u9 : St} (h : f_X7_sponsor N u x1 = some (.ok r9, u9)) : MC l z yX7_sponsor cX7_sponsor 2 (some .int) { frames := 1, cells := 0, slots := 0, locals := 22 } 0 0 [.ref (ad 0 0), .int x1] ad (GC z ad N X u) (QI z ad (GC z ad N X u9) r9) := by
  refine Met.ofW (cc := cX7_sponsor) (maxL := 2) (ret := (some .int)) (by decide) rfl ?_
  intro p e s m args below meth c s₁ B hml hv
  obtain ⟨rfl, hSW, hW⟩ := hv
  have hx := B.exec; have hb := B.bytes; have hr := B.returns; have hlocks := B.notSynchronized
  have hown : s.vm.findClass RX7 = some m.cls := findClass_of_methodNamed B.named
  obtain ⟨hT, hK, hST, hB0⟩ := id hSW
  have hS : va_S (zA z) s.heap s.heap [] := va_S.rf
  have hl := lv_entry ([.ref (ad 0 0), .int x1]) (n := 2) (Nat.le_of_ble_eq_true rfl)
  rw [lg_entry_eq]
  generalize (lg_sl ([.ref (ad 0 0), .int x1]) ++ List.replicate (2 - (lg_sl ([.ref (ad 0 0), .int x1])).length) Slot.unset).toArray = ls at hl ⊢
  have hl : lv_has ls 2 [(0, .ref (ad 0 0)), (1, .int x1)] := hl
  unfold f_X7_sponsor at h
  refine lv_iload_n hx hb dX7_sponsor_0 rfl (lv_at hl 1 rfl) ?_
  refine lv_iconst (v := 1) hx hb dX7_sponsor_1 (by decide) ?_
  refine lv_sipush (v := 500) hx hb dX7_sponsor_2 (by decide) ?_
  obtain ⟨r1, u3, h2, h⟩ := sb_s h
  refine nb_ci (nb_runS (As := [.int x1, .int 1, .int 500]) (rest := []) hx hb hml hown hSW hS hW (c_X7_isWithin l z ad N X u x1 1 500 h2) mf_X7_isWithin lk_X7_96 rfl ⟨rfl, rfl⟩ ⟨Nat.le_of_ble_eq_true rfl, Nat.le_of_ble_eq_true rfl⟩ hl.1 (Nat.le_of_ble_eq_true rfl) dX7_sponsor_5 ⟨Nat.le_of_ble_eq_true rfl, Nat.le_of_ble_eq_true rfl⟩) hS (fun H locs (hW : GW z ad (GC z ad N X u3) H) hS => ?_)
  refine lv_if_ne (tgt := 22) hx hb dX7_sponsor_8 (by decide) (fun c4 => ?_) (fun c4 => ?_)
  · replace h := ite_f h c4
    refine lv_aload_n hx hb dX7_sponsor_22 rfl (lv_at hl 0 rfl) ?_
    refine lv_dup hx hb dX7_sponsor_23 rfl ?_
    refine nb_get hx hb hT hK hown hW fl_X7_55 kr_0 (v := .int (u3 3 0 0)) rfl dX7_sponsor_24 ?_
    refine lv_iload_n hx hb dX7_sponsor_27 rfl (lv_at hl 1 rfl) ?_
    refine lv_iadd hx hb dX7_sponsor_28 ?_
    obtain ⟨u5, eu5, h⟩ := nm_s h
    refine nb_put hx hb hT hK hown hW hS fl_X7_55 tyX7 tyX7_ok nmX7 kr_0 (v := .int ((u3 3 0 0) + x1)) rfl rfl rfl (Nat.le_of_ble_eq_true rfl) ((gp_3).trans (congrArg (GC z ad N X) eu5.symm)) dX7_sponsor_29 (fun H locs hW hS => ?_)
    refine lv_aload_n hx hb dX7_sponsor_32 rfl (lv_at hl 0 rfl) ?_
    refine nb_get hx hb hT hK hown hW fl_X7_55 kr_0 (v := .int (u5 3 0 0)) rfl dX7_sponsor_33 ?_
    exact ne_iretX hx hb hr rfl hlocks hW hS dX7_sponsor_36 h
  · replace h := ite_t h c4
    exact absurd h (by intro q; cases q)
/-- Panyard.rival -/
def f_X7_rival (N : Nt) (u : St) (x1 : Int32) : Option (Except String Int32 × St) :=
  sb (f_X7_isWithin N u x1 0 400) fun r1 u3 =>
  if r1 = 0 then
    some (.error "java/lang/IllegalArgumentException", u3)
  else
    if (u3 64 0 0) < 6 then
      nm (u3 64 0 0) fun v6 =>
      gd (inb v6 6) <|
      nm (sset u3 60 0 (ix v6) x1) fun u8 =>
      nm (sset u8 64 0 0 ((u8 64 0 0) + 1)) fun u09 =>
      some (.ok v6, u09)
    else
      some (.error "java/lang/IllegalStateException", u3)
set_option maxRecDepth 100000 in
set_option maxHeartbeats 4000000 in
theorem c_X7_rival (l : Launch) (z : Zt) (ad : Ad) (N : Nt) (X : Gt) (u : St) (x1 : Int32) {r9 : Int32} {u9 : St} (h : f_X7_rival N u x1 = some (.ok r9, u9)) : MC l z yX7_rival cX7_rival 3 (some .int) { frames := 1, cells := 0, slots := 0, locals := 22 } 0 0 [.ref (ad 0 0), .int x1] ad (GC z ad N X u) (QI z ad (GC z ad N X u9) r9) := by
  refine Met.ofW (cc := cX7_rival) (maxL := 3) (ret := (some .int)) (by decide) rfl ?_
  intro p e s m args below meth c s₁ B hml hv
  obtain ⟨rfl, hSW, hW⟩ := hv
  have hx := B.exec; have hb := B.bytes; have hr := B.returns; have hlocks := B.notSynchronized
  have hown : s.vm.findClass RX7 = some m.cls := findClass_of_methodNamed B.named
  obtain ⟨hT, hK, hST, hB0⟩ := id hSW
  have hS : va_S (zA z) s.heap s.heap [] := va_S.rf
  have hl := lv_entry ([.ref (ad 0 0), .int x1]) (n := 3) (Nat.le_of_ble_eq_true rfl)
  rw [lg_entry_eq]
  generalize (lg_sl ([.ref (ad 0 0), .int x1]) ++ List.replicate (3 - (lg_sl ([.ref (ad 0 0), .int x1])).length) Slot.unset).toArray = ls at hl ⊢
  have hl : lv_has ls 3 [(0, .ref (ad 0 0)), (1, .int x1)] := hl
  unfold f_X7_rival at h
  refine lv_iload_n hx hb dX7_rival_0 rfl (lv_at hl 1 rfl) ?_
  refine lv_iconst (v := 0) hx hb dX7_rival_1 (by decide) ?_
  refine lv_sipush (v := 400) hx hb dX7_rival_2 (by decide) ?_
  obtain ⟨r1, u3, h2, h⟩ := sb_s h
  refine nb_ci (nb_runS (As := [.int x1, .int 0, .int 400]) (rest := []) hx hb hml hown hSW hS hW (c_X7_isWithin l z ad N X u x1 0 400 h2) mf_X7_isWithin lk_X7_96 rfl ⟨rfl, rfl⟩ ⟨Nat.le_of_ble_eq_true rfl, Nat.le_of_ble_eq_true rfl⟩ hl.1 (Nat.le_of_ble_eq_true rfl) dX7_rival_5 ⟨Nat.le_of_ble_eq_true rfl, Nat.le_of_ble_eq_true rfl⟩) hS (fun H locs (hW : GW z ad (GC z ad N X u3) H) hS => ?_)
  refine lv_if_ne (tgt := 22) hx hb dX7_rival_8 (by decide) (fun c4 => ?_) (fun c4 => ?_)
  · replace h := ite_f h c4
    refine lv_aload_n hx hb dX7_rival_22 rfl (lv_at hl 0 rfl) ?_
    refine nb_get hx hb hT hK hown hW fl_X7_51 kr_0 (v := .ref (ad 6 0)) rfl dX7_rival_23 ?_
    refine nb_get hx hb hT hK hown hW fl_X7_268 kr_6 (v := .int (u3 64 0 0)) rfl dX7_rival_26 ?_
    refine lv_bipush (v := 6) hx hb dX7_rival_29 (by decide) ?_
    refine lv_icmp_lt (tgt := 45) hx hb dX7_rival_31 (by decide) (fun c5 => ?_) (fun c5 => ?_)
    · replace h := ite_t h c5
      refine lv_aload_n hx hb dX7_rival_45 rfl (lv_at hl 0 rfl) ?_
      refine nb_get hx hb hT hK hown hW fl_X7_51 kr_0 (v := .ref (ad 6 0)) rfl dX7_rival_46 ?_
      refine nb_get hx hb hT hK hown hW fl_X7_268 kr_6 (v := .int (u3 64 0 0)) rfl dX7_rival_49 ?_
      refine lv_topi (fun v6 ev6 => ?_)
      replace h := nm_at ev6 h
      refine lv_istore_n (lv' := [(2, .int v6), (0, .ref (ad 0 0)), (1, .int x1)]) hx hb dX7_rival_52 rfl hl (by decide) rfl (fun ls hl => ?_)
      refine lv_aload_n hx hb dX7_rival_53 rfl (lv_at hl 1 rfl) ?_
      refine nb_get hx hb hT hK hown hW fl_X7_51 kr_0 (v := .ref (ad 6 0)) rfl dX7_rival_54 ?_
      refine nb_get hx hb hT hK hown hW fl_X7_273 kr_6 (v := .ref (ad 16 0)) rfl dX7_rival_57 ?_
      refine lv_iload_n hx hb dX7_rival_60 rfl (lv_at hl 0 rfl) ?_
      refine lv_iload_n hx hb dX7_rival_61 rfl (lv_at hl 2 rfl) ?_
      obtain ⟨g7, h⟩ := gd_s h
      obtain ⟨u8, eu8, h⟩ := nm_s h
      refine nb_iast hx hb hK hW hS 0 kr_16 rfl (inb_in g7) ((gp_60).trans (congrArg (GC z ad N X) eu8.symm)) dX7_rival_62 (fun H locs hW hS => ?_)
      refine lv_aload_n hx hb dX7_rival_63 rfl (lv_at hl 1 rfl) ?_
      refine nb_get hx hb hT hK hown hW fl_X7_51 kr_0 (v := .ref (ad 6 0)) rfl dX7_rival_64 ?_
      refine lv_dup hx hb dX7_rival_67 rfl ?_
      refine nb_get hx hb hT hK hown hW fl_X7_268 kr_6 (v := .int (u8 64 0 0)) rfl dX7_rival_68 ?_
      refine lv_iconst (v := 1) hx hb dX7_rival_71 (by decide) ?_
      refine lv_iadd hx hb dX7_rival_72 ?_
      obtain ⟨u09, eu09, h⟩ := nm_s h
      refine nb_put hx hb hT hK hown hW hS fl_X7_268 tyX1 tyX1_ok nmX1 kr_6 (v := .int ((u8 64 0 0) + 1)) rfl rfl rfl (Nat.le_of_ble_eq_true rfl) ((gp_64).trans (congrArg (GC z ad N X) eu09.symm)) dX7_rival_73 (fun H locs hW hS => ?_)
      refine lv_iload_n hx hb dX7_rival_76 rfl (lv_at hl 0 rfl) ?_
      exact ne_iretX hx hb hr rfl hlocks hW hS dX7_rival_77 h
    · replace h := ite_f h c5
      exact absurd h (by intro q; cases q)
  · replace h := ite_t h c4
    exact absurd h (by intro q; cases q)
/-- Panyard.lean -/
def f_X7_lean (N : Nt) (u : St) (x1 : Int32) (x2 : Int32) : Option (Except String Int32 × St) :=
  sb (f_X7_isWithin N u x1 0 2) fun r1 u3 =>
  if r1 = 0 then
    some (.error "java/lang/IndexOutOfBoundsException", u3)
  else
    sb (f_X7_isWithin N u3 x2 (-9) 9) fun r5 u7 =>
    if r5 = 0 then
      some (.error "java/lang/IllegalArgumentException", u7)
    else
      gd (inb x1 3) <|
      nm (u7 61 0 (ix x1)) fun v10 =>
      nm (sset u7 61 0 (ix x1) x2) fun u11 =>
      some (.ok v10, u11)
set_option maxRecDepth 100000 in
set_option maxHeartbeats 4000000 in
theorem c_X7_lean (l : Launch) (z : Zt) (ad : Ad) (N : Nt) (X : Gt) (u : St) (x1 : Int32) (x2 : Int32) {r9 : Int32} {u9 : St} (h : f_X7_lean N u x1 x2 = some (.ok r9, u9)) : MC l z yX7_lean cX7_lean 4 (some .int) { frames := 1, cells := 0, slots := 0, locals := 22 } 0 0 [.ref (ad 0 0), .int x1, .int x2] ad (GC z ad N X u) (QI z ad (GC z ad N X u9) r9) := by
  refine Met.ofW (cc := cX7_lean) (maxL := 4) (ret := (some .int)) (by decide) rfl ?_
  intro p e s m args below meth c s₁ B hml hv
  obtain ⟨rfl, hSW, hW⟩ := hv
  have hx := B.exec; have hb := B.bytes; have hr := B.returns; have hlocks := B.notSynchronized
  have hown : s.vm.findClass RX7 = some m.cls := findClass_of_methodNamed B.named
  obtain ⟨hT, hK, hST, hB0⟩ := id hSW
  have hS : va_S (zA z) s.heap s.heap [] := va_S.rf
  have hl := lv_entry ([.ref (ad 0 0), .int x1, .int x2]) (n := 4) (Nat.le_of_ble_eq_true rfl)
  rw [lg_entry_eq]
  generalize (lg_sl ([.ref (ad 0 0), .int x1, .int x2]) ++ List.replicate (4 - (lg_sl ([.ref (ad 0 0), .int x1, .int x2])).length) Slot.unset).toArray = ls at hl ⊢
  have hl : lv_has ls 4 [(0, .ref (ad 0 0)), (1, .int x1), (2, .int x2)] := hl
  unfold f_X7_lean at h
  refine lv_iload_n hx hb dX7_lean_0 rfl (lv_at hl 1 rfl) ?_
  refine lv_iconst (v := 0) hx hb dX7_lean_1 (by decide) ?_
  refine lv_iconst (v := 2) hx hb dX7_lean_2 (by decide) ?_
  obtain ⟨r1, u3, h2, h⟩ := sb_s h
  refine nb_ci (nb_runS (As := [.int x1, .int 0, .int 2]) (rest := []) hx hb hml hown hSW hS hW (c_X7_isWithin l z ad N X u x1 0 2 h2) mf_X7_isWithin lk_X7_96 rfl ⟨rfl, rfl⟩ ⟨Nat.le_of_ble_eq_true rfl, Nat.le_of_ble_eq_true rfl⟩ hl.1 (Nat.le_of_ble_eq_true rfl) dX7_lean_3 ⟨Nat.le_of_ble_eq_true rfl, Nat.le_of_ble_eq_true rfl⟩) hS (fun H locs (hW : GW z ad (GC z ad N X u3) H) hS => ?_)
  refine lv_if_ne (tgt := 20) hx hb dX7_lean_6 (by decide) (fun c4 => ?_) (fun c4 => ?_)
  · replace h := ite_f h c4
    refine lv_iload_n hx hb dX7_lean_20 rfl (lv_at hl 2 rfl) ?_
    refine lv_bipush (v := (-9)) hx hb dX7_lean_21 (by decide) ?_
    refine lv_bipush (v := 9) hx hb dX7_lean_23 (by decide) ?_
    obtain ⟨r5, u7, h6, h⟩ := sb_s h
    refine nb_ci (nb_runS (As := [.int x2, .int (-9), .int 9]) (rest := []) hx hb hml hown hSW hS hW (c_X7_isWithin l z ad N X u3 x2 (-9) 9 h6) mf_X7_isWithin lk_X7_96 rfl ⟨rfl, rfl⟩ ⟨Nat.le_of_ble_eq_true rfl, Nat.le_of_ble_eq_true rfl⟩ hl.1 (Nat.le_of_ble_eq_true rfl) dX7_lean_25 ⟨Nat.le_of_ble_eq_true rfl, Nat.le_of_ble_eq_true rfl⟩) hS (fun H locs (hW : GW z ad (GC z ad N X u7) H) hS => ?_)
    refine lv_if_ne (tgt := 42) hx hb dX7_lean_28 (by decide) (fun c8 => ?_) (fun c8 => ?_)
    · replace h := ite_f h c8
      refine lv_aload_n hx hb dX7_lean_42 rfl (lv_at hl 0 rfl) ?_
      refine nb_get hx hb hT hK hown hW fl_X7_51 kr_0 (v := .ref (ad 6 0)) rfl dX7_lean_43 ?_
      refine nb_get hx hb hT hK hown hW fl_X7_283 kr_6 (v := .ref (ad 17 0)) rfl dX7_lean_46 ?_
      refine lv_iload_n hx hb dX7_lean_49 rfl (lv_at hl 1 rfl) ?_
      obtain ⟨g09, h⟩ := gd_s h
      refine nb_iald hx hb hK hW 0 kr_17 rfl (inb_in g09) dX7_lean_50 ?_
      refine lv_topi (fun v10 ev10 => ?_)
      replace h := nm_at ev10 h
      refine lv_istore_n (lv' := [(3, .int v10), (0, .ref (ad 0 0)), (1, .int x1), (2, .int x2)]) hx hb dX7_lean_51 rfl hl (by decide) rfl (fun ls hl => ?_)
      refine lv_aload_n hx hb dX7_lean_52 rfl (lv_at hl 1 rfl) ?_
      refine nb_get hx hb hT hK hown hW fl_X7_51 kr_0 (v := .ref (ad 6 0)) rfl dX7_lean_53 ?_
      refine nb_get hx hb hT hK hown hW fl_X7_283 kr_6 (v := .ref (ad 17 0)) rfl dX7_lean_56 ?_
      refine lv_iload_n hx hb dX7_lean_59 rfl (lv_at hl 2 rfl) ?_
      refine lv_iload_n hx hb dX7_lean_60 rfl (lv_at hl 3 rfl) ?_
      obtain ⟨u11, eu11, h⟩ := nm_s h
      refine nb_iast hx hb hK hW hS 0 kr_17 rfl (inb_in g09) ((gp_61).trans (congrArg (GC z ad N X) eu11.symm)) dX7_lean_61 (fun H locs hW hS => ?_)
      refine lv_iload_n hx hb dX7_lean_62 rfl (lv_at hl 0 rfl) ?_
      exact ne_iretX hx hb hr rfl hlocks hW hS dX7_lean_63 h
    · replace h := ite_t h c8
      exact absurd h (by intro q; cases q)
  · replace h := ite_t h c4
    exact absurd h (by intro q; cases q)
/-- Panyard$Contest.isOver -/
def f_X1_isOver (N : Nt) (u : St) : Option (Int32 × St) :=
  if (u 66 0 0) = 0 then
    if (u 65 0 0) < 3 then
      some (0, u)
    else
      some (1, u)
  else
    some (1, u)
set_option maxRecDepth 100000 in
set_option maxHeartbeats 4000000 in
theorem c_X1_isOver (l : Launch) (z : Zt) (ad : Ad) (N : Nt) (X : Gt) (u : St) {r9 : Int32} {u9 : St} (h : f_X1_isOver N u = some (r9, u9)) : MC l z yX1_isOver cX1_isOver 1 (some .boolean) { frames := 0, cells := 0, slots := 0, locals := 0 } 0 0 [.ref (ad 6 0)] ad (GC z ad N X u) (QI z ad (GC z ad N X u9) r9) := by
  refine Met.ofW (cc := cX1_isOver) (maxL := 1) (ret := (some .boolean)) (by decide) rfl ?_
  intro p e s m args below meth c s₁ B hml hv
  obtain ⟨rfl, hSW, hW⟩ := hv
  have hx := B.exec; have hb := B.bytes; have hr := B.returns; have hlocks := B.notSynchronized
  have hown : s.vm.findClass RX1 = some m.cls := findClass_of_methodNamed B.named
  obtain ⟨hT, hK, hST, hB0⟩ := id hSW
  have hS : va_S (zA z) s.heap s.heap [] := va_S.rf
  have hl := lv_entry ([.ref (ad 6 0)]) (n := 1) (Nat.le_of_ble_eq_true rfl)
  rw [lg_entry_eq]
  generalize (lg_sl ([.ref (ad 6 0)]) ++ List.replicate (1 - (lg_sl ([.ref (ad 6 0)])).length) Slot.unset).toArray = ls at hl ⊢
  have hl : lv_has ls 1 [(0, .ref (ad 6 0))] := hl
  unfold f_X1_isOver at h
  refine lv_aload_n hx hb dX1_isOver_0 rfl (lv_at hl 0 rfl) ?_
  refine nb_get hx hb hT hK hown hW fl_X1_24 kr_6 (v := .int (u 66 0 0)) rfl dX1_isOver_1 ?_
  refine lv_if_ne (tgt := 15) hx hb dX1_isOver_4 (by decide) (fun c1 => ?_) (fun c1 => ?_)
  · replace h := ite_f h c1
    refine lv_iconst (v := 1) hx hb dX1_isOver_15 (by decide) ?_
    refine lv_goto (tgt := 20) hx hb dX1_isOver_16 (by decide) ?_
    exact ne_iret hx hb hr rfl hlocks hW hS dX1_isOver_20 h
  · replace h := ite_t h c1
    refine lv_aload_n hx hb dX1_isOver_7 rfl (lv_at hl 0 rfl) ?_
    refine nb_get hx hb hT hK hown hW fl_X1_28 kr_6 (v := .int (u 65 0 0)) rfl dX1_isOver_8 ?_
    refine lv_iconst (v := 3) hx hb dX1_isOver_11 (by decide) ?_
    refine lv_icmp_lt (tgt := 19) hx hb dX1_isOver_12 (by decide) (fun c2 => ?_) (fun c2 => ?_)
    · replace h := ite_t h c2
      refine lv_iconst (v := 0) hx hb dX1_isOver_19 (by decide) ?_
      exact ne_iret hx hb hr rfl hlocks hW hS dX1_isOver_20 h
    · replace h := ite_f h c2
      refine lv_iconst (v := 1) hx hb dX1_isOver_15 (by decide) ?_
      refine lv_goto (tgt := 20) hx hb dX1_isOver_16 (by decide) ?_
      exact ne_iret hx hb hr rfl hlocks hW hS dX1_isOver_20 h
/-- Panyard.levelOf -/
def f_X7_levelOf_L16b (N : Nt) (k2 : Nat) (ih16 : Int32 → Int32 → Int32 → Nat → Int32 → St → Option (Int32 × St)) (y6 : Int32) (y5 : Int32) (y4 : Int32) (q3 : Nat) (y1 : Int32) (u : St) : Option (Int32 × St) :=
  if (u 2 0 0) ≤ y6 then
    if y5 = 0 then
      some (0, u)
    else
      gd (¬ y5 = 0) <|
      some ((y4 / y5), u)
  else
    gd (inb y6 8) <|
    gd ((ix y6) < N 15) <|
    sb (f_X5_soundingPan N u (ix y6)) fun r8 u10 =>
    oc r8
      (
        nm (y6 + 1) fun v13 =>
        ih16 v13 y5 y4 q3 y1 u10
      )
      fun q11 =>
      gd (vPan N q11) <|
      if (u10 30 (ix y6) 0) = (u10 20 q3 0) then
        sb (f_X3_notesInTune N u10 q11) fun r17 u19 =>
        sb (f_J6_bitCount_0f7a4 N u19 (r17 &&& (u19 22 q3 0))) fun r20 u22 =>
        gd (inb y1 8) <|
        sb (f_X4_noteCount N u22 q3) fun r24 u26 =>
        gd (¬ r24 = 0) <|
        nm (y4 + (((u22 40 (8 * k2 + (ix y6)) (ix y1)) * r20) / r24)) fun v28 =>
        nm (y5 + 1) fun v29 =>
        nm (y6 + 1) fun v30 =>
        ih16 v30 v29 v28 q3 y1 u26
      else
        nm (y6 + 1) fun v16 =>
        ih16 v16 y5 y4 q3 y1 u10
def f_X7_levelOf_L16 (N : Nt) (k2 : Nat) : Nat → Int32 → Int32 → Int32 → Nat → Int32 → St → Option (Int32 × St) := lp (fun _ _ _ _ _ _ => none) (f_X7_levelOf_L16b N k2)
def f_X7_levelOf (N : Nt) (u : St) (x1 : Int32) (k2 : Nat) : Option (Int32 × St) :=
  gd (inb x1 8) <|
  gd ((ix x1) < N 14) <|
  f_X7_levelOf_L16 N k2 1000000 0 0 0 (ix x1) x1 u
set_option maxRecDepth 100000 in
set_option maxHeartbeats 4000000 in
theorem c_X7_levelOf (l : Launch) (z : Zt) (ad : Ad) (N : Nt) (X : Gt) (u : St) (x1 : Int32) (k2 : Nat) (hk2 : k2 < 2) {r9 : Int32} {u9 : St} (h : f_X7_levelOf N u x1 k2 = some (r9, u9)) : MC l z yX7_levelOf cX7_levelOf 9 (some .int) { frames := 2, cells := 0, slots := 0, locals := 44 } 0 0 [.ref (ad 0 0), .int x1, .ref (ad 10 k2)] ad (GC z ad N X u) (QI z ad (GC z ad N X u9) r9) := by
  refine Met.ofW (cc := cX7_levelOf) (maxL := 9) (ret := (some .int)) (by decide) rfl ?_
  intro p e s m args below meth c s₁ B hml hv
  obtain ⟨rfl, hSW, hW⟩ := hv
  have hx := B.exec; have hb := B.bytes; have hr := B.returns; have hlocks := B.notSynchronized
  have hown : s.vm.findClass RX7 = some m.cls := findClass_of_methodNamed B.named
  obtain ⟨hT, hK, hST, hB0⟩ := id hSW
  have hS : va_S (zA z) s.heap s.heap [] := va_S.rf
  have hl := lv_entry ([.ref (ad 0 0), .int x1, .ref (ad 10 k2)]) (n := 9) (Nat.le_of_ble_eq_true rfl)
  rw [lg_entry_eq]
  generalize (lg_sl ([.ref (ad 0 0), .int x1, .ref (ad 10 k2)]) ++ List.replicate (9 - (lg_sl ([.ref (ad 0 0), .int x1, .ref (ad 10 k2)])).length) Slot.unset).toArray = ls at hl ⊢
  have hl : lv_has ls 9 [(0, .ref (ad 0 0)), (1, .int x1), (2, .ref (ad 10 k2))] := hl
  let WW : Heap → List Loc → JFrame → Prop := fun H locs g => W p l e (headSpec [Cond.code yX7_levelOf cX7_levelOf 9 (some .int)] { frames := 2, cells := 0, slots := 0, locals := 44 }).room s m [.ref (ad 0 0), .int x1, .ref (ad 10 k2)].toArray below meth c H locs 0 0 (MQ below (QI z ad (GC z ad N X u9) r9) [.ref (ad 0 0), .int x1, .ref (ad 10 k2)].toArray s 0 0 (zA z)) g
  have hL16b : ∀ (ih16 : Int32 → Int32 → Int32 → Nat → Int32 → St → Option (Int32 × St)) (hih16 : ∀ (y6 : Int32) (y5 : Int32) (y4 : Int32) (q3 : Nat) (y1 : Int32) (u : St) (H : Heap) (locs : List Loc) (ls : Array Slot), q3 < N 14 → lv_has ls 9 [(6, .int y6), (5, .int y5), (4, .int y4), (3, .ref (ad 14 q3)), (0, .ref (ad 0 0)), (1, .int y1), (2, .ref (ad 10 k2))] → GW z ad (GC z ad N X u) H → va_S (zA z) s.heap H locs → ih16 y6 y5 y4 q3 y1 u = some (r9, u9) → WW H locs (F0 m 16 ls [])), ∀ (y6 : Int32) (y5 : Int32) (y4 : Int32) (q3 : Nat) (y1 : Int32) (u : St) (H : Heap) (locs : List Loc) (ls : Array Slot), q3 < N 14 → lv_has ls 9 [(6, .int y6), (5, .int y5), (4, .int y4), (3, .ref (ad 14 q3)), (0, .ref (ad 0 0)), (1, .int y1), (2, .ref (ad 10 k2))] → GW z ad (GC z ad N X u) H → va_S (zA z) s.heap H locs → f_X7_levelOf_L16b N k2 ih16 y6 y5 y4 q3 y1 u = some (r9, u9) → WW H locs (F0 m 16 ls []) := by
    intro ih16 hih16 y6 y5 y4 q3 y1 u H locs ls hq3 hl hW hS h
    change W p l e _ s m _ below meth c H locs 0 0 _ (F0 m 16 ls [])
    unfold f_X7_levelOf_L16b at h
    refine lv_iload hx hb dX7_levelOf_16 (lv_at hl 0 rfl) ?_
    refine lv_aload_n hx hb dX7_levelOf_18 rfl (lv_at hl 4 rfl) ?_
    refine nb_get hx hb hT hK hown hW fl_X7_147 kr_0 (v := .int (u 2 0 0)) rfl dX7_levelOf_19 ?_
    refine lv_icmp_ge (tgt := 105) hx hb dX7_levelOf_22 (by decide) (fun c3 => ?_) (fun c3 => ?_)
    · replace h := ite_t h c3
      refine lv_iload hx hb dX7_levelOf_105 (lv_at hl 1 rfl) ?_
      refine lv_if_ne (tgt := 114) hx hb dX7_levelOf_107 (by decide) (fun c4 => ?_) (fun c4 => ?_)
      · replace h := ite_f h c4
        refine lv_iload hx hb dX7_levelOf_114 (lv_at hl 2 rfl) ?_
        refine lv_iload hx hb dX7_levelOf_116 (lv_at hl 1 rfl) ?_
        obtain ⟨g5, h⟩ := gd_s h
        refine lv_idiv hx hb dX7_levelOf_118 g5 ?_
        exact ne_iret hx hb hr rfl hlocks hW hS dX7_levelOf_119 h
      · replace h := ite_t h c4
        refine lv_iconst (v := 0) hx hb dX7_levelOf_110 (by decide) ?_
        refine lv_goto (tgt := 119) hx hb dX7_levelOf_111 (by decide) ?_
        exact ne_iret hx hb hr rfl hlocks hW hS dX7_levelOf_119 h
    · replace h := ite_f h c3
      refine lv_aload_n hx hb dX7_levelOf_25 rfl (lv_at hl 4 rfl) ?_
      refine nb_get hx hb hT hK hown hW fl_X7_23 kr_0 (v := .ref (ad 3 0)) rfl dX7_levelOf_26 ?_
      refine lv_iload hx hb dX7_levelOf_29 (lv_at hl 0 rfl) ?_
      obtain ⟨g6, h⟩ := gd_s h
      obtain ⟨g7, h⟩ := gd_s h
      refine nb_aald hx hb hK hW 4 kr_3 rfl rfl (inb_in g6) (a := ad 15 (ix y6)) (qrow_at g7) dX7_levelOf_31 ?_
      obtain ⟨r8, u10, h09, h⟩ := sb_s h
      refine nb_cq (nb_runV (As := []) (rest := []) hx hb hml hown hSW hS hW (c_X5_soundingPan l z ad N X u (ix y6) g7 h09) mf_X5_soundingPan lk_X7_236 (kr_15 g7) rfl rfl ⟨rfl, rfl⟩ ⟨Nat.le_of_ble_eq_true rfl, Nat.le_of_ble_eq_true rfl⟩ hl.1 (Nat.le_of_ble_eq_true rfl) dX7_levelOf_32 ⟨Nat.le_of_ble_eq_true rfl, Nat.le_of_ble_eq_true rfl⟩) hS (fun H locs (hW : GW z ad (GC z ad N X u10) H) hS => ?_)
      refine nb_oc (fun o12 => ?_) (fun q11 o12 => ?_)
      · replace h := oc_n o12 h
        refine lv_astoreN (lv' := [(7, .null), (6, .int y6), (5, .int y5), (4, .int y4), (3, .ref (ad 14 q3)), (0, .ref (ad 0 0)), (1, .int y1), (2, .ref (ad 10 k2))]) hx hb dX7_levelOf_35 hl (by decide) rfl (fun ls hl => ?_)
        refine lv_aloadN hx hb dX7_levelOf_37 (lv_at hl 0 rfl) ?_
        refine lv_ifnullN (tgt := 99) hx hb dX7_levelOf_39 (by decide) ?_
        obtain ⟨v13, ev13, h⟩ := nm_s h
        refine lv_iinc (v := v13) (lv' := [(6, .int v13), (7, .null), (5, .int y5), (4, .int y4), (3, .ref (ad 14 q3)), (0, .ref (ad 0 0)), (1, .int y1), (2, .ref (ad 10 k2))]) hx hb dX7_levelOf_99 hl (k := 1) rfl (by rw [ev13]; rfl) (by decide) rfl (fun ls hl => ?_)
        refine lv_goto (tgt := 16) hx hb dX7_levelOf_102 (by decide) ?_
        exact hih16 _ _ _ _ _ _ _ _ _ hq3 (lv_sub hl [0, 2, 3, 4, 5, 6, 7] rfl) hW hS h
      · replace h := oc_q o12 h
        obtain ⟨g14, h⟩ := gd_s h
        refine lv_astore (lv' := [(7, .ref (ad 12 q11)), (6, .int y6), (5, .int y5), (4, .int y4), (3, .ref (ad 14 q3)), (0, .ref (ad 0 0)), (1, .int y1), (2, .ref (ad 10 k2))]) hx hb dX7_levelOf_35 hl (by decide) rfl (fun ls hl => ?_)
        refine lv_aload hx hb dX7_levelOf_37 (lv_at hl 0 rfl) ?_
        refine lv_ifnull hx hb dX7_levelOf_39 ?_
        refine lv_aload_n hx hb dX7_levelOf_42 rfl (lv_at hl 5 rfl) ?_
        refine nb_get hx hb hT hK hown hW fl_X7_23 kr_0 (v := .ref (ad 3 0)) rfl dX7_levelOf_43 ?_
        refine lv_iload hx hb dX7_levelOf_46 (lv_at hl 1 rfl) ?_
        refine nb_aald hx hb hK hW 4 kr_3 rfl rfl (inb_in g6) (a := ad 15 (ix y6)) (qrow_at g7) dX7_levelOf_48 ?_
        refine nb_get hx hb hT hK hown hW fl_X7_190 (kr_15 g7) (v := .int (u10 30 (ix y6) 0)) rfl dX7_levelOf_49 ?_
        refine lv_aload_n hx hb dX7_levelOf_52 rfl (lv_at hl 4 rfl) ?_
        refine nb_get hx hb hT hK hown hW fl_X7_208 (kr_14 hq3) (v := .int (u10 20 q3 0)) rfl dX7_levelOf_53 ?_
        refine lv_icmp_ne (tgt := 99) hx hb dX7_levelOf_56 (by decide) (fun c15 => ?_) (fun c15 => ?_)
        · replace h := ite_f h c15
          obtain ⟨v16, ev16, h⟩ := nm_s h
          refine lv_iinc (v := v16) (lv' := [(6, .int v16), (7, .ref (ad 12 q11)), (5, .int y5), (4, .int y4), (3, .ref (ad 14 q3)), (0, .ref (ad 0 0)), (1, .int y1), (2, .ref (ad 10 k2))]) hx hb dX7_levelOf_99 hl (k := 1) rfl (by rw [ev16]; rfl) (by decide) rfl (fun ls hl => ?_)
          refine lv_goto (tgt := 16) hx hb dX7_levelOf_102 (by decide) ?_
          exact hih16 _ _ _ _ _ _ _ _ _ hq3 (lv_sub hl [0, 2, 3, 4, 5, 6, 7] rfl) hW hS h
        · replace h := ite_t h c15
          refine lv_aload hx hb dX7_levelOf_59 (lv_at hl 0 rfl) ?_
          obtain ⟨r17, u19, h18, h⟩ := sb_s h
          refine nb_ci (nb_runV (As := []) (rest := []) hx hb hml hown hSW hS hW (c_X3_notesInTune l z ad N X u10 q11 g14 h18) mf_X3_notesInTune lk_X7_502 (kr_12 g14) rfl rfl ⟨rfl, rfl⟩ ⟨Nat.le_of_ble_eq_true rfl, Nat.le_of_ble_eq_true rfl⟩ hl.1 (Nat.le_of_ble_eq_true rfl) dX7_levelOf_61 ⟨Nat.le_of_ble_eq_true rfl, Nat.le_of_ble_eq_true rfl⟩) hS (fun H locs (hW : GW z ad (GC z ad N X u19) H) hS => ?_)
          refine lv_aload_n hx hb dX7_levelOf_64 rfl (lv_at hl 4 rfl) ?_
          refine nb_get hx hb hT hK hown hW fl_X7_329 (kr_14 hq3) (v := .int (u19 22 q3 0)) rfl dX7_levelOf_65 ?_
          refine lv_iand hx hb dX7_levelOf_68 ?_
          obtain ⟨r20, u22, h21, h⟩ := sb_s h
          refine nb_ci (nb_runS (As := [.int (r17 &&& (u19 22 q3 0))]) (rest := []) hx hb hml hown hSW hS hW (c_J6_bitCount_0f7a4 l z ad N X u19 (r17 &&& (u19 22 q3 0)) h21) mf_J6_bitCount_0f7a4 lk_X7_505 rfl ⟨rfl, rfl⟩ ⟨Nat.le_of_ble_eq_true rfl, Nat.le_of_ble_eq_true rfl⟩ hl.1 (Nat.le_of_ble_eq_true rfl) dX7_levelOf_69 ⟨Nat.le_of_ble_eq_true rfl, Nat.le_of_ble_eq_true rfl⟩) hS (fun H locs (hW : GW z ad (GC z ad N X u22) H) hS => ?_)
          refine lv_istore (lv' := [(8, .int r20), (7, .ref (ad 12 q11)), (6, .int y6), (5, .int y5), (4, .int y4), (3, .ref (ad 14 q3)), (0, .ref (ad 0 0)), (1, .int y1), (2, .ref (ad 10 k2))]) hx hb dX7_levelOf_72 hl (by decide) rfl (fun ls hl => ?_)
          refine lv_iload hx hb dX7_levelOf_74 (lv_at hl 4 rfl) ?_
          refine lv_aload_n hx hb dX7_levelOf_76 rfl (lv_at hl 8 rfl) ?_
          refine nb_get hx hb hT hK hown hW fl_X7_225 (kr_10 hk2) (v := .ref (ad 11 k2)) rfl dX7_levelOf_77 ?_
          refine lv_iload hx hb dX7_levelOf_80 (lv_at hl 2 rfl) ?_
          refine nb_aald hx hb hK hW 1 (kr_11 hk2) rfl rfl (inb_in g6) (a := ad 20 (8 * k2 + (ix y6))) (qrow_at (inb_lt g6)) dX7_levelOf_82 ?_
          refine lv_iload_n hx hb dX7_levelOf_83 rfl (lv_at hl 7 rfl) ?_
          obtain ⟨g23, h⟩ := gd_s h
          refine nb_iald hx hb hK hW 0 (kr_20 (row_lt hk2 (inb_lt g6))) rfl (inb_in g23) dX7_levelOf_84 ?_
          refine lv_iload hx hb dX7_levelOf_85 (lv_at hl 0 rfl) ?_
          refine lv_imul hx hb dX7_levelOf_87 ?_
          refine lv_aload_n hx hb dX7_levelOf_88 rfl (lv_at hl 5 rfl) ?_
          obtain ⟨r24, u26, h25, h⟩ := sb_s h
          refine nb_ci (nb_runV (As := []) (rest := [.int ((u22 40 (8 * k2 + (ix y6)) (ix y1)) * r20), .int y4]) hx hb hml hown hSW hS hW (c_X4_noteCount l z ad N X u22 q3 hq3 h25) mf_X4_noteCount lk_X7_510 (kr_14 hq3) rfl rfl ⟨rfl, rfl⟩ ⟨Nat.le_of_ble_eq_true rfl, Nat.le_of_ble_eq_true rfl⟩ hl.1 (Nat.le_of_ble_eq_true rfl) dX7_levelOf_89 ⟨Nat.le_of_ble_eq_true rfl, Nat.le_of_ble_eq_true rfl⟩) hS (fun H locs (hW : GW z ad (GC z ad N X u26) H) hS => ?_)
          obtain ⟨g27, h⟩ := gd_s h
          refine lv_idiv hx hb dX7_levelOf_92 g27 ?_
          refine lv_iadd hx hb dX7_levelOf_93 ?_
          refine lv_topi (fun v28 ev28 => ?_)
          replace h := nm_at ev28 h
          refine lv_istore (lv' := [(4, .int v28), (8, .int r20), (7, .ref (ad 12 q11)), (6, .int y6), (5, .int y5), (3, .ref (ad 14 q3)), (0, .ref (ad 0 0)), (1, .int y1), (2, .ref (ad 10 k2))]) hx hb dX7_levelOf_94 hl (by decide) rfl (fun ls hl => ?_)
          obtain ⟨v29, ev29, h⟩ := nm_s h
          refine lv_iinc (v := v29) (lv' := [(5, .int v29), (4, .int v28), (8, .int r20), (7, .ref (ad 12 q11)), (6, .int y6), (3, .ref (ad 14 q3)), (0, .ref (ad 0 0)), (1, .int y1), (2, .ref (ad 10 k2))]) hx hb dX7_levelOf_96 hl (k := 4) rfl (by rw [ev29]; rfl) (by decide) rfl (fun ls hl => ?_)
          obtain ⟨v30, ev30, h⟩ := nm_s h
          refine lv_iinc (v := v30) (lv' := [(6, .int v30), (5, .int v29), (4, .int v28), (8, .int r20), (7, .ref (ad 12 q11)), (3, .ref (ad 14 q3)), (0, .ref (ad 0 0)), (1, .int y1), (2, .ref (ad 10 k2))]) hx hb dX7_levelOf_99 hl (k := 4) rfl (by rw [ev30]; rfl) (by decide) rfl (fun ls hl => ?_)
          refine lv_goto (tgt := 16) hx hb dX7_levelOf_102 (by decide) ?_
          exact hih16 _ _ _ _ _ _ _ _ _ hq3 (lv_sub hl [0, 1, 2, 5, 6, 7, 8] rfl) hW hS h
  have hL16 : ∀ (n : Nat), ∀ (y6 : Int32) (y5 : Int32) (y4 : Int32) (q3 : Nat) (y1 : Int32) (u : St) (H : Heap) (locs : List Loc) (ls : Array Slot), q3 < N 14 → lv_has ls 9 [(6, .int y6), (5, .int y5), (4, .int y4), (3, .ref (ad 14 q3)), (0, .ref (ad 0 0)), (1, .int y1), (2, .ref (ad 10 k2))] → GW z ad (GC z ad N X u) H → va_S (zA z) s.heap H locs → f_X7_levelOf_L16 N k2 n y6 y5 y4 q3 y1 u = some (r9, u9) → WW H locs (F0 m 16 ls []) := by
    intro n
    induction n with
    | zero => intro y6 y5 y4 q3 y1 u H locs ls hq3 hl hW hS h; exact absurd h (by intro q; cases q)
    | succ n ihn => intro y6 y5 y4 q3 y1 u H locs ls hq3 hl hW hS h; exact hL16b (f_X7_levelOf_L16 N k2 n) ihn y6 y5 y4 q3 y1 u H locs ls hq3 hl hW hS h
  unfold f_X7_levelOf at h
  refine lv_aload_n hx hb dX7_levelOf_0 rfl (lv_at hl 0 rfl) ?_
  refine nb_get hx hb hT hK hown hW fl_X7_17 kr_0 (v := .ref (ad 2 0)) rfl dX7_levelOf_1 ?_
  refine lv_iload_n hx hb dX7_levelOf_4 rfl (lv_at hl 1 rfl) ?_
  obtain ⟨g1, h⟩ := gd_s h
  obtain ⟨g2, h⟩ := gd_s h
  refine nb_aald hx hb hK hW 3 kr_2 rfl rfl (inb_in g1) (a := ad 14 (ix x1)) (qrow_at g2) dX7_levelOf_5 ?_
  refine lv_astore_n (lv' := [(3, .ref (ad 14 (ix x1))), (0, .ref (ad 0 0)), (1, .int x1), (2, .ref (ad 10 k2))]) hx hb dX7_levelOf_6 rfl hl (by decide) rfl (fun ls hl => ?_)
  refine lv_iconst (v := 0) hx hb dX7_levelOf_7 (by decide) ?_
  refine lv_istore (lv' := [(4, .int 0), (3, .ref (ad 14 (ix x1))), (0, .ref (ad 0 0)), (1, .int x1), (2, .ref (ad 10 k2))]) hx hb dX7_levelOf_8 hl (by decide) rfl (fun ls hl => ?_)
  refine lv_iconst (v := 0) hx hb dX7_levelOf_10 (by decide) ?_
  refine lv_istore (lv' := [(5, .int 0), (4, .int 0), (3, .ref (ad 14 (ix x1))), (0, .ref (ad 0 0)), (1, .int x1), (2, .ref (ad 10 k2))]) hx hb dX7_levelOf_11 hl (by decide) rfl (fun ls hl => ?_)
  refine lv_iconst (v := 0) hx hb dX7_levelOf_13 (by decide) ?_
  refine lv_istore (lv' := [(6, .int 0), (5, .int 0), (4, .int 0), (3, .ref (ad 14 (ix x1))), (0, .ref (ad 0 0)), (1, .int x1), (2, .ref (ad 10 k2))]) hx hb dX7_levelOf_14 hl (by decide) rfl (fun ls hl => ?_)
  exact hL16 1000000 _ _ _ _ _ _ _ _ _ g2 (lv_sub hl [0, 1, 2, 3, 4, 5, 6] rfl) hW hS h
