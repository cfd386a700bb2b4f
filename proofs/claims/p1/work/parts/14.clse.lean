/-- Panyard.weigh -/
def f_X7_weigh_L2b (N : Nt) (k1 : Nat) (ih2 : Int32 → St → Option (Unit × St)) (y2 : Int32) (u : St) : Option (Unit × St) :=
  if (u 1 0 0) ≤ y2 then
    some ((), u)
  else
    sb (f_X7_levelOf N u y2 k1) fun r2 u4 =>
    gd (inb y2 8) <|
    nm (sset u4 70 0 (ix y2) r2) fun u6 =>
    nm (y2 + 1) fun v7 =>
    ih2 v7 u6
def f_X7_weigh_L2 (N : Nt) (k1 : Nat) : Nat → Int32 → St → Option (Unit × St) := lp (fun _ _ => none) (f_X7_weigh_L2b N k1)
def f_X7_weigh (N : Nt) (u : St) (k1 : Nat) : Option (Unit × St) :=
  f_X7_weigh_L2 N k1 1000000 0 u
set_option maxRecDepth 100000 in
set_option maxHeartbeats 4000000 in
theorem c_X7_weigh (l : Launch) (z : Zt) (ad : Ad) (N : Nt) (X : Gt) (u : St) (k1 : Nat) (hk1 : k1 < 2) {r9 : Unit} {u9 : St} (h : f_X7_weigh N u k1 = some (r9, u9)) : MC l z yX7_weigh cX7_weigh 3 none { frames := 3, cells := 0, slots := 0, locals := 72 } 0 0 [.ref (ad 0 0), .ref (ad 10 k1)] ad (GC z ad N X u) (QV z ad (GC z ad N X u9)) := by
  refine Met.ofW (cc := cX7_weigh) (maxL := 3) (ret := none) (by decide) rfl ?_
  intro p e s m args below meth c s₁ B hml hv
  obtain ⟨rfl, hSW, hW⟩ := hv
  have hx := B.exec; have hb := B.bytes; have hr := B.returns; have hlocks := B.notSynchronized
  have hown : s.vm.findClass RX7 = some m.cls := findClass_of_methodNamed B.named
  obtain ⟨hT, hK, hST, hB0⟩ := id hSW
  have hS : va_S (zA z) s.heap s.heap [] := va_S.rf
  have hl := lv_entry ([.ref (ad 0 0), .ref (ad 10 k1)]) (n := 3) (Nat.le_of_ble_eq_true rfl)
  rw [lg_entry_eq]
  generalize (lg_sl ([.ref (ad 0 0), .ref (ad 10 k1)]) ++ List.replicate (3 - (lg_sl ([.ref (ad 0 0), .ref (ad 10 k1)])).length) Slot.unset).toArray = ls at hl ⊢
  have hl : lv_has ls 3 [(0, .ref (ad 0 0)), (1, .ref (ad 10 k1))] := hl
  let WW : Heap → List Loc → JFrame → Prop := fun H locs g => W p l e (headSpec [Cond.code yX7_weigh cX7_weigh 3 none] { frames := 3, cells := 0, slots := 0, locals := 72 }).room s m [.ref (ad 0 0), .ref (ad 10 k1)].toArray below meth c H locs 0 0 (MQ below (QV z ad (GC z ad N X u9)) [.ref (ad 0 0), .ref (ad 10 k1)].toArray s 0 0 (zA z)) g
  have hL2b : ∀ (ih2 : Int32 → St → Option (Unit × St)) (hih2 : ∀ (y2 : Int32) (u : St) (H : Heap) (locs : List Loc) (ls : Array Slot), lv_has ls 3 [(2, .int y2), (0, .ref (ad 0 0)), (1, .ref (ad 10 k1))] → GW z ad (GC z ad N X u) H → va_S (zA z) s.heap H locs → ih2 y2 u = some (r9, u9) → WW H locs (F0 m 2 ls [])), ∀ (y2 : Int32) (u : St) (H : Heap) (locs : List Loc) (ls : Array Slot), lv_has ls 3 [(2, .int y2), (0, .ref (ad 0 0)), (1, .ref (ad 10 k1))] → GW z ad (GC z ad N X u) H → va_S (zA z) s.heap H locs → f_X7_weigh_L2b N k1 ih2 y2 u = some (r9, u9) → WW H locs (F0 m 2 ls []) := by
    intro ih2 hih2 y2 u H locs ls hl hW hS h
    change W p l e _ s m _ below meth c H locs 0 0 _ (F0 m 2 ls [])
    unfold f_X7_weigh_L2b at h
    refine lv_iload_n hx hb dX7_weigh_2 rfl (lv_at hl 0 rfl) ?_
    refine lv_aload_n hx hb dX7_weigh_3 rfl (lv_at hl 1 rfl) ?_
    refine nb_get hx hb hT hK hown hW fl_X7_133 kr_0 (v := .int (u 1 0 0)) rfl dX7_weigh_4 ?_
    refine lv_icmp_ge (tgt := 28) hx hb dX7_weigh_7 (by decide) (fun c1 => ?_) (fun c1 => ?_)
    · replace h := ite_t h c1
      exact ne_vret hx hb hr hlocks hW hS dX7_weigh_28 h
    · replace h := ite_f h c1
      refine lv_aload_n hx hb dX7_weigh_10 rfl (lv_at hl 1 rfl) ?_
      refine nb_get hx hb hT hK hown hW fl_X7_72 kr_0 (v := .ref (ad 4 0)) rfl dX7_weigh_11 ?_
      refine lv_iload_n hx hb dX7_weigh_14 rfl (lv_at hl 0 rfl) ?_
      refine lv_aload_n hx hb dX7_weigh_15 rfl (lv_at hl 1 rfl) ?_
      refine lv_iload_n hx hb dX7_weigh_16 rfl (lv_at hl 0 rfl) ?_
      refine lv_aload_n hx hb dX7_weigh_17 rfl (lv_at hl 2 rfl) ?_
      obtain ⟨r2, u4, h3, h⟩ := sb_s h
      refine nb_ci (nb_runV (As := [.int y2, .ref (ad 10 k1)]) (rest := [.int y2, .ref (ad 4 0)]) hx hb hml hown hSW hS hW (c_X7_levelOf l z ad N X u y2 k1 hk1 h3) mf_X7_levelOf lk_X7_498 kr_0 rfl rfl ⟨rfl, rfl⟩ ⟨Nat.le_of_ble_eq_true rfl, Nat.le_of_ble_eq_true rfl⟩ hl.1 (Nat.le_of_ble_eq_true rfl) dX7_weigh_18 ⟨Nat.le_of_ble_eq_true rfl, Nat.le_of_ble_eq_true rfl⟩) hS (fun H locs (hW : GW z ad (GC z ad N X u4) H) hS => ?_)
      obtain ⟨g5, h⟩ := gd_s h
      obtain ⟨u6, eu6, h⟩ := nm_s h
      refine nb_iast hx hb hK hW hS 0 kr_4 rfl (inb_in g5) ((gp_70).trans (congrArg (GC z ad N X) eu6.symm)) dX7_weigh_21 (fun H locs hW hS => ?_)
      obtain ⟨v7, ev7, h⟩ := nm_s h
      refine lv_iinc (v := v7) (lv' := [(2, .int v7), (0, .ref (ad 0 0)), (1, .ref (ad 10 k1))]) hx hb dX7_weigh_22 hl (k := 0) rfl (by rw [ev7]; rfl) (by decide) rfl (fun ls hl => ?_)
      refine lv_goto (tgt := 2) hx hb dX7_weigh_25 (by decide) ?_
      exact hih2 _ _ _ _ _ (lv_sub hl [0, 1, 2] rfl) hW hS h
  have hL2 : ∀ (n : Nat), ∀ (y2 : Int32) (u : St) (H : Heap) (locs : List Loc) (ls : Array Slot), lv_has ls 3 [(2, .int y2), (0, .ref (ad 0 0)), (1, .ref (ad 10 k1))] → GW z ad (GC z ad N X u) H → va_S (zA z) s.heap H locs → f_X7_weigh_L2 N k1 n y2 u = some (r9, u9) → WW H locs (F0 m 2 ls []) := by
    intro n
    induction n with
    | zero => intro y2 u H locs ls hl hW hS h; exact absurd h (by intro q; cases q)
    | succ n ihn => intro y2 u H locs ls hl hW hS h; exact hL2b (f_X7_weigh_L2 N k1 n) ihn y2 u H locs ls hl hW hS h
  unfold f_X7_weigh at h
  refine lv_iconst (v := 0) hx hb dX7_weigh_0 (by decide) ?_
  refine lv_istore_n (lv' := [(2, .int 0), (0, .ref (ad 0 0)), (1, .ref (ad 10 k1))]) hx hb dX7_weigh_1 rfl hl (by decide) rfl (fun ls hl => ?_)
  exact hL2 1000000 _ _ _ _ _ (lv_sub hl [0, 1, 2] rfl) hW hS h
/-- Panyard$Pan.grade -/
def f_X3_grade (N : Nt) (u : St) (k0 : Nat) : Option (Int32 × St) :=
  sb (f_X3_isCracked N u k0) fun r1 u3 =>
  if r1 = 0 then
    sb (f_X3_notesInTune N u3 k0) fun r5 u7 =>
    sb (f_J6_bitCount_0f7a4 N u7 r5) fun r8 u10 =>
    some (r8, u10)
  else
    some (0, u3)
set_option maxRecDepth 100000 in
set_option maxHeartbeats 4000000 in
theorem c_X3_grade (l : Launch) (z : Zt) (ad : Ad) (N : Nt) (X : Gt) (u : St) (k0 : Nat) (hk0 : vPan N k0) {r9 : Int32} {u9 : St} (h : f_X3_grade N u k0 = some (r9, u9)) : MC l z yX3_grade cX3_grade 1 (some .int) { frames := 2, cells := 0, slots := 0, locals := 44 } 0 0 [.ref (ad 12 k0)] ad (GC z ad N X u) (QI z ad (GC z ad N X u9) r9) := by
  refine Met.ofW (cc := cX3_grade) (maxL := 1) (ret := (some .int)) (by decide) rfl ?_
  intro p e s m args below meth c s₁ B hml hv
  obtain ⟨rfl, hSW, hW⟩ := hv
  have hx := B.exec; have hb := B.bytes; have hr := B.returns; have hlocks := B.notSynchronized
  have hown : s.vm.findClass RX3 = some m.cls := findClass_of_methodNamed B.named
  obtain ⟨hT, hK, hST, hB0⟩ := id hSW
  have hS : va_S (zA z) s.heap s.heap [] := va_S.rf
  have hl := lv_entry ([.ref (ad 12 k0)]) (n := 1) (Nat.le_of_ble_eq_true rfl)
  rw [lg_entry_eq]
  generalize (lg_sl ([.ref (ad 12 k0)]) ++ List.replicate (1 - (lg_sl ([.ref (ad 12 k0)])).length) Slot.unset).toArray = ls at hl ⊢
  have hl : lv_has ls 1 [(0, .ref (ad 12 k0))] := hl
  unfold f_X3_grade at h
  refine lv_aload_n hx hb dX3_grade_0 rfl (lv_at hl 0 rfl) ?_
  obtain ⟨r1, u3, h2, h⟩ := sb_s h
  refine nb_ci (nb_runV (As := []) (rest := []) hx hb hml hown hSW hS hW (c_X3_isCracked l z ad N X u k0 hk0 h2) mf_X3_isCracked lk_X3_40 (kr_12 hk0) rfl rfl ⟨rfl, rfl⟩ ⟨Nat.le_of_ble_eq_true rfl, Nat.le_of_ble_eq_true rfl⟩ hl.1 (Nat.le_of_ble_eq_true rfl) dX3_grade_1 ⟨Nat.le_of_ble_eq_true rfl, Nat.le_of_ble_eq_true rfl⟩) hS (fun H locs (hW : GW z ad (GC z ad N X u3) H) hS => ?_)
  refine lv_if_eq (tgt := 11) hx hb dX3_grade_4 (by decide) (fun c4 => ?_) (fun c4 => ?_)
  · replace h := ite_t h c4
    refine lv_aload_n hx hb dX3_grade_11 rfl (lv_at hl 0 rfl) ?_
    obtain ⟨r5, u7, h6, h⟩ := sb_s h
    refine nb_ci (nb_runV (As := []) (rest := []) hx hb hml hown hSW hS hW (c_X3_notesInTune l z ad N X u3 k0 hk0 h6) mf_X3_notesInTune lk_X3_44 (kr_12 hk0) rfl rfl ⟨rfl, rfl⟩ ⟨Nat.le_of_ble_eq_true rfl, Nat.le_of_ble_eq_true rfl⟩ hl.1 (Nat.le_of_ble_eq_true rfl) dX3_grade_12 ⟨Nat.le_of_ble_eq_true rfl, Nat.le_of_ble_eq_true rfl⟩) hS (fun H locs (hW : GW z ad (GC z ad N X u7) H) hS => ?_)
    obtain ⟨r8, u10, h09, h⟩ := sb_s h
    refine nb_ci (nb_runS (As := [.int r5]) (rest := []) hx hb hml hown hSW hS hW (c_J6_bitCount_0f7a4 l z ad N X u7 r5 h09) mf_J6_bitCount_0f7a4 lk_X3_48 rfl ⟨rfl, rfl⟩ ⟨Nat.le_of_ble_eq_true rfl, Nat.le_of_ble_eq_true rfl⟩ hl.1 (Nat.le_of_ble_eq_true rfl) dX3_grade_15 ⟨Nat.le_of_ble_eq_true rfl, Nat.le_of_ble_eq_true rfl⟩) hS (fun H locs (hW : GW z ad (GC z ad N X u10) H) hS => ?_)
    exact ne_iret hx hb hr rfl hlocks hW hS dX3_grade_18 h
  · replace h := ite_f h c4
    refine lv_iconst (v := 0) hx hb dX3_grade_7 (by decide) ?_
    refine lv_goto (tgt := 18) hx hb dX3_grade_8 (by decide) ?_
    exact ne_iret hx hb hr rfl hlocks hW hS dX3_grade_18 h
/-- Panyard.tone -/
def f_X7_tone_L6b (N : Nt) (ih6 : Int32 → Int32 → Int32 → St → Option (Int32 × St)) (y3 : Int32) (y2 : Int32) (y1 : Int32) (u : St) : Option (Int32 × St) :=
  if (u 2 0 0) ≤ y3 then
    if y2 = 0 then
      some (0, u)
    else
      gd (¬ y2 = 0) <|
      some (((12 * y1) / y2), u)
  else
    gd (inb y3 8) <|
    gd ((ix y3) < N 15) <|
    sb (f_X5_soundingPan N u (ix y3)) fun r6 u8 =>
    oc r6
      (
        nm (y3 + 1) fun v11 =>
        ih6 v11 y2 y1 u8
      )
      fun q09 =>
      gd (vPan N q09) <|
      sb (f_X3_grade N u8 q09) fun r13 u15 =>
      nm (y1 + r13) fun v16 =>
      nm (y2 + 1) fun v17 =>
      nm (y3 + 1) fun v18 =>
      ih6 v18 v17 v16 u15
def f_X7_tone_L6 (N : Nt) : Nat → Int32 → Int32 → Int32 → St → Option (Int32 × St) := lp (fun _ _ _ _ => none) (f_X7_tone_L6b N)
def f_X7_tone (N : Nt) (u : St) : Option (Int32 × St) :=
  f_X7_tone_L6 N 1000000 0 0 0 u
set_option maxRecDepth 100000 in
set_option maxHeartbeats 4000000 in
theorem c_X7_tone (l : Launch) (z : Zt) (ad : Ad) (N : Nt) (X : Gt) (u : St) {r9 : Int32} {u9 : St} (h : f_X7_tone N u = some (r9, u9)) : MC l z yX7_tone cX7_tone 5 (some .int) { frames := 3, cells := 0, slots := 0, locals := 64 } 0 0 [.ref (ad 0 0)] ad (GC z ad N X u) (QI z ad (GC z ad N X u9) r9) := by
  refine Met.ofW (cc := cX7_tone) (maxL := 5) (ret := (some .int)) (by decide) rfl ?_
  intro p e s m args below meth c s₁ B hml hv
  obtain ⟨rfl, hSW, hW⟩ := hv
  have hx := B.exec; have hb := B.bytes; have hr := B.returns; have hlocks := B.notSynchronized
  have hown : s.vm.findClass RX7 = some m.cls := findClass_of_methodNamed B.named
  obtain ⟨hT, hK, hST, hB0⟩ := id hSW
  have hS : va_S (zA z) s.heap s.heap [] := va_S.rf
  have hl := lv_entry ([.ref (ad 0 0)]) (n := 5) (Nat.le_of_ble_eq_true rfl)
  rw [lg_entry_eq]
  generalize (lg_sl ([.ref (ad 0 0)]) ++ List.replicate (5 - (lg_sl ([.ref (ad 0 0)])).length) Slot.unset).toArray = ls at hl ⊢
  have hl : lv_has ls 5 [(0, .ref (ad 0 0))] := hl
  let WW : Heap → List Loc → JFrame → Prop := fun H locs g => W p l e (headSpec [Cond.code yX7_tone cX7_tone 5 (some .int)] { frames := 3, cells := 0, slots := 0, locals := 64 }).room s m [.ref (ad 0 0)].toArray below meth c H locs 0 0 (MQ below (QI z ad (GC z ad N X u9) r9) [.ref (ad 0 0)].toArray s 0 0 (zA z)) g
  have hL6b : ∀ (ih6 : Int32 → Int32 → Int32 → St → Option (Int32 × St)) (hih6 : ∀ (y3 : Int32) (y2 : Int32) (y1 : Int32) (u : St) (H : Heap) (locs : List Loc) (ls : Array Slot), lv_has ls 5 [(3, .int y3), (2, .int y2), (1, .int y1), (0, .ref (ad 0 0))] → GW z ad (GC z ad N X u) H → va_S (zA z) s.heap H locs → ih6 y3 y2 y1 u = some (r9, u9) → WW H locs (F0 m 6 ls [])), ∀ (y3 : Int32) (y2 : Int32) (y1 : Int32) (u : St) (H : Heap) (locs : List Loc) (ls : Array Slot), lv_has ls 5 [(3, .int y3), (2, .int y2), (1, .int y1), (0, .ref (ad 0 0))] → GW z ad (GC z ad N X u) H → va_S (zA z) s.heap H locs → f_X7_tone_L6b N ih6 y3 y2 y1 u = some (r9, u9) → WW H locs (F0 m 6 ls []) := by
    intro ih6 hih6 y3 y2 y1 u H locs ls hl hW hS h
    change W p l e _ s m _ below meth c H locs 0 0 _ (F0 m 6 ls [])
    unfold f_X7_tone_L6b at h
    refine lv_iload_n hx hb dX7_tone_6 rfl (lv_at hl 0 rfl) ?_
    refine lv_aload_n hx hb dX7_tone_7 rfl (lv_at hl 3 rfl) ?_
    refine nb_get hx hb hT hK hown hW fl_X7_147 kr_0 (v := .int (u 2 0 0)) rfl dX7_tone_8 ?_
    refine lv_icmp_ge (tgt := 47) hx hb dX7_tone_11 (by decide) (fun c1 => ?_) (fun c1 => ?_)
    · replace h := ite_t h c1
      refine lv_iload_n hx hb dX7_tone_47 rfl (lv_at hl 1 rfl) ?_
      refine lv_if_ne (tgt := 55) hx hb dX7_tone_48 (by decide) (fun c2 => ?_) (fun c2 => ?_)
      · replace h := ite_f h c2
        refine lv_bipush (v := 12) hx hb dX7_tone_55 (by decide) ?_
        refine lv_iload_n hx hb dX7_tone_57 rfl (lv_at hl 2 rfl) ?_
        refine lv_imul hx hb dX7_tone_58 ?_
        refine lv_iload_n hx hb dX7_tone_59 rfl (lv_at hl 1 rfl) ?_
        obtain ⟨g3, h⟩ := gd_s h
        refine lv_idiv hx hb dX7_tone_60 g3 ?_
        exact ne_iret hx hb hr rfl hlocks hW hS dX7_tone_61 h
      · replace h := ite_t h c2
        refine lv_iconst (v := 0) hx hb dX7_tone_51 (by decide) ?_
        refine lv_goto (tgt := 61) hx hb dX7_tone_52 (by decide) ?_
        exact ne_iret hx hb hr rfl hlocks hW hS dX7_tone_61 h
    · replace h := ite_f h c1
      refine lv_aload_n hx hb dX7_tone_14 rfl (lv_at hl 3 rfl) ?_
      refine nb_get hx hb hT hK hown hW fl_X7_23 kr_0 (v := .ref (ad 3 0)) rfl dX7_tone_15 ?_
      refine lv_iload_n hx hb dX7_tone_18 rfl (lv_at hl 0 rfl) ?_
      obtain ⟨g4, h⟩ := gd_s h
      obtain ⟨g5, h⟩ := gd_s h
      refine nb_aald hx hb hK hW 4 kr_3 rfl rfl (inb_in g4) (a := ad 15 (ix y3)) (qrow_at g5) dX7_tone_19 ?_
      obtain ⟨r6, u8, h7, h⟩ := sb_s h
      refine nb_cq (nb_runV (As := []) (rest := []) hx hb hml hown hSW hS hW (c_X5_soundingPan l z ad N X u (ix y3) g5 h7) mf_X5_soundingPan lk_X7_236 (kr_15 g5) rfl rfl ⟨rfl, rfl⟩ ⟨Nat.le_of_ble_eq_true rfl, Nat.le_of_ble_eq_true rfl⟩ hl.1 (Nat.le_of_ble_eq_true rfl) dX7_tone_20 ⟨Nat.le_of_ble_eq_true rfl, Nat.le_of_ble_eq_true rfl⟩) hS (fun H locs (hW : GW z ad (GC z ad N X u8) H) hS => ?_)
      refine nb_oc (fun o10 => ?_) (fun q09 o10 => ?_)
      · replace h := oc_n o10 h
        refine lv_astoreN (lv' := [(4, .null), (3, .int y3), (2, .int y2), (1, .int y1), (0, .ref (ad 0 0))]) hx hb dX7_tone_23 hl (by decide) rfl (fun ls hl => ?_)
        refine lv_aloadN hx hb dX7_tone_25 (lv_at hl 0 rfl) ?_
        refine lv_ifnullN (tgt := 41) hx hb dX7_tone_27 (by decide) ?_
        obtain ⟨v11, ev11, h⟩ := nm_s h
        refine lv_iinc (v := v11) (lv' := [(3, .int v11), (4, .null), (2, .int y2), (1, .int y1), (0, .ref (ad 0 0))]) hx hb dX7_tone_41 hl (k := 1) rfl (by rw [ev11]; rfl) (by decide) rfl (fun ls hl => ?_)
        refine lv_goto (tgt := 6) hx hb dX7_tone_44 (by decide) ?_
        exact hih6 _ _ _ _ _ _ _ (lv_sub hl [0, 2, 3, 4] rfl) hW hS h
      · replace h := oc_q o10 h
        obtain ⟨g12, h⟩ := gd_s h
        refine lv_astore (lv' := [(4, .ref (ad 12 q09)), (3, .int y3), (2, .int y2), (1, .int y1), (0, .ref (ad 0 0))]) hx hb dX7_tone_23 hl (by decide) rfl (fun ls hl => ?_)
        refine lv_aload hx hb dX7_tone_25 (lv_at hl 0 rfl) ?_
        refine lv_ifnull hx hb dX7_tone_27 ?_
        refine lv_iload_n hx hb dX7_tone_30 rfl (lv_at hl 3 rfl) ?_
        refine lv_aload hx hb dX7_tone_31 (lv_at hl 0 rfl) ?_
        obtain ⟨r13, u15, h14, h⟩ := sb_s h
        refine nb_ci (nb_runV (As := []) (rest := [.int y1]) hx hb hml hown hSW hS hW (c_X3_grade l z ad N X u8 q09 g12 h14) mf_X3_grade lk_X7_318 (kr_12 g12) rfl rfl ⟨rfl, rfl⟩ ⟨Nat.le_of_ble_eq_true rfl, Nat.le_of_ble_eq_true rfl⟩ hl.1 (Nat.le_of_ble_eq_true rfl) dX7_tone_33 ⟨Nat.le_of_ble_eq_true rfl, Nat.le_of_ble_eq_true rfl⟩) hS (fun H locs (hW : GW z ad (GC z ad N X u15) H) hS => ?_)
        refine lv_iadd hx hb dX7_tone_36 ?_
        refine lv_topi (fun v16 ev16 => ?_)
        replace h := nm_at ev16 h
        refine lv_istore_n (lv' := [(1, .int v16), (4, .ref (ad 12 q09)), (3, .int y3), (2, .int y2), (0, .ref (ad 0 0))]) hx hb dX7_tone_37 rfl hl (by decide) rfl (fun ls hl => ?_)
        obtain ⟨v17, ev17, h⟩ := nm_s h
        refine lv_iinc (v := v17) (lv' := [(2, .int v17), (1, .int v16), (4, .ref (ad 12 q09)), (3, .int y3), (0, .ref (ad 0 0))]) hx hb dX7_tone_38 hl (k := 3) rfl (by rw [ev17]; rfl) (by decide) rfl (fun ls hl => ?_)
        obtain ⟨v18, ev18, h⟩ := nm_s h
        refine lv_iinc (v := v18) (lv' := [(3, .int v18), (2, .int v17), (1, .int v16), (4, .ref (ad 12 q09)), (0, .ref (ad 0 0))]) hx hb dX7_tone_41 hl (k := 3) rfl (by rw [ev18]; rfl) (by decide) rfl (fun ls hl => ?_)
        refine lv_goto (tgt := 6) hx hb dX7_tone_44 (by decide) ?_
        exact hih6 _ _ _ _ _ _ _ (lv_sub hl [0, 1, 2, 4] rfl) hW hS h
  have hL6 : ∀ (n : Nat), ∀ (y3 : Int32) (y2 : Int32) (y1 : Int32) (u : St) (H : Heap) (locs : List Loc) (ls : Array Slot), lv_has ls 5 [(3, .int y3), (2, .int y2), (1, .int y1), (0, .ref (ad 0 0))] → GW z ad (GC z ad N X u) H → va_S (zA z) s.heap H locs → f_X7_tone_L6 N n y3 y2 y1 u = some (r9, u9) → WW H locs (F0 m 6 ls []) := by
    intro n
    induction n with
    | zero => intro y3 y2 y1 u H locs ls hl hW hS h; exact absurd h (by intro q; cases q)
    | succ n ihn => intro y3 y2 y1 u H locs ls hl hW hS h; exact hL6b (f_X7_tone_L6 N n) ihn y3 y2 y1 u H locs ls hl hW hS h
  unfold f_X7_tone at h
  refine lv_iconst (v := 0) hx hb dX7_tone_0 (by decide) ?_
  refine lv_istore_n (lv' := [(1, .int 0), (0, .ref (ad 0 0))]) hx hb dX7_tone_1 rfl hl (by decide) rfl (fun ls hl => ?_)
  refine lv_iconst (v := 0) hx hb dX7_tone_2 (by decide) ?_
  refine lv_istore_n (lv' := [(2, .int 0), (1, .int 0), (0, .ref (ad 0 0))]) hx hb dX7_tone_3 rfl hl (by decide) rfl (fun ls hl => ?_)
  refine lv_iconst (v := 0) hx hb dX7_tone_4 (by decide) ?_
  refine lv_istore_n (lv' := [(3, .int 0), (2, .int 0), (1, .int 0), (0, .ref (ad 0 0))]) hx hb dX7_tone_5 rfl hl (by decide) rfl (fun ls hl => ?_)
  exact hL6 1000000 _ _ _ _ _ _ _ (lv_sub hl [0, 1, 2, 3] rfl) hW hS h
/-- Panyard.soundAt -/
def f_X7_soundAt (N : Nt) (u : St) (k1 : Nat) (x2 : Int32) : Option (Int32 × St) :=
  gd (inb x2 10) <|
  nm (u 42 k1 (ix x2)) fun v2 =>
  gd (inb v2 8) <|
  gd ((ix v2) < N 14) <|
  nm (mmax 0 ((u 70 0 (ix v2)) - ((x2 * (u 21 (ix v2) 0)) / 4))) fun v5 =>
  some (v5, u)
set_option maxRecDepth 100000 in
set_option maxHeartbeats 4000000 in
theorem c_X7_soundAt (l : Launch) (z : Zt) (ad : Ad) (N : Nt) (X : Gt) (u : St) (k1 : Nat) (x2 : Int32) (hk1 : k1 < 2) {r9 : Int32} {u9 : St} (h : f_X7_soundAt N u k1 x2 = some (r9, u9)) : MC l z yX7_soundAt cX7_soundAt 4 (some .int) { frames := 1, cells := 0, slots := 0, locals := 21 } 0 0 [.ref (ad 0 0), .ref (ad 8 k1), .int x2] ad (GC z ad N X u) (QI z ad (GC z ad N X u9) r9) := by
  refine Met.ofW (cc := cX7_soundAt) (maxL := 4) (ret := (some .int)) (by decide) rfl ?_
  intro p e s m args below meth c s₁ B hml hv
  obtain ⟨rfl, hSW, hW⟩ := hv
  have hx := B.exec; have hb := B.bytes; have hr := B.returns; have hlocks := B.notSynchronized
  have hown : s.vm.findClass RX7 = some m.cls := findClass_of_methodNamed B.named
  obtain ⟨hT, hK, hST, hB0⟩ := id hSW
  have hS : va_S (zA z) s.heap s.heap [] := va_S.rf
  have hl := lv_entry ([.ref (ad 0 0), .ref (ad 8 k1), .int x2]) (n := 4) (Nat.le_of_ble_eq_true rfl)
  rw [lg_entry_eq]
  generalize (lg_sl ([.ref (ad 0 0), .ref (ad 8 k1), .int x2]) ++ List.replicate (4 - (lg_sl ([.ref (ad 0 0), .ref (ad 8 k1), .int x2])).length) Slot.unset).toArray = ls at hl ⊢
  have hl : lv_has ls 4 [(0, .ref (ad 0 0)), (1, .ref (ad 8 k1)), (2, .int x2)] := hl
  unfold f_X7_soundAt at h
  refine lv_aload_n hx hb dX7_soundAt_0 rfl (lv_at hl 1 rfl) ?_
  refine nb_get hx hb hT hK hown hW fl_X7_171 (kr_8 hk1) (v := .ref (ad 9 k1)) rfl dX7_soundAt_1 ?_
  refine lv_iload_n hx hb dX7_soundAt_4 rfl (lv_at hl 2 rfl) ?_
  obtain ⟨g1, h⟩ := gd_s h
  refine nb_iald hx hb hK hW 0 (kr_9 hk1) rfl (inb_in g1) dX7_soundAt_5 ?_
  refine lv_topi (fun v2 ev2 => ?_)
  replace h := nm_at ev2 h
  refine lv_istore_n (lv' := [(3, .int v2), (0, .ref (ad 0 0)), (1, .ref (ad 8 k1)), (2, .int x2)]) hx hb dX7_soundAt_6 rfl hl (by decide) rfl (fun ls hl => ?_)
  refine lv_iconst (v := 0) hx hb dX7_soundAt_7 (by decide) ?_
  refine lv_aload_n hx hb dX7_soundAt_8 rfl (lv_at hl 1 rfl) ?_
  refine nb_get hx hb hT hK hown hW fl_X7_72 kr_0 (v := .ref (ad 4 0)) rfl dX7_soundAt_9 ?_
  refine lv_iload_n hx hb dX7_soundAt_12 rfl (lv_at hl 0 rfl) ?_
  obtain ⟨g3, h⟩ := gd_s h
  refine nb_iald hx hb hK hW 0 kr_4 rfl (inb_in g3) dX7_soundAt_13 ?_
  refine lv_iload_n hx hb dX7_soundAt_14 rfl (lv_at hl 3 rfl) ?_
  refine lv_aload_n hx hb dX7_soundAt_15 rfl (lv_at hl 1 rfl) ?_
  refine nb_get hx hb hT hK hown hW fl_X7_17 kr_0 (v := .ref (ad 2 0)) rfl dX7_soundAt_16 ?_
  refine lv_iload_n hx hb dX7_soundAt_19 rfl (lv_at hl 0 rfl) ?_
  obtain ⟨g4, h⟩ := gd_s h
  refine nb_aald hx hb hK hW 3 kr_2 rfl rfl (inb_in g3) (a := ad 14 (ix v2)) (qrow_at g4) dX7_soundAt_20 ?_
  refine nb_get hx hb hT hK hown hW fl_X7_326 (kr_14 g4) (v := .int (u 21 (ix v2) 0)) rfl dX7_soundAt_21 ?_
  refine lv_imul hx hb dX7_soundAt_24 ?_
  refine lv_iconst (v := 4) hx hb dX7_soundAt_25 (by decide) ?_
  refine lv_idiv hx hb dX7_soundAt_26 (by decide) ?_
  refine lv_isub hx hb dX7_soundAt_27 ?_
  refine nb_mmax hx hb hml hl.1 hown hT lm_X7_397 mf_Math_max ⟨Nat.le_of_ble_eq_true rfl, Nat.le_of_ble_eq_true rfl⟩ ⟨Nat.le_of_ble_eq_true rfl, Nat.le_of_ble_eq_true rfl⟩ dX7_soundAt_28 ?_
  refine lv_topi (fun v5 ev5 => ?_)
  replace h := nm_at ev5 h
  exact ne_iret hx hb hr rfl hlocks hW hS dX7_soundAt_31 h
/-- Panyard.meanSound -/
def f_X7_meanSound_L4b (N : Nt) (k1 : Nat) (ih4 : Int32 → Int32 → St → Option (Int32 × St)) (y3 : Int32) (y2 : Int32) (u : St) : Option (Int32 × St) :=
  if (u 43 k1 0) ≤ y3 then
    if (u 43 k1 0) = 0 then
      some (0, u)
    else
      gd (¬ (u 43 k1 0) = 0) <|
      some ((y2 / (u 43 k1 0)), u)
  else
    sb (f_X7_soundAt N u k1 y3) fun r4 u6 =>
    nm (y2 + r4) fun v7 =>
    nm (y3 + 1) fun v8 =>
    ih4 v8 v7 u6
def f_X7_meanSound_L4 (N : Nt) (k1 : Nat) : Nat → Int32 → Int32 → St → Option (Int32 × St) := lp (fun _ _ _ => none) (f_X7_meanSound_L4b N k1)
def f_X7_meanSound (N : Nt) (u : St) (k1 : Nat) : Option (Int32 × St) :=
  f_X7_meanSound_L4 N k1 1000000 0 0 u
set_option maxRecDepth 100000 in
set_option maxHeartbeats 4000000 in
theorem c_X7_meanSound (l : Launch) (z : Zt) (ad : Ad) (N : Nt) (X : Gt) (u : St) (k1 : Nat) (hk1 : k1 < 2) {r9 : Int32} {u9 : St} (h : f_X7_meanSound N u k1 = some (r9, u9)) : MC l z yX7_meanSound cX7_meanSound 4 (some .int) { frames := 2, cells := 0, slots := 0, locals := 44 } 0 0 [.ref (ad 0 0), .ref (ad 8 k1)] ad (GC z ad N X u) (QI z ad (GC z ad N X u9) r9) := by
  refine Met.ofW (cc := cX7_meanSound) (maxL := 4) (ret := (some .int)) (by decide) rfl ?_
  intro p e s m args below meth c s₁ B hml hv
  obtain ⟨rfl, hSW, hW⟩ := hv
  have hx := B.exec; have hb := B.bytes; have hr := B.returns; have hlocks := B.notSynchronized
  have hown : s.vm.findClass RX7 = some m.cls := findClass_of_methodNamed B.named
  obtain ⟨hT, hK, hST, hB0⟩ := id hSW
  have hS : va_S (zA z) s.heap s.heap [] := va_S.rf
  have hl := lv_entry ([.ref (ad 0 0), .ref (ad 8 k1)]) (n := 4) (Nat.le_of_ble_eq_true rfl)
  rw [lg_entry_eq]
  generalize (lg_sl ([.ref (ad 0 0), .ref (ad 8 k1)]) ++ List.replicate (4 - (lg_sl ([.ref (ad 0 0), .ref (ad 8 k1)])).length) Slot.unset).toArray = ls at hl ⊢
  have hl : lv_has ls 4 [(0, .ref (ad 0 0)), (1, .ref (ad 8 k1))] := hl
  let WW : Heap → List Loc → JFrame → Prop := fun H locs g => W p l e (headSpec [Cond.code yX7_meanSound cX7_meanSound 4 (some .int)] { frames := 2, cells := 0, slots := 0, locals := 44 }).room s m [.ref (ad 0 0), .ref (ad 8 k1)].toArray below meth c H locs 0 0 (MQ below (QI z ad (GC z ad N X u9) r9) [.ref (ad 0 0), .ref (ad 8 k1)].toArray s 0 0 (zA z)) g
  have hL4b : ∀ (ih4 : Int32 → Int32 → St → Option (Int32 × St)) (hih4 : ∀ (y3 : Int32) (y2 : Int32) (u : St) (H : Heap) (locs : List Loc) (ls : Array Slot), lv_has ls 4 [(3, .int y3), (2, .int y2), (0, .ref (ad 0 0)), (1, .ref (ad 8 k1))] → GW z ad (GC z ad N X u) H → va_S (zA z) s.heap H locs → ih4 y3 y2 u = some (r9, u9) → WW H locs (F0 m 4 ls [])), ∀ (y3 : Int32) (y2 : Int32) (u : St) (H : Heap) (locs : List Loc) (ls : Array Slot), lv_has ls 4 [(3, .int y3), (2, .int y2), (0, .ref (ad 0 0)), (1, .ref (ad 8 k1))] → GW z ad (GC z ad N X u) H → va_S (zA z) s.heap H locs → f_X7_meanSound_L4b N k1 ih4 y3 y2 u = some (r9, u9) → WW H locs (F0 m 4 ls []) := by
    intro ih4 hih4 y3 y2 u H locs ls hl hW hS h
    change W p l e _ s m _ below meth c H locs 0 0 _ (F0 m 4 ls [])
    unfold f_X7_meanSound_L4b at h
    refine lv_iload_n hx hb dX7_meanSound_4 rfl (lv_at hl 0 rfl) ?_
    refine lv_aload_n hx hb dX7_meanSound_5 rfl (lv_at hl 3 rfl) ?_
    refine nb_get hx hb hT hK hown hW fl_X7_160 (kr_8 hk1) (v := .int (u 43 k1 0)) rfl dX7_meanSound_6 ?_
    refine lv_icmp_ge (tgt := 27) hx hb dX7_meanSound_9 (by decide) (fun c1 => ?_) (fun c1 => ?_)
    · replace h := ite_t h c1
      refine lv_aload_n hx hb dX7_meanSound_27 rfl (lv_at hl 3 rfl) ?_
      refine nb_get hx hb hT hK hown hW fl_X7_160 (kr_8 hk1) (v := .int (u 43 k1 0)) rfl dX7_meanSound_28 ?_
      refine lv_if_ne (tgt := 38) hx hb dX7_meanSound_31 (by decide) (fun c2 => ?_) (fun c2 => ?_)
      · replace h := ite_f h c2
        refine lv_iload_n hx hb dX7_meanSound_38 rfl (lv_at hl 1 rfl) ?_
        refine lv_aload_n hx hb dX7_meanSound_39 rfl (lv_at hl 3 rfl) ?_
        refine nb_get hx hb hT hK hown hW fl_X7_160 (kr_8 hk1) (v := .int (u 43 k1 0)) rfl dX7_meanSound_40 ?_
        obtain ⟨g3, h⟩ := gd_s h
        refine lv_idiv hx hb dX7_meanSound_43 g3 ?_
        exact ne_iret hx hb hr rfl hlocks hW hS dX7_meanSound_44 h
      · replace h := ite_t h c2
        refine lv_iconst (v := 0) hx hb dX7_meanSound_34 (by decide) ?_
        refine lv_goto (tgt := 44) hx hb dX7_meanSound_35 (by decide) ?_
        exact ne_iret hx hb hr rfl hlocks hW hS dX7_meanSound_44 h
    · replace h := ite_f h c1
      refine lv_iload_n hx hb dX7_meanSound_12 rfl (lv_at hl 1 rfl) ?_
      refine lv_aload_n hx hb dX7_meanSound_13 rfl (lv_at hl 2 rfl) ?_
      refine lv_aload_n hx hb dX7_meanSound_14 rfl (lv_at hl 3 rfl) ?_
      refine lv_iload_n hx hb dX7_meanSound_15 rfl (lv_at hl 0 rfl) ?_
      obtain ⟨r4, u6, h5, h⟩ := sb_s h
      refine nb_ci (nb_runV (As := [.ref (ad 8 k1), .int y3]) (rest := [.int y2]) hx hb hml hown hSW hS hW (c_X7_soundAt l z ad N X u k1 y3 hk1 h5) mf_X7_soundAt lk_X7_349 kr_0 rfl rfl ⟨rfl, rfl⟩ ⟨Nat.le_of_ble_eq_true rfl, Nat.le_of_ble_eq_true rfl⟩ hl.1 (Nat.le_of_ble_eq_true rfl) dX7_meanSound_16 ⟨Nat.le_of_ble_eq_true rfl, Nat.le_of_ble_eq_true rfl⟩) hS (fun H locs (hW : GW z ad (GC z ad N X u6) H) hS => ?_)
      refine lv_iadd hx hb dX7_meanSound_19 ?_
      refine lv_topi (fun v7 ev7 => ?_)
      replace h := nm_at ev7 h
      refine lv_istore_n (lv' := [(2, .int v7), (3, .int y3), (0, .ref (ad 0 0)), (1, .ref (ad 8 k1))]) hx hb dX7_meanSound_20 rfl hl (by decide) rfl (fun ls hl => ?_)
      obtain ⟨v8, ev8, h⟩ := nm_s h
      refine lv_iinc (v := v8) (lv' := [(3, .int v8), (2, .int v7), (0, .ref (ad 0 0)), (1, .ref (ad 8 k1))]) hx hb dX7_meanSound_21 hl (k := 1) rfl (by rw [ev8]; rfl) (by decide) rfl (fun ls hl => ?_)
      refine lv_goto (tgt := 4) hx hb dX7_meanSound_24 (by decide) ?_
      exact hih4 _ _ _ _ _ _ (lv_sub hl [0, 1, 2, 3] rfl) hW hS h
  have hL4 : ∀ (n : Nat), ∀ (y3 : Int32) (y2 : Int32) (u : St) (H : Heap) (locs : List Loc) (ls : Array Slot), lv_has ls 4 [(3, .int y3), (2, .int y2), (0, .ref (ad 0 0)), (1, .ref (ad 8 k1))] → GW z ad (GC z ad N X u) H → va_S (zA z) s.heap H locs → f_X7_meanSound_L4 N k1 n y3 y2 u = some (r9, u9) → WW H locs (F0 m 4 ls []) := by
    intro n
    induction n with
    | zero => intro y3 y2 u H locs ls hl hW hS h; exact absurd h (by intro q; cases q)
    | succ n ihn => intro y3 y2 u H locs ls hl hW hS h; exact hL4b (f_X7_meanSound_L4 N k1 n) ihn y3 y2 u H locs ls hl hW hS h
  unfold f_X7_meanSound at h
  refine lv_iconst (v := 0) hx hb dX7_meanSound_0 (by decide) ?_
  refine lv_istore_n (lv' := [(2, .int 0), (0, .ref (ad 0 0)), (1, .ref (ad 8 k1))]) hx hb dX7_meanSound_1 rfl hl (by decide) rfl (fun ls hl => ?_)
  refine lv_iconst (v := 0) hx hb dX7_meanSound_2 (by decide) ?_
  refine lv_istore_n (lv' := [(3, .int 0), (2, .int 0), (0, .ref (ad 0 0)), (1, .ref (ad 8 k1))]) hx hb dX7_meanSound_3 rfl hl (by decide) rfl (fun ls hl => ?_)
  exact hL4 1000000 _ _ _ _ _ _ (lv_sub hl [0, 1, 2, 3] rfl) hW hS h
/-- Panyard$Arrangement.placesOf -/
def f_X0_placesOf_L4b (N : Nt) (k0 : Nat) (ih4 : Int32 → Int32 → Int32 → St → Option (Int32 × St)) (y3 : Int32) (y2 : Int32) (y1 : Int32) (u : St) : Option (Int32 × St) :=
  if (u 43 k0 0) ≤ y3 then
    some (y2, u)
  else
    gd (inb y3 10) <|
    if (u 42 k0 (ix y3)) = y1 then
      nm (y2 + 1) fun v5 =>
      nm (y3 + 1) fun v6 =>
      ih4 v6 v5 y1 u
    else
      nm (y3 + 1) fun v4 =>
      ih4 v4 y2 y1 u
def f_X0_placesOf_L4 (N : Nt) (k0 : Nat) : Nat → Int32 → Int32 → Int32 → St → Option (Int32 × St) := lp (fun _ _ _ _ => none) (f_X0_placesOf_L4b N k0)
def f_X0_placesOf (N : Nt) (u : St) (k0 : Nat) (x1 : Int32) : Option (Int32 × St) :=
  f_X0_placesOf_L4 N k0 1000000 0 0 x1 u
set_option maxRecDepth 100000 in
set_option maxHeartbeats 4000000 in
theorem c_X0_placesOf (l : Launch) (z : Zt) (ad : Ad) (N : Nt) (X : Gt) (u : St) (k0 : Nat) (x1 : Int32) (hk0 : k0 < 2) {r9 : Int32} {u9 : St} (h : f_X0_placesOf N u k0 x1 = some (r9, u9)) : MC l z yX0_placesOf cX0_placesOf 4 (some .int) { frames := 0, cells := 0, slots := 0, locals := 0 } 0 0 [.ref (ad 8 k0), .int x1] ad (GC z ad N X u) (QI z ad (GC z ad N X u9) r9) := by
  refine Met.ofW (cc := cX0_placesOf) (maxL := 4) (ret := (some .int)) (by decide) rfl ?_
  intro p e s m args below meth c s₁ B hml hv
  obtain ⟨rfl, hSW, hW⟩ := hv
  have hx := B.exec; have hb := B.bytes; have hr := B.returns; have hlocks := B.notSynchronized
  have hown : s.vm.findClass RX0 = some m.cls := findClass_of_methodNamed B.named
  obtain ⟨hT, hK, hST, hB0⟩ := id hSW
  have hS : va_S (zA z) s.heap s.heap [] := va_S.rf
  have hl := lv_entry ([.ref (ad 8 k0), .int x1]) (n := 4) (Nat.le_of_ble_eq_true rfl)
  rw [lg_entry_eq]
  generalize (lg_sl ([.ref (ad 8 k0), .int x1]) ++ List.replicate (4 - (lg_sl ([.ref (ad 8 k0), .int x1])).length) Slot.unset).toArray = ls at hl ⊢
  have hl : lv_has ls 4 [(0, .ref (ad 8 k0)), (1, .int x1)] := hl
  let WW : Heap → List Loc → JFrame → Prop := fun H locs g => W p l e (headSpec [Cond.code yX0_placesOf cX0_placesOf 4 (some .int)] { frames := 0, cells := 0, slots := 0, locals := 0 }).room s m [.ref (ad 8 k0), .int x1].toArray below meth c H locs 0 0 (MQ below (QI z ad (GC z ad N X u9) r9) [.ref (ad 8 k0), .int x1].toArray s 0 0 (zA z)) g
  have hL4b : ∀ (ih4 : Int32 → Int32 → Int32 → St → Option (Int32 × St)) (hih4 : ∀ (y3 : Int32) (y2 : Int32) (y1 : Int32) (u : St) (H : Heap) (locs : List Loc) (ls : Array Slot), lv_has ls 4 [(3, .int y3), (2, .int y2), (0, .ref (ad 8 k0)), (1, .int y1)] → GW z ad (GC z ad N X u) H → va_S (zA z) s.heap H locs → ih4 y3 y2 y1 u = some (r9, u9) → WW H locs (F0 m 4 ls [])), ∀ (y3 : Int32) (y2 : Int32) (y1 : Int32) (u : St) (H : Heap) (locs : List Loc) (ls : Array Slot), lv_has ls 4 [(3, .int y3), (2, .int y2), (0, .ref (ad 8 k0)), (1, .int y1)] → GW z ad (GC z ad N X u) H → va_S (zA z) s.heap H locs → f_X0_placesOf_L4b N k0 ih4 y3 y2 y1 u = some (r9, u9) → WW H locs (F0 m 4 ls []) := by
    intro ih4 hih4 y3 y2 y1 u H locs ls hl hW hS h
    change W p l e _ s m _ below meth c H locs 0 0 _ (F0 m 4 ls [])
    unfold f_X0_placesOf_L4b at h
    refine lv_iload_n hx hb dX0_placesOf_4 rfl (lv_at hl 0 rfl) ?_
    refine lv_aload_n hx hb dX0_placesOf_5 rfl (lv_at hl 2 rfl) ?_
    refine nb_get hx hb hT hK hown hW fl_X0_21 (kr_8 hk0) (v := .int (u 43 k0 0)) rfl dX0_placesOf_6 ?_
    refine lv_icmp_ge (tgt := 31) hx hb dX0_placesOf_9 (by decide) (fun c1 => ?_) (fun c1 => ?_)
    · replace h := ite_t h c1
      refine lv_iload_n hx hb dX0_placesOf_31 rfl (lv_at hl 1 rfl) ?_
      exact ne_iret hx hb hr rfl hlocks hW hS dX0_placesOf_32 h
    · replace h := ite_f h c1
      refine lv_aload_n hx hb dX0_placesOf_12 rfl (lv_at hl 2 rfl) ?_
      refine nb_get hx hb hT hK hown hW fl_X0_9 (kr_8 hk0) (v := .ref (ad 9 k0)) rfl dX0_placesOf_13 ?_
      refine lv_iload_n hx hb dX0_placesOf_16 rfl (lv_at hl 0 rfl) ?_
      obtain ⟨g2, h⟩ := gd_s h
      refine nb_iald hx hb hK hW 0 (kr_9 hk0) rfl (inb_in g2) dX0_placesOf_17 ?_
      refine lv_iload_n hx hb dX0_placesOf_18 rfl (lv_at hl 3 rfl) ?_
      refine lv_icmp_ne (tgt := 25) hx hb dX0_placesOf_19 (by decide) (fun c3 => ?_) (fun c3 => ?_)
      · replace h := ite_f h c3
        obtain ⟨v4, ev4, h⟩ := nm_s h
        refine lv_iinc (v := v4) (lv' := [(3, .int v4), (2, .int y2), (0, .ref (ad 8 k0)), (1, .int y1)]) hx hb dX0_placesOf_25 hl (k := 0) rfl (by rw [ev4]; rfl) (by decide) rfl (fun ls hl => ?_)
        refine lv_goto (tgt := 4) hx hb dX0_placesOf_28 (by decide) ?_
        exact hih4 _ _ _ _ _ _ _ (lv_sub hl [0, 1, 2, 3] rfl) hW hS h
      · replace h := ite_t h c3
        obtain ⟨v5, ev5, h⟩ := nm_s h
        refine lv_iinc (v := v5) (lv' := [(2, .int v5), (3, .int y3), (0, .ref (ad 8 k0)), (1, .int y1)]) hx hb dX0_placesOf_22 hl (k := 1) rfl (by rw [ev5]; rfl) (by decide) rfl (fun ls hl => ?_)
        obtain ⟨v6, ev6, h⟩ := nm_s h
        refine lv_iinc (v := v6) (lv' := [(3, .int v6), (2, .int v5), (0, .ref (ad 8 k0)), (1, .int y1)]) hx hb dX0_placesOf_25 hl (k := 1) rfl (by rw [ev6]; rfl) (by decide) rfl (fun ls hl => ?_)
        refine lv_goto (tgt := 4) hx hb dX0_placesOf_28 (by decide) ?_
        exact hih4 _ _ _ _ _ _ _ (lv_sub hl [0, 1, 2, 3] rfl) hW hS h
  have hL4 : ∀ (n : Nat), ∀ (y3 : Int32) (y2 : Int32) (y1 : Int32) (u : St) (H : Heap) (locs : List Loc) (ls : Array Slot), lv_has ls 4 [(3, .int y3), (2, .int y2), (0, .ref (ad 8 k0)), (1, .int y1)] → GW z ad (GC z ad N X u) H → va_S (zA z) s.heap H locs → f_X0_placesOf_L4 N k0 n y3 y2 y1 u = some (r9, u9) → WW H locs (F0 m 4 ls []) := by
    intro n
    induction n with
    | zero => intro y3 y2 y1 u H locs ls hl hW hS h; exact absurd h (by intro q; cases q)
    | succ n ihn => intro y3 y2 y1 u H locs ls hl hW hS h; exact hL4b (f_X0_placesOf_L4 N k0 n) ihn y3 y2 y1 u H locs ls hl hW hS h
  unfold f_X0_placesOf at h
  refine lv_iconst (v := 0) hx hb dX0_placesOf_0 (by decide) ?_
  refine lv_istore_n (lv' := [(2, .int 0), (0, .ref (ad 8 k0)), (1, .int x1)]) hx hb dX0_placesOf_1 rfl hl (by decide) rfl (fun ls hl => ?_)
  refine lv_iconst (v := 0) hx hb dX0_placesOf_2 (by decide) ?_
  refine lv_istore_n (lv' := [(3, .int 0), (2, .int 0), (0, .ref (ad 8 k0)), (1, .int x1)]) hx hb dX0_placesOf_3 rfl hl (by decide) rfl (fun ls hl => ?_)
  exact hL4 1000000 _ _ _ _ _ _ _ (lv_sub hl [0, 1, 2, 3] rfl) hW hS h
/-- Panyard$Arrangement.repeats -/
def f_X0_repeats_L4b (N : Nt) (k0 : Nat) (ih4 : Int32 → Int32 → St → Option (Int32 × St)) (y2 : Int32) (y1 : Int32) (u : St) : Option (Int32 × St) :=
  if (u 43 k0 0) ≤ y2 then
    some (y1, u)
  else
    gd (inb y2 10) <|
    gd (inb (y2 - 1) 10) <|
    if (u 42 k0 (ix y2)) = (u 42 k0 (ix (y2 - 1))) then
      nm (y1 + 1) fun v6 =>
      nm (y2 + 1) fun v7 =>
      ih4 v7 v6 u
    else
      nm (y2 + 1) fun v5 =>
      ih4 v5 y1 u
def f_X0_repeats_L4 (N : Nt) (k0 : Nat) : Nat → Int32 → Int32 → St → Option (Int32 × St) := lp (fun _ _ _ => none) (f_X0_repeats_L4b N k0)
def f_X0_repeats (N : Nt) (u : St) (k0 : Nat) : Option (Int32 × St) :=
  f_X0_repeats_L4 N k0 1000000 1 0 u
set_option maxRecDepth 100000 in
set_option maxHeartbeats 4000000 in
theorem c_X0_repeats (l : Launch) (z : Zt) (ad : Ad) (N : Nt) (X : Gt) (u : St) (k0 : Nat) (hk0 : k0 < 2) {r9 : Int32} {u9 : St} (h : f_X0_repeats N u k0 = some (r9, u9)) : MC l z yX0_repeats cX0_repeats 3 (some .int) { frames := 0, cells := 0, slots := 0, locals := 0 } 0 0 [.ref (ad 8 k0)] ad (GC z ad N X u) (QI z ad (GC z ad N X u9) r9) := by
  refine Met.ofW (cc := cX0_repeats) (maxL := 3) (ret := (some .int)) (by decide) rfl ?_
  intro p e s m args below meth c s₁ B hml hv
  obtain ⟨rfl, hSW, hW⟩ := hv
  have hx := B.exec; have hb := B.bytes; have hr := B.returns; have hlocks := B.notSynchronized
  have hown : s.vm.findClass RX0 = some m.cls := findClass_of_methodNamed B.named
  obtain ⟨hT, hK, hST, hB0⟩ := id hSW
  have hS : va_S (zA z) s.heap s.heap [] := va_S.rf
  have hl := lv_entry ([.ref (ad 8 k0)]) (n := 3) (Nat.le_of_ble_eq_true rfl)
  rw [lg_entry_eq]
  generalize (lg_sl ([.ref (ad 8 k0)]) ++ List.replicate (3 - (lg_sl ([.ref (ad 8 k0)])).length) Slot.unset).toArray = ls at hl ⊢
  have hl : lv_has ls 3 [(0, .ref (ad 8 k0))] := hl
  let WW : Heap → List Loc → JFrame → Prop := fun H locs g => W p l e (headSpec [Cond.code yX0_repeats cX0_repeats 3 (some .int)] { frames := 0, cells := 0, slots := 0, locals := 0 }).room s m [.ref (ad 8 k0)].toArray below meth c H locs 0 0 (MQ below (QI z ad (GC z ad N X u9) r9) [.ref (ad 8 k0)].toArray s 0 0 (zA z)) g
  have hL4b : ∀ (ih4 : Int32 → Int32 → St → Option (Int32 × St)) (hih4 : ∀ (y2 : Int32) (y1 : Int32) (u : St) (H : Heap) (locs : List Loc) (ls : Array Slot), lv_has ls 3 [(2, .int y2), (1, .int y1), (0, .ref (ad 8 k0))] → GW z ad (GC z ad N X u) H → va_S (zA z) s.heap H locs → ih4 y2 y1 u = some (r9, u9) → WW H locs (F0 m 4 ls [])), ∀ (y2 : Int32) (y1 : Int32) (u : St) (H : Heap) (locs : List Loc) (ls : Array Slot), lv_has ls 3 [(2, .int y2), (1, .int y1), (0, .ref (ad 8 k0))] → GW z ad (GC z ad N X u) H → va_S (zA z) s.heap H locs → f_X0_repeats_L4b N k0 ih4 y2 y1 u = some (r9, u9) → WW H locs (F0 m 4 ls []) := by
    intro ih4 hih4 y2 y1 u H locs ls hl hW hS h
    change W p l e _ s m _ below meth c H locs 0 0 _ (F0 m 4 ls [])
    unfold f_X0_repeats_L4b at h
    refine lv_iload_n hx hb dX0_repeats_4 rfl (lv_at hl 0 rfl) ?_
    refine lv_aload_n hx hb dX0_repeats_5 rfl (lv_at hl 2 rfl) ?_
    refine nb_get hx hb hT hK hown hW fl_X0_21 (kr_8 hk0) (v := .int (u 43 k0 0)) rfl dX0_repeats_6 ?_
    refine lv_icmp_ge (tgt := 38) hx hb dX0_repeats_9 (by decide) (fun c1 => ?_) (fun c1 => ?_)
    · replace h := ite_t h c1
      refine lv_iload_n hx hb dX0_repeats_38 rfl (lv_at hl 1 rfl) ?_
      exact ne_iret hx hb hr rfl hlocks hW hS dX0_repeats_39 h
    · replace h := ite_f h c1
      refine lv_aload_n hx hb dX0_repeats_12 rfl (lv_at hl 2 rfl) ?_
      refine nb_get hx hb hT hK hown hW fl_X0_9 (kr_8 hk0) (v := .ref (ad 9 k0)) rfl dX0_repeats_13 ?_
      refine lv_iload_n hx hb dX0_repeats_16 rfl (lv_at hl 0 rfl) ?_
      obtain ⟨g2, h⟩ := gd_s h
      refine nb_iald hx hb hK hW 0 (kr_9 hk0) rfl (inb_in g2) dX0_repeats_17 ?_
      refine lv_aload_n hx hb dX0_repeats_18 rfl (lv_at hl 2 rfl) ?_
      refine nb_get hx hb hT hK hown hW fl_X0_9 (kr_8 hk0) (v := .ref (ad 9 k0)) rfl dX0_repeats_19 ?_
      refine lv_iload_n hx hb dX0_repeats_22 rfl (lv_at hl 0 rfl) ?_
      refine lv_iconst (v := 1) hx hb dX0_repeats_23 (by decide) ?_
      refine lv_isub hx hb dX0_repeats_24 ?_
      obtain ⟨g3, h⟩ := gd_s h
      refine nb_iald hx hb hK hW 0 (kr_9 hk0) rfl (inb_in g3) dX0_repeats_25 ?_
      refine lv_icmp_ne (tgt := 32) hx hb dX0_repeats_26 (by decide) (fun c4 => ?_) (fun c4 => ?_)
      · replace h := ite_f h c4
        obtain ⟨v5, ev5, h⟩ := nm_s h
        refine lv_iinc (v := v5) (lv' := [(2, .int v5), (1, .int y1), (0, .ref (ad 8 k0))]) hx hb dX0_repeats_32 hl (k := 0) rfl (by rw [ev5]; rfl) (by decide) rfl (fun ls hl => ?_)
        refine lv_goto (tgt := 4) hx hb dX0_repeats_35 (by decide) ?_
        exact hih4 _ _ _ _ _ _ (lv_sub hl [0, 1, 2] rfl) hW hS h
      · replace h := ite_t h c4
        obtain ⟨v6, ev6, h⟩ := nm_s h
        refine lv_iinc (v := v6) (lv' := [(1, .int v6), (2, .int y2), (0, .ref (ad 8 k0))]) hx hb dX0_repeats_29 hl (k := 1) rfl (by rw [ev6]; rfl) (by decide) rfl (fun ls hl => ?_)
        obtain ⟨v7, ev7, h⟩ := nm_s h
        refine lv_iinc (v := v7) (lv' := [(2, .int v7), (1, .int v6), (0, .ref (ad 8 k0))]) hx hb dX0_repeats_32 hl (k := 1) rfl (by rw [ev7]; rfl) (by decide) rfl (fun ls hl => ?_)
        refine lv_goto (tgt := 4) hx hb dX0_repeats_35 (by decide) ?_
        exact hih4 _ _ _ _ _ _ (lv_sub hl [0, 1, 2] rfl) hW hS h
  have hL4 : ∀ (n : Nat), ∀ (y2 : Int32) (y1 : Int32) (u : St) (H : Heap) (locs : List Loc) (ls : Array Slot), lv_has ls 3 [(2, .int y2), (1, .int y1), (0, .ref (ad 8 k0))] → GW z ad (GC z ad N X u) H → va_S (zA z) s.heap H locs → f_X0_repeats_L4 N k0 n y2 y1 u = some (r9, u9) → WW H locs (F0 m 4 ls []) := by
    intro n
    induction n with
    | zero => intro y2 y1 u H locs ls hl hW hS h; exact absurd h (by intro q; cases q)
    | succ n ihn => intro y2 y1 u H locs ls hl hW hS h; exact hL4b (f_X0_repeats_L4 N k0 n) ihn y2 y1 u H locs ls hl hW hS h
  unfold f_X0_repeats at h
  refine lv_iconst (v := 0) hx hb dX0_repeats_0 (by decide) ?_
  refine lv_istore_n (lv' := [(1, .int 0), (0, .ref (ad 8 k0))]) hx hb dX0_repeats_1 rfl hl (by decide) rfl (fun ls hl => ?_)
  refine lv_iconst (v := 1) hx hb dX0_repeats_2 (by decide) ?_
  refine lv_istore_n (lv' := [(2, .int 1), (1, .int 0), (0, .ref (ad 8 k0))]) hx hb dX0_repeats_3 rfl hl (by decide) rfl (fun ls hl => ?_)
  exact hL4 1000000 _ _ _ _ _ _ (lv_sub hl [0, 1, 2] rfl) hW hS h
/-- Panyard.variety -/
def f_X7_variety_L4b (N : Nt) (k1 : Nat) (ih4 : Int32 → Int32 → St → Option (Int32 × St)) (y3 : Int32) (y2 : Int32) (u : St) : Option (Int32 × St) :=
  if (u 1 0 0) ≤ y3 then
    sb (f_X0_repeats N u k1) fun r2 u4 =>
    sb (f_X7_held N u4 (y2 - (8 * r2)) 0 100) fun r5 u7 =>
    some (r5, u7)
  else
    sb (f_X0_placesOf N u k1 y3) fun r8 u10 =>
    if r8 ≤ 0 then
      nm (y3 + 1) fun v12 =>
      ih4 v12 y2 u10
    else
      gd (inb y3 8) <|
      gd ((ix y3) < N 14) <|
      nm (y2 + (3 * (u10 21 (ix y3) 0))) fun v15 =>
      nm (y3 + 1) fun v16 =>
      ih4 v16 v15 u10
def f_X7_variety_L4 (N : Nt) (k1 : Nat) : Nat → Int32 → Int32 → St → Option (Int32 × St) := lp (fun _ _ _ => none) (f_X7_variety_L4b N k1)
def f_X7_variety (N : Nt) (u : St) (k1 : Nat) : Option (Int32 × St) :=
  f_X7_variety_L4 N k1 1000000 0 0 u
set_option maxRecDepth 100000 in
set_option maxHeartbeats 4000000 in
theorem c_X7_variety (l : Launch) (z : Zt) (ad : Ad) (N : Nt) (X : Gt) (u : St) (k1 : Nat) (hk1 : k1 < 2) {r9 : Int32} {u9 : St} (h : f_X7_variety N u k1 = some (r9, u9)) : MC l z yX7_variety cX7_variety 4 (some .int) { frames := 1, cells := 0, slots := 0, locals := 23 } 0 0 [.ref (ad 0 0), .ref (ad 8 k1)] ad (GC z ad N X u) (QI z ad (GC z ad N X u9) r9) := by
  refine Met.ofW (cc := cX7_variety) (maxL := 4) (ret := (some .int)) (by decide) rfl ?_
  intro p e s m args below meth c s₁ B hml hv
  obtain ⟨rfl, hSW, hW⟩ := hv
  have hx := B.exec; have hb := B.bytes; have hr := B.returns; have hlocks := B.notSynchronized
  have hown : s.vm.findClass RX7 = some m.cls := findClass_of_methodNamed B.named
  obtain ⟨hT, hK, hST, hB0⟩ := id hSW
  have hS : va_S (zA z) s.heap s.heap [] := va_S.rf
  have hl := lv_entry ([.ref (ad 0 0), .ref (ad 8 k1)]) (n := 4) (Nat.le_of_ble_eq_true rfl)
  rw [lg_entry_eq]
  generalize (lg_sl ([.ref (ad 0 0), .ref (ad 8 k1)]) ++ List.replicate (4 - (lg_sl ([.ref (ad 0 0), .ref (ad 8 k1)])).length) Slot.unset).toArray = ls at hl ⊢
  have hl : lv_has ls 4 [(0, .ref (ad 0 0)), (1, .ref (ad 8 k1))] := hl
  let WW : Heap → List Loc → JFrame → Prop := fun H locs g => W p l e (headSpec [Cond.code yX7_variety cX7_variety 4 (some .int)] { frames := 1, cells := 0, slots := 0, locals := 23 }).room s m [.ref (ad 0 0), .ref (ad 8 k1)].toArray below meth c H locs 0 0 (MQ below (QI z ad (GC z ad N X u9) r9) [.ref (ad 0 0), .ref (ad 8 k1)].toArray s 0 0 (zA z)) g
  have hL4b : ∀ (ih4 : Int32 → Int32 → St → Option (Int32 × St)) (hih4 : ∀ (y3 : Int32) (y2 : Int32) (u : St) (H : Heap) (locs : List Loc) (ls : Array Slot), lv_has ls 4 [(3, .int y3), (2, .int y2), (0, .ref (ad 0 0)), (1, .ref (ad 8 k1))] → GW z ad (GC z ad N X u) H → va_S (zA z) s.heap H locs → ih4 y3 y2 u = some (r9, u9) → WW H locs (F0 m 4 ls [])), ∀ (y3 : Int32) (y2 : Int32) (u : St) (H : Heap) (locs : List Loc) (ls : Array Slot), lv_has ls 4 [(3, .int y3), (2, .int y2), (0, .ref (ad 0 0)), (1, .ref (ad 8 k1))] → GW z ad (GC z ad N X u) H → va_S (zA z) s.heap H locs → f_X7_variety_L4b N k1 ih4 y3 y2 u = some (r9, u9) → WW H locs (F0 m 4 ls []) := by
    intro ih4 hih4 y3 y2 u H locs ls hl hW hS h
    change W p l e _ s m _ below meth c H locs 0 0 _ (F0 m 4 ls [])
    unfold f_X7_variety_L4b at h
    refine lv_iload_n hx hb dX7_variety_4 rfl (lv_at hl 0 rfl) ?_
    refine lv_aload_n hx hb dX7_variety_5 rfl (lv_at hl 2 rfl) ?_
    refine nb_get hx hb hT hK hown hW fl_X7_133 kr_0 (v := .int (u 1 0 0)) rfl dX7_variety_6 ?_
    refine lv_icmp_ge (tgt := 40) hx hb dX7_variety_9 (by decide) (fun c1 => ?_) (fun c1 => ?_)
    · replace h := ite_t h c1
      refine lv_iload_n hx hb dX7_variety_40 rfl (lv_at hl 1 rfl) ?_
      refine lv_bipush (v := 8) hx hb dX7_variety_41 (by decide) ?_
      refine lv_aload_n hx hb dX7_variety_43 rfl (lv_at hl 3 rfl) ?_
      obtain ⟨r2, u4, h3, h⟩ := sb_s h
      refine nb_ci (nb_runV (As := []) (rest := [.int 8, .int y2]) hx hb hml hown hSW hS hW (c_X0_repeats l z ad N X u k1 hk1 h3) mf_X0_repeats lk_X7_516 (kr_8 hk1) rfl rfl ⟨rfl, rfl⟩ ⟨Nat.le_of_ble_eq_true rfl, Nat.le_of_ble_eq_true rfl⟩ hl.1 (Nat.le_of_ble_eq_true rfl) dX7_variety_44 ⟨Nat.le_of_ble_eq_true rfl, Nat.le_of_ble_eq_true rfl⟩) hS (fun H locs (hW : GW z ad (GC z ad N X u4) H) hS => ?_)
      refine lv_imul hx hb dX7_variety_47 ?_
      refine lv_isub hx hb dX7_variety_48 ?_
      refine lv_iconst (v := 0) hx hb dX7_variety_49 (by decide) ?_
      refine lv_bipush (v := 100) hx hb dX7_variety_50 (by decide) ?_
      obtain ⟨r5, u7, h6, h⟩ := sb_s h
      refine nb_ci (nb_runS (As := [.int (y2 - (8 * r2)), .int 0, .int 100]) (rest := []) hx hb hml hown hSW hS hW (c_X7_held l z ad N X u4 (y2 - (8 * r2)) 0 100 h6) mf_X7_held lk_X7_519 rfl ⟨rfl, rfl⟩ ⟨Nat.le_of_ble_eq_true rfl, Nat.le_of_ble_eq_true rfl⟩ hl.1 (Nat.le_of_ble_eq_true rfl) dX7_variety_52 ⟨Nat.le_of_ble_eq_true rfl, Nat.le_of_ble_eq_true rfl⟩) hS (fun H locs (hW : GW z ad (GC z ad N X u7) H) hS => ?_)
      exact ne_iret hx hb hr rfl hlocks hW hS dX7_variety_55 h
    · replace h := ite_f h c1
      refine lv_aload_n hx hb dX7_variety_12 rfl (lv_at hl 3 rfl) ?_
      refine lv_iload_n hx hb dX7_variety_13 rfl (lv_at hl 0 rfl) ?_
      obtain ⟨r8, u10, h09, h⟩ := sb_s h
      refine nb_ci (nb_runV (As := [.int y3]) (rest := []) hx hb hml hown hSW hS hW (c_X0_placesOf l z ad N X u k1 y3 hk1 h09) mf_X0_placesOf lk_X7_332 (kr_8 hk1) rfl rfl ⟨rfl, rfl⟩ ⟨Nat.le_of_ble_eq_true rfl, Nat.le_of_ble_eq_true rfl⟩ hl.1 (Nat.le_of_ble_eq_true rfl) dX7_variety_14 ⟨Nat.le_of_ble_eq_true rfl, Nat.le_of_ble_eq_true rfl⟩) hS (fun H locs (hW : GW z ad (GC z ad N X u10) H) hS => ?_)
      refine lv_if_le (tgt := 34) hx hb dX7_variety_17 (by decide) (fun c11 => ?_) (fun c11 => ?_)
      · replace h := ite_t h c11
        obtain ⟨v12, ev12, h⟩ := nm_s h
        refine lv_iinc (v := v12) (lv' := [(3, .int v12), (2, .int y2), (0, .ref (ad 0 0)), (1, .ref (ad 8 k1))]) hx hb dX7_variety_34 hl (k := 0) rfl (by rw [ev12]; rfl) (by decide) rfl (fun ls hl => ?_)
        refine lv_goto (tgt := 4) hx hb dX7_variety_37 (by decide) ?_
        exact hih4 _ _ _ _ _ _ (lv_sub hl [0, 1, 2, 3] rfl) hW hS h
      · replace h := ite_f h c11
        refine lv_iload_n hx hb dX7_variety_20 rfl (lv_at hl 1 rfl) ?_
        refine lv_iconst (v := 3) hx hb dX7_variety_21 (by decide) ?_
        refine lv_aload_n hx hb dX7_variety_22 rfl (lv_at hl 2 rfl) ?_
        refine nb_get hx hb hT hK hown hW fl_X7_17 kr_0 (v := .ref (ad 2 0)) rfl dX7_variety_23 ?_
        refine lv_iload_n hx hb dX7_variety_26 rfl (lv_at hl 0 rfl) ?_
        obtain ⟨g13, h⟩ := gd_s h
        obtain ⟨g14, h⟩ := gd_s h
        refine nb_aald hx hb hK hW 3 kr_2 rfl rfl (inb_in g13) (a := ad 14 (ix y3)) (qrow_at g14) dX7_variety_27 ?_
        refine nb_get hx hb hT hK hown hW fl_X7_326 (kr_14 g14) (v := .int (u10 21 (ix y3) 0)) rfl dX7_variety_28 ?_
        refine lv_imul hx hb dX7_variety_31 ?_
        refine lv_iadd hx hb dX7_variety_32 ?_
        refine lv_topi (fun v15 ev15 => ?_)
        replace h := nm_at ev15 h
        refine lv_istore_n (lv' := [(2, .int v15), (3, .int y3), (0, .ref (ad 0 0)), (1, .ref (ad 8 k1))]) hx hb dX7_variety_33 rfl hl (by decide) rfl (fun ls hl => ?_)
        obtain ⟨v16, ev16, h⟩ := nm_s h
        refine lv_iinc (v := v16) (lv' := [(3, .int v16), (2, .int v15), (0, .ref (ad 0 0)), (1, .ref (ad 8 k1))]) hx hb dX7_variety_34 hl (k := 1) rfl (by rw [ev16]; rfl) (by decide) rfl (fun ls hl => ?_)
        refine lv_goto (tgt := 4) hx hb dX7_variety_37 (by decide) ?_
        exact hih4 _ _ _ _ _ _ (lv_sub hl [0, 1, 2, 3] rfl) hW hS h
  have hL4 : ∀ (n : Nat), ∀ (y3 : Int32) (y2 : Int32) (u : St) (H : Heap) (locs : List Loc) (ls : Array Slot), lv_has ls 4 [(3, .int y3), (2, .int y2), (0, .ref (ad 0 0)), (1, .ref (ad 8 k1))] → GW z ad (GC z ad N X u) H → va_S (zA z) s.heap H locs → f_X7_variety_L4 N k1 n y3 y2 u = some (r9, u9) → WW H locs (F0 m 4 ls []) := by
    intro n
    induction n with
    | zero => intro y3 y2 u H locs ls hl hW hS h; exact absurd h (by intro q; cases q)
    | succ n ihn => intro y3 y2 u H locs ls hl hW hS h; exact hL4b (f_X7_variety_L4 N k1 n) ihn y3 y2 u H locs ls hl hW hS h
  unfold f_X7_variety at h
  refine lv_iconst (v := 0) hx hb dX7_variety_0 (by decide) ?_
  refine lv_istore_n (lv' := [(2, .int 0), (0, .ref (ad 0 0)), (1, .ref (ad 8 k1))]) hx hb dX7_variety_1 rfl hl (by decide) rfl (fun ls hl => ?_)
  refine lv_iconst (v := 0) hx hb dX7_variety_2 (by decide) ?_
  refine lv_istore_n (lv' := [(3, .int 0), (2, .int 0), (0, .ref (ad 0 0)), (1, .ref (ad 8 k1))]) hx hb dX7_variety_3 rfl hl (by decide) rfl (fun ls hl => ?_)
  exact hL4 1000000 _ _ _ _ _ _ (lv_sub hl [0, 1, 2, 3] rfl) hW hS h
/-- Panyard.leastSound -/
def f_X7_leastSound_L5b (N : Nt) (k1 : Nat) (ih5 : Int32 → Int32 → St → Option (Int32 × St)) (y3 : Int32) (y2 : Int32) (u : St) : Option (Int32 × St) :=
  if (u 43 k1 0) ≤ y3 then
    if (u 43 k1 0) = 0 then
      some (0, u)
    else
      some (y2, u)
  else
    sb (f_X7_soundAt N u k1 y3) fun r3 u5 =>
    nm (mmin y2 r3) fun v6 =>
    nm (y3 + 1) fun v7 =>
    ih5 v7 v6 u5
def f_X7_leastSound_L5 (N : Nt) (k1 : Nat) : Nat → Int32 → Int32 → St → Option (Int32 × St) := lp (fun _ _ _ => none) (f_X7_leastSound_L5b N k1)
def f_X7_leastSound (N : Nt) (u : St) (k1 : Nat) : Option (Int32 × St) :=
  f_X7_leastSound_L5 N k1 1000000 0 100 u
set_option maxRecDepth 100000 in
set_option maxHeartbeats 4000000 in
theorem c_X7_leastSound (l : Launch) (z : Zt) (ad : Ad) (N : Nt) (X : Gt) (u : St) (k1 : Nat) (hk1 : k1 < 2) {r9 : Int32} {u9 : St} (h : f_X7_leastSound N u k1 = some (r9, u9)) : MC l z yX7_leastSound cX7_leastSound 4 (some .int) { frames := 2, cells := 0, slots := 0, locals := 44 } 0 0 [.ref (ad 0 0), .ref (ad 8 k1)] ad (GC z ad N X u) (QI z ad (GC z ad N X u9) r9) := by
  refine Met.ofW (cc := cX7_leastSound) (maxL := 4) (ret := (some .int)) (by decide) rfl ?_
  intro p e s m args below meth c s₁ B hml hv
  obtain ⟨rfl, hSW, hW⟩ := hv
  have hx := B.exec; have hb := B.bytes; have hr := B.returns; have hlocks := B.notSynchronized
  have hown : s.vm.findClass RX7 = some m.cls := findClass_of_methodNamed B.named
  obtain ⟨hT, hK, hST, hB0⟩ := id hSW
  have hS : va_S (zA z) s.heap s.heap [] := va_S.rf
  have hl := lv_entry ([.ref (ad 0 0), .ref (ad 8 k1)]) (n := 4) (Nat.le_of_ble_eq_true rfl)
  rw [lg_entry_eq]
  generalize (lg_sl ([.ref (ad 0 0), .ref (ad 8 k1)]) ++ List.replicate (4 - (lg_sl ([.ref (ad 0 0), .ref (ad 8 k1)])).length) Slot.unset).toArray = ls at hl ⊢
  have hl : lv_has ls 4 [(0, .ref (ad 0 0)), (1, .ref (ad 8 k1))] := hl
  let WW : Heap → List Loc → JFrame → Prop := fun H locs g => W p l e (headSpec [Cond.code yX7_leastSound cX7_leastSound 4 (some .int)] { frames := 2, cells := 0, slots := 0, locals := 44 }).room s m [.ref (ad 0 0), .ref (ad 8 k1)].toArray below meth c H locs 0 0 (MQ below (QI z ad (GC z ad N X u9) r9) [.ref (ad 0 0), .ref (ad 8 k1)].toArray s 0 0 (zA z)) g
  have hL5b : ∀ (ih5 : Int32 → Int32 → St → Option (Int32 × St)) (hih5 : ∀ (y3 : Int32) (y2 : Int32) (u : St) (H : Heap) (locs : List Loc) (ls : Array Slot), lv_has ls 4 [(3, .int y3), (2, .int y2), (0, .ref (ad 0 0)), (1, .ref (ad 8 k1))] → GW z ad (GC z ad N X u) H → va_S (zA z) s.heap H locs → ih5 y3 y2 u = some (r9, u9) → WW H locs (F0 m 5 ls [])), ∀ (y3 : Int32) (y2 : Int32) (u : St) (H : Heap) (locs : List Loc) (ls : Array Slot), lv_has ls 4 [(3, .int y3), (2, .int y2), (0, .ref (ad 0 0)), (1, .ref (ad 8 k1))] → GW z ad (GC z ad N X u) H → va_S (zA z) s.heap H locs → f_X7_leastSound_L5b N k1 ih5 y3 y2 u = some (r9, u9) → WW H locs (F0 m 5 ls []) := by
    intro ih5 hih5 y3 y2 u H locs ls hl hW hS h
    change W p l e _ s m _ below meth c H locs 0 0 _ (F0 m 5 ls [])
    unfold f_X7_leastSound_L5b at h
    refine lv_iload_n hx hb dX7_leastSound_5 rfl (lv_at hl 0 rfl) ?_
    refine lv_aload_n hx hb dX7_leastSound_6 rfl (lv_at hl 3 rfl) ?_
    refine nb_get hx hb hT hK hown hW fl_X7_160 (kr_8 hk1) (v := .int (u 43 k1 0)) rfl dX7_leastSound_7 ?_
    refine lv_icmp_ge (tgt := 30) hx hb dX7_leastSound_10 (by decide) (fun c1 => ?_) (fun c1 => ?_)
    · replace h := ite_t h c1
      refine lv_aload_n hx hb dX7_leastSound_30 rfl (lv_at hl 3 rfl) ?_
      refine nb_get hx hb hT hK hown hW fl_X7_160 (kr_8 hk1) (v := .int (u 43 k1 0)) rfl dX7_leastSound_31 ?_
      refine lv_if_ne (tgt := 41) hx hb dX7_leastSound_34 (by decide) (fun c2 => ?_) (fun c2 => ?_)
      · replace h := ite_f h c2
        refine lv_iload_n hx hb dX7_leastSound_41 rfl (lv_at hl 1 rfl) ?_
        exact ne_iret hx hb hr rfl hlocks hW hS dX7_leastSound_42 h
      · replace h := ite_t h c2
        refine lv_iconst (v := 0) hx hb dX7_leastSound_37 (by decide) ?_
        refine lv_goto (tgt := 42) hx hb dX7_leastSound_38 (by decide) ?_
        exact ne_iret hx hb hr rfl hlocks hW hS dX7_leastSound_42 h
    · replace h := ite_f h c1
      refine lv_iload_n hx hb dX7_leastSound_13 rfl (lv_at hl 1 rfl) ?_
      refine lv_aload_n hx hb dX7_leastSound_14 rfl (lv_at hl 2 rfl) ?_
      refine lv_aload_n hx hb dX7_leastSound_15 rfl (lv_at hl 3 rfl) ?_
      refine lv_iload_n hx hb dX7_leastSound_16 rfl (lv_at hl 0 rfl) ?_
      obtain ⟨r3, u5, h4, h⟩ := sb_s h
      refine nb_ci (nb_runV (As := [.ref (ad 8 k1), .int y3]) (rest := [.int y2]) hx hb hml hown hSW hS hW (c_X7_soundAt l z ad N X u k1 y3 hk1 h4) mf_X7_soundAt lk_X7_349 kr_0 rfl rfl ⟨rfl, rfl⟩ ⟨Nat.le_of_ble_eq_true rfl, Nat.le_of_ble_eq_true rfl⟩ hl.1 (Nat.le_of_ble_eq_true rfl) dX7_leastSound_17 ⟨Nat.le_of_ble_eq_true rfl, Nat.le_of_ble_eq_true rfl⟩) hS (fun H locs (hW : GW z ad (GC z ad N X u5) H) hS => ?_)
      refine nb_mmin hx hb hml hl.1 hown hT lm_X7_513 mf_Math_min ⟨Nat.le_of_ble_eq_true rfl, Nat.le_of_ble_eq_true rfl⟩ ⟨Nat.le_of_ble_eq_true rfl, Nat.le_of_ble_eq_true rfl⟩ dX7_leastSound_20 ?_
      refine lv_topi (fun v6 ev6 => ?_)
      replace h := nm_at ev6 h
      refine lv_istore_n (lv' := [(2, .int v6), (3, .int y3), (0, .ref (ad 0 0)), (1, .ref (ad 8 k1))]) hx hb dX7_leastSound_23 rfl hl (by decide) rfl (fun ls hl => ?_)
      obtain ⟨v7, ev7, h⟩ := nm_s h
      refine lv_iinc (v := v7) (lv' := [(3, .int v7), (2, .int v6), (0, .ref (ad 0 0)), (1, .ref (ad 8 k1))]) hx hb dX7_leastSound_24 hl (k := 1) rfl (by rw [ev7]; rfl) (by decide) rfl (fun ls hl => ?_)
      refine lv_goto (tgt := 5) hx hb dX7_leastSound_27 (by decide) ?_
      exact hih5 _ _ _ _ _ _ (lv_sub hl [0, 1, 2, 3] rfl) hW hS h
  have hL5 : ∀ (n : Nat), ∀ (y3 : Int32) (y2 : Int32) (u : St) (H : Heap) (locs : List Loc) (ls : Array Slot), lv_has ls 4 [(3, .int y3), (2, .int y2), (0, .ref (ad 0 0)), (1, .ref (ad 8 k1))] → GW z ad (GC z ad N X u) H → va_S (zA z) s.heap H locs → f_X7_leastSound_L5 N k1 n y3 y2 u = some (r9, u9) → WW H locs (F0 m 5 ls []) := by
    intro n
    induction n with
    | zero => intro y3 y2 u H locs ls hl hW hS h; exact absurd h (by intro q; cases q)
    | succ n ihn => intro y3 y2 u H locs ls hl hW hS h; exact hL5b (f_X7_leastSound_L5 N k1 n) ihn y3 y2 u H locs ls hl hW hS h
  unfold f_X7_leastSound at h
  refine lv_bipush (v := 100) hx hb dX7_leastSound_0 (by decide) ?_
  refine lv_istore_n (lv' := [(2, .int 100), (0, .ref (ad 0 0)), (1, .ref (ad 8 k1))]) hx hb dX7_leastSound_2 rfl hl (by decide) rfl (fun ls hl => ?_)
  refine lv_iconst (v := 0) hx hb dX7_leastSound_3 (by decide) ?_
  refine lv_istore_n (lv' := [(3, .int 0), (2, .int 100), (0, .ref (ad 0 0)), (1, .ref (ad 8 k1))]) hx hb dX7_leastSound_4 rfl hl (by decide) rfl (fun ls hl => ?_)
  exact hL5 1000000 _ _ _ _ _ _ (lv_sub hl [0, 1, 2, 3] rfl) hW hS h
/-- Panyard.heard -/
def f_X7_heard (N : Nt) (u : St) (k1 : Nat) : Option (Int32 × St) :=
  sb (f_X7_meanSound N u k1) fun r1 u3 =>
  sb (f_X7_variety N u3 k1) fun r4 u6 =>
  sb (f_X7_leastSound N u6 k1) fun r7 u09 =>
  some (((r1 + r4) + r7), u09)
set_option maxRecDepth 100000 in
set_option maxHeartbeats 4000000 in
theorem c_X7_heard (l : Launch) (z : Zt) (ad : Ad) (N : Nt) (X : Gt) (u : St) (k1 : Nat) (hk1 : k1 < 2) {r9 : Int32} {u9 : St} (h : f_X7_heard N u k1 = some (r9, u9)) : MC l z yX7_heard cX7_heard 2 (some .int) { frames := 3, cells := 0, slots := 0, locals := 67 } 0 0 [.ref (ad 0 0), .ref (ad 8 k1)] ad (GC z ad N X u) (QI z ad (GC z ad N X u9) r9) := by
  refine Met.ofW (cc := cX7_heard) (maxL := 2) (ret := (some .int)) (by decide) rfl ?_
  intro p e s m args below meth c s₁ B hml hv
  obtain ⟨rfl, hSW, hW⟩ := hv
  have hx := B.exec; have hb := B.bytes; have hr := B.returns; have hlocks := B.notSynchronized
  have hown : s.vm.findClass RX7 = some m.cls := findClass_of_methodNamed B.named
  obtain ⟨hT, hK, hST, hB0⟩ := id hSW
  have hS : va_S (zA z) s.heap s.heap [] := va_S.rf
  have hl := lv_entry ([.ref (ad 0 0), .ref (ad 8 k1)]) (n := 2) (Nat.le_of_ble_eq_true rfl)
  rw [lg_entry_eq]
  generalize (lg_sl ([.ref (ad 0 0), .ref (ad 8 k1)]) ++ List.replicate (2 - (lg_sl ([.ref (ad 0 0), .ref (ad 8 k1)])).length) Slot.unset).toArray = ls at hl ⊢
  have hl : lv_has ls 2 [(0, .ref (ad 0 0)), (1, .ref (ad 8 k1))] := hl
  unfold f_X7_heard at h
  refine lv_aload_n hx hb dX7_heard_0 rfl (lv_at hl 0 rfl) ?_
  refine lv_aload_n hx hb dX7_heard_1 rfl (lv_at hl 1 rfl) ?_
  obtain ⟨r1, u3, h2, h⟩ := sb_s h
  refine nb_ci (nb_runV (As := [.ref (ad 8 k1)]) (rest := []) hx hb hml hown hSW hS hW (c_X7_meanSound l z ad N X u k1 hk1 h2) mf_X7_meanSound lk_X7_355 kr_0 rfl rfl ⟨rfl, rfl⟩ ⟨Nat.le_of_ble_eq_true rfl, Nat.le_of_ble_eq_true rfl⟩ hl.1 (Nat.le_of_ble_eq_true rfl) dX7_heard_2 ⟨Nat.le_of_ble_eq_true rfl, Nat.le_of_ble_eq_true rfl⟩) hS (fun H locs (hW : GW z ad (GC z ad N X u3) H) hS => ?_)
  refine lv_aload_n hx hb dX7_heard_5 rfl (lv_at hl 0 rfl) ?_
  refine lv_aload_n hx hb dX7_heard_6 rfl (lv_at hl 1 rfl) ?_
  obtain ⟨r4, u6, h5, h⟩ := sb_s h
  refine nb_ci (nb_runV (As := [.ref (ad 8 k1)]) (rest := [.int r1]) hx hb hml hown hSW hS hW (c_X7_variety l z ad N X u3 k1 hk1 h5) mf_X7_variety lk_X7_362 kr_0 rfl rfl ⟨rfl, rfl⟩ ⟨Nat.le_of_ble_eq_true rfl, Nat.le_of_ble_eq_true rfl⟩ hl.1 (Nat.le_of_ble_eq_true rfl) dX7_heard_7 ⟨Nat.le_of_ble_eq_true rfl, Nat.le_of_ble_eq_true rfl⟩) hS (fun H locs (hW : GW z ad (GC z ad N X u6) H) hS => ?_)
  refine lv_iadd hx hb dX7_heard_10 ?_
  refine lv_aload_n hx hb dX7_heard_11 rfl (lv_at hl 0 rfl) ?_
  refine lv_aload_n hx hb dX7_heard_12 rfl (lv_at hl 1 rfl) ?_
  obtain ⟨r7, u09, h8, h⟩ := sb_s h
  refine nb_ci (nb_runV (As := [.ref (ad 8 k1)]) (rest := [.int (r1 + r4)]) hx hb hml hown hSW hS hW (c_X7_leastSound l z ad N X u6 k1 hk1 h8) mf_X7_leastSound lk_X7_365 kr_0 rfl rfl ⟨rfl, rfl⟩ ⟨Nat.le_of_ble_eq_true rfl, Nat.le_of_ble_eq_true rfl⟩ hl.1 (Nat.le_of_ble_eq_true rfl) dX7_heard_13 ⟨Nat.le_of_ble_eq_true rfl, Nat.le_of_ble_eq_true rfl⟩) hS (fun H locs (hW : GW z ad (GC z ad N X u09) H) hS => ?_)
  refine lv_iadd hx hb dX7_heard_16 ?_
  exact ne_iret hx hb hr rfl hlocks hW hS dX7_heard_17 h
/-- Panyard.totalNow -/
def f_X7_totalNow (N : Nt) (u : St) : Option (Int32 × St) :=
  sb (f_X7_weigh N u 0) fun r1 u3 =>
  sb (f_X7_tone N u3) fun r4 u6 =>
  sb (f_X7_heard N u6 0) fun r7 u09 =>
  some ((r4 + r7), u09)
set_option maxRecDepth 100000 in
set_option maxHeartbeats 4000000 in
theorem c_X7_totalNow (l : Launch) (z : Zt) (ad : Ad) (N : Nt) (X : Gt) (u : St) {r9 : Int32} {u9 : St} (h : f_X7_totalNow N u = some (r9, u9)) : MC l z yX7_totalNow cX7_totalNow 1 (some .int) { frames := 4, cells := 0, slots := 0, locals := 94 } 0 0 [.ref (ad 0 0)] ad (GC z ad N X u) (QI z ad (GC z ad N X u9) r9) := by
  refine Met.ofW (cc := cX7_totalNow) (maxL := 1) (ret := (some .int)) (by decide) rfl ?_
  intro p e s m args below meth c s₁ B hml hv
  obtain ⟨rfl, hSW, hW⟩ := hv
  have hx := B.exec; have hb := B.bytes; have hr := B.returns; have hlocks := B.notSynchronized
  have hown : s.vm.findClass RX7 = some m.cls := findClass_of_methodNamed B.named
  obtain ⟨hT, hK, hST, hB0⟩ := id hSW
  have hS : va_S (zA z) s.heap s.heap [] := va_S.rf
  have hl := lv_entry ([.ref (ad 0 0)]) (n := 1) (Nat.le_of_ble_eq_true rfl)
  rw [lg_entry_eq]
  generalize (lg_sl ([.ref (ad 0 0)]) ++ List.replicate (1 - (lg_sl ([.ref (ad 0 0)])).length) Slot.unset).toArray = ls at hl ⊢
  have hl : lv_has ls 1 [(0, .ref (ad 0 0))] := hl
  unfold f_X7_totalNow at h
  refine lv_aload_n hx hb dX7_totalNow_0 rfl (lv_at hl 0 rfl) ?_
  refine lv_aload_n hx hb dX7_totalNow_1 rfl (lv_at hl 0 rfl) ?_
  refine nb_get hx hb hT hK hown hW fl_X7_37 kr_0 (v := .ref (ad 10 0)) rfl dX7_totalNow_2 ?_
  obtain ⟨r1, u3, h2, h⟩ := sb_s h
  refine nb_cv (nb_runV (As := [.ref (ad 10 0)]) (rest := []) hx hb hml hown hSW hS hW (c_X7_weigh l z ad N X u 0 (by decide) h2) mf_X7_weigh lk_X7_345 kr_0 rfl rfl ⟨rfl, rfl⟩ ⟨Nat.le_of_ble_eq_true rfl, Nat.le_of_ble_eq_true rfl⟩ hl.1 (Nat.le_of_ble_eq_true rfl) dX7_totalNow_5 ⟨Nat.le_of_ble_eq_true rfl, Nat.le_of_ble_eq_true rfl⟩) hS (fun H locs (hW : GW z ad (GC z ad N X u3) H) hS => ?_)
  refine lv_aload_n hx hb dX7_totalNow_8 rfl (lv_at hl 0 rfl) ?_
  obtain ⟨r4, u6, h5, h⟩ := sb_s h
  refine nb_ci (nb_runV (As := []) (rest := []) hx hb hml hown hSW hS hW (c_X7_tone l z ad N X u3 h5) mf_X7_tone lk_X7_359 kr_0 rfl rfl ⟨rfl, rfl⟩ ⟨Nat.le_of_ble_eq_true rfl, Nat.le_of_ble_eq_true rfl⟩ hl.1 (Nat.le_of_ble_eq_true rfl) dX7_totalNow_9 ⟨Nat.le_of_ble_eq_true rfl, Nat.le_of_ble_eq_true rfl⟩) hS (fun H locs (hW : GW z ad (GC z ad N X u6) H) hS => ?_)
  refine lv_aload_n hx hb dX7_totalNow_12 rfl (lv_at hl 0 rfl) ?_
  refine lv_aload_n hx hb dX7_totalNow_13 rfl (lv_at hl 0 rfl) ?_
  refine nb_get hx hb hT hK hown hW fl_X7_30 kr_0 (v := .ref (ad 8 0)) rfl dX7_totalNow_14 ?_
  obtain ⟨r7, u09, h8, h⟩ := sb_s h
  refine nb_ci (nb_runV (As := [.ref (ad 8 0)]) (rest := [.int r4]) hx hb hml hown hSW hS hW (c_X7_heard l z ad N X u6 0 (by decide) h8) mf_X7_heard lk_X7_386 kr_0 rfl rfl ⟨rfl, rfl⟩ ⟨Nat.le_of_ble_eq_true rfl, Nat.le_of_ble_eq_true rfl⟩ hl.1 (Nat.le_of_ble_eq_true rfl) dX7_totalNow_17 ⟨Nat.le_of_ble_eq_true rfl, Nat.le_of_ble_eq_true rfl⟩) hS (fun H locs (hW : GW z ad (GC z ad N X u09) H) hS => ?_)
  refine lv_iadd hx hb dX7_totalNow_20 ?_
  exact ne_iret hx hb hr rfl hlocks hW hS dX7_totalNow_21 h
/-- Panyard$Contest.scoreOf -/
def f_X1_scoreOf (N : Nt) (u : St) (x1 : Int32) : Option (Int32 × St) :=
  nm (mmin (u 61 0 1) (u 61 0 2)) fun v1 =>
  nm (mmin (u 61 0 0) v1) fun v2 =>
  nm (mmax (u 61 0 1) (u 61 0 2)) fun v3 =>
  nm (mmax (u 61 0 0) v3) fun v4 =>
  some ((((((x1 + (u 61 0 0)) + (u 61 0 1)) + (u 61 0 2)) - v2) - v4), u)
set_option maxRecDepth 100000 in
set_option maxHeartbeats 4000000 in
theorem c_X1_scoreOf (l : Launch) (z : Zt) (ad : Ad) (N : Nt) (X : Gt) (u : St) (x1 : Int32) {r9 : Int32} {u9 : St} (h : f_X1_scoreOf N u x1 = some (r9, u9)) : MC l z yX1_scoreOf cX1_scoreOf 4 (some .int) { frames := 1, cells := 0, slots := 0, locals := 21 } 0 0 [.ref (ad 6 0), .int x1] ad (GC z ad N X u) (QI z ad (GC z ad N X u9) r9) := by
  refine Met.ofW (cc := cX1_scoreOf) (maxL := 4) (ret := (some .int)) (by decide) rfl ?_
  intro p e s m args below meth c s₁ B hml hv
  obtain ⟨rfl, hSW, hW⟩ := hv
  have hx := B.exec; have hb := B.bytes; have hr := B.returns; have hlocks := B.notSynchronized
  have hown : s.vm.findClass RX1 = some m.cls := findClass_of_methodNamed B.named
  obtain ⟨hT, hK, hST, hB0⟩ := id hSW
  have hS : va_S (zA z) s.heap s.heap [] := va_S.rf
  have hl := lv_entry ([.ref (ad 6 0), .int x1]) (n := 4) (Nat.le_of_ble_eq_true rfl)
  rw [lg_entry_eq]
  generalize (lg_sl ([.ref (ad 6 0), .int x1]) ++ List.replicate (4 - (lg_sl ([.ref (ad 6 0), .int x1])).length) Slot.unset).toArray = ls at hl ⊢
  have hl : lv_has ls 4 [(0, .ref (ad 6 0)), (1, .int x1)] := hl
  unfold f_X1_scoreOf at h
  refine lv_aload_n hx hb dX1_scoreOf_0 rfl (lv_at hl 0 rfl) ?_
  refine nb_get hx hb hT hK hown hW fl_X1_15 kr_6 (v := .ref (ad 17 0)) rfl dX1_scoreOf_1 ?_
  refine lv_iconst (v := 0) hx hb dX1_scoreOf_4 (by decide) ?_
  refine nb_iald hx hb hK hW 0 kr_17 rfl (inb_in (show inb 0 3 by decide)) dX1_scoreOf_5 ?_
  refine lv_aload_n hx hb dX1_scoreOf_6 rfl (lv_at hl 0 rfl) ?_
  refine nb_get hx hb hT hK hown hW fl_X1_15 kr_6 (v := .ref (ad 17 0)) rfl dX1_scoreOf_7 ?_
  refine lv_iconst (v := 1) hx hb dX1_scoreOf_10 (by decide) ?_
  refine nb_iald hx hb hK hW 0 kr_17 rfl (inb_in (show inb 1 3 by decide)) dX1_scoreOf_11 ?_
  refine lv_aload_n hx hb dX1_scoreOf_12 rfl (lv_at hl 0 rfl) ?_
  refine nb_get hx hb hT hK hown hW fl_X1_15 kr_6 (v := .ref (ad 17 0)) rfl dX1_scoreOf_13 ?_
  refine lv_iconst (v := 2) hx hb dX1_scoreOf_16 (by decide) ?_
  refine nb_iald hx hb hK hW 0 kr_17 rfl (inb_in (show inb 2 3 by decide)) dX1_scoreOf_17 ?_
  refine nb_mmin hx hb hml hl.1 hown hT lm_X1_32 mf_Math_min ⟨Nat.le_of_ble_eq_true rfl, Nat.le_of_ble_eq_true rfl⟩ ⟨Nat.le_of_ble_eq_true rfl, Nat.le_of_ble_eq_true rfl⟩ dX1_scoreOf_18 ?_
  refine lv_topi (fun v1 ev1 => ?_)
  replace h := nm_at ev1 h
  refine nb_mmin hx hb hml hl.1 hown hT lm_X1_32 mf_Math_min ⟨Nat.le_of_ble_eq_true rfl, Nat.le_of_ble_eq_true rfl⟩ ⟨Nat.le_of_ble_eq_true rfl, Nat.le_of_ble_eq_true rfl⟩ dX1_scoreOf_21 ?_
  refine lv_topi (fun v2 ev2 => ?_)
  replace h := nm_at ev2 h
  refine lv_istore_n (lv' := [(2, .int v2), (0, .ref (ad 6 0)), (1, .int x1)]) hx hb dX1_scoreOf_24 rfl hl (by decide) rfl (fun ls hl => ?_)
  refine lv_aload_n hx hb dX1_scoreOf_25 rfl (lv_at hl 1 rfl) ?_
  refine nb_get hx hb hT hK hown hW fl_X1_15 kr_6 (v := .ref (ad 17 0)) rfl dX1_scoreOf_26 ?_
  refine lv_iconst (v := 0) hx hb dX1_scoreOf_29 (by decide) ?_
  refine nb_iald hx hb hK hW 0 kr_17 rfl (inb_in (show inb 0 3 by decide)) dX1_scoreOf_30 ?_
  refine lv_aload_n hx hb dX1_scoreOf_31 rfl (lv_at hl 1 rfl) ?_
  refine nb_get hx hb hT hK hown hW fl_X1_15 kr_6 (v := .ref (ad 17 0)) rfl dX1_scoreOf_32 ?_
  refine lv_iconst (v := 1) hx hb dX1_scoreOf_35 (by decide) ?_
  refine nb_iald hx hb hK hW 0 kr_17 rfl (inb_in (show inb 1 3 by decide)) dX1_scoreOf_36 ?_
  refine lv_aload_n hx hb dX1_scoreOf_37 rfl (lv_at hl 1 rfl) ?_
  refine nb_get hx hb hT hK hown hW fl_X1_15 kr_6 (v := .ref (ad 17 0)) rfl dX1_scoreOf_38 ?_
  refine lv_iconst (v := 2) hx hb dX1_scoreOf_41 (by decide) ?_
  refine nb_iald hx hb hK hW 0 kr_17 rfl (inb_in (show inb 2 3 by decide)) dX1_scoreOf_42 ?_
  refine nb_mmax hx hb hml hl.1 hown hT lm_X1_38 mf_Math_max ⟨Nat.le_of_ble_eq_true rfl, Nat.le_of_ble_eq_true rfl⟩ ⟨Nat.le_of_ble_eq_true rfl, Nat.le_of_ble_eq_true rfl⟩ dX1_scoreOf_43 ?_
  refine lv_topi (fun v3 ev3 => ?_)
  replace h := nm_at ev3 h
  refine nb_mmax hx hb hml hl.1 hown hT lm_X1_38 mf_Math_max ⟨Nat.le_of_ble_eq_true rfl, Nat.le_of_ble_eq_true rfl⟩ ⟨Nat.le_of_ble_eq_true rfl, Nat.le_of_ble_eq_true rfl⟩ dX1_scoreOf_46 ?_
  refine lv_topi (fun v4 ev4 => ?_)
  replace h := nm_at ev4 h
  refine lv_istore_n (lv' := [(3, .int v4), (2, .int v2), (0, .ref (ad 6 0)), (1, .int x1)]) hx hb dX1_scoreOf_49 rfl hl (by decide) rfl (fun ls hl => ?_)
  refine lv_iload_n hx hb dX1_scoreOf_50 rfl (lv_at hl 3 rfl) ?_
  refine lv_aload_n hx hb dX1_scoreOf_51 rfl (lv_at hl 2 rfl) ?_
  refine nb_get hx hb hT hK hown hW fl_X1_15 kr_6 (v := .ref (ad 17 0)) rfl dX1_scoreOf_52 ?_
  refine lv_iconst (v := 0) hx hb dX1_scoreOf_55 (by decide) ?_
  refine nb_iald hx hb hK hW 0 kr_17 rfl (inb_in (show inb 0 3 by decide)) dX1_scoreOf_56 ?_
  refine lv_iadd hx hb dX1_scoreOf_57 ?_
  refine lv_aload_n hx hb dX1_scoreOf_58 rfl (lv_at hl 2 rfl) ?_
  refine nb_get hx hb hT hK hown hW fl_X1_15 kr_6 (v := .ref (ad 17 0)) rfl dX1_scoreOf_59 ?_
  refine lv_iconst (v := 1) hx hb dX1_scoreOf_62 (by decide) ?_
  refine nb_iald hx hb hK hW 0 kr_17 rfl (inb_in (show inb 1 3 by decide)) dX1_scoreOf_63 ?_
  refine lv_iadd hx hb dX1_scoreOf_64 ?_
  refine lv_aload_n hx hb dX1_scoreOf_65 rfl (lv_at hl 2 rfl) ?_
  refine nb_get hx hb hT hK hown hW fl_X1_15 kr_6 (v := .ref (ad 17 0)) rfl dX1_scoreOf_66 ?_
  refine lv_iconst (v := 2) hx hb dX1_scoreOf_69 (by decide) ?_
  refine nb_iald hx hb hK hW 0 kr_17 rfl (inb_in (show inb 2 3 by decide)) dX1_scoreOf_70 ?_
  refine lv_iadd hx hb dX1_scoreOf_71 ?_
  refine lv_iload_n hx hb dX1_scoreOf_72 rfl (lv_at hl 1 rfl) ?_
  refine lv_isub hx hb dX1_scoreOf_73 ?_
  refine lv_iload_n hx hb dX1_scoreOf_74 rfl (lv_at hl 0 rfl) ?_
  refine lv_isub hx hb dX1_scoreOf_75 ?_
  exact ne_iret hx hb hr rfl hlocks hW hS dX1_scoreOf_76 h
/-- Panyard$Contest.rankOf -/
def f_X1_rankOf_L5b (N : Nt) (ih5 : Int32 → Int32 → Int32 → Int32 → St → Option (Int32 × St)) (y4 : Int32) (y3 : Int32) (y1 : Int32) (y2 : Int32) (u : St) : Option (Int32 × St) :=
  if (u 64 0 0) ≤ y4 then
    some ((1 + y3), u)
  else
    gd (inb y4 6) <|
    if ((u 60 0 (ix y4)) + (15 * y1)) ≤ y2 then
      nm (y4 + 1) fun v4 =>
      ih5 v4 y3 y1 y2 u
    else
      nm (y3 + 1) fun v5 =>
      nm (y4 + 1) fun v6 =>
      ih5 v6 v5 y1 y2 u
def f_X1_rankOf_L5 (N : Nt) : Nat → Int32 → Int32 → Int32 → Int32 → St → Option (Int32 × St) := lp (fun _ _ _ _ _ => none) (f_X1_rankOf_L5b N)
def f_X1_rankOf (N : Nt) (u : St) (x1 : Int32) (x2 : Int32) : Option (Int32 × St) :=
  f_X1_rankOf_L5 N 1000000 0 0 x1 x2 u
set_option maxRecDepth 100000 in
set_option maxHeartbeats 4000000 in
theorem c_X1_rankOf (l : Launch) (z : Zt) (ad : Ad) (N : Nt) (X : Gt) (u : St) (x1 : Int32) (x2 : Int32) {r9 : Int32} {u9 : St} (h : f_X1_rankOf N u x1 x2 = some (r9, u9)) : MC l z yX1_rankOf cX1_rankOf 5 (some .int) { frames := 0, cells := 0, slots := 0, locals := 0 } 0 0 [.ref (ad 6 0), .int x1, .int x2] ad (GC z ad N X u) (QI z ad (GC z ad N X u9) r9) := by
  refine Met.ofW (cc := cX1_rankOf) (maxL := 5) (ret := (some .int)) (by decide) rfl ?_
  intro p e s m args below meth c s₁ B hml hv
  obtain ⟨rfl, hSW, hW⟩ := hv
  have hx := B.exec; have hb := B.bytes; have hr := B.returns; have hlocks := B.notSynchronized
  have hown : s.vm.findClass RX1 = some m.cls := findClass_of_methodNamed B.named
  obtain ⟨hT, hK, hST, hB0⟩ := id hSW
  have hS : va_S (zA z) s.heap s.heap [] := va_S.rf
  have hl := lv_entry ([.ref (ad 6 0), .int x1, .int x2]) (n := 5) (Nat.le_of_ble_eq_true rfl)
  rw [lg_entry_eq]
  generalize (lg_sl ([.ref (ad 6 0), .int x1, .int x2]) ++ List.replicate (5 - (lg_sl ([.ref (ad 6 0), .int x1, .int x2])).length) Slot.unset).toArray = ls at hl ⊢
  have hl : lv_has ls 5 [(0, .ref (ad 6 0)), (1, .int x1), (2, .int x2)] := hl
  let WW : Heap → List Loc → JFrame → Prop := fun H locs g => W p l e (headSpec [Cond.code yX1_rankOf cX1_rankOf 5 (some .int)] { frames := 0, cells := 0, slots := 0, locals := 0 }).room s m [.ref (ad 6 0), .int x1, .int x2].toArray below meth c H locs 0 0 (MQ below (QI z ad (GC z ad N X u9) r9) [.ref (ad 6 0), .int x1, .int x2].toArray s 0 0 (zA z)) g
  have hL5b : ∀ (ih5 : Int32 → Int32 → Int32 → Int32 → St → Option (Int32 × St)) (hih5 : ∀ (y4 : Int32) (y3 : Int32) (y1 : Int32) (y2 : Int32) (u : St) (H : Heap) (locs : List Loc) (ls : Array Slot), lv_has ls 5 [(4, .int y4), (3, .int y3), (0, .ref (ad 6 0)), (1, .int y1), (2, .int y2)] → GW z ad (GC z ad N X u) H → va_S (zA z) s.heap H locs → ih5 y4 y3 y1 y2 u = some (r9, u9) → WW H locs (F0 m 5 ls [])), ∀ (y4 : Int32) (y3 : Int32) (y1 : Int32) (y2 : Int32) (u : St) (H : Heap) (locs : List Loc) (ls : Array Slot), lv_has ls 5 [(4, .int y4), (3, .int y3), (0, .ref (ad 6 0)), (1, .int y1), (2, .int y2)] → GW z ad (GC z ad N X u) H → va_S (zA z) s.heap H locs → f_X1_rankOf_L5b N ih5 y4 y3 y1 y2 u = some (r9, u9) → WW H locs (F0 m 5 ls []) := by
    intro ih5 hih5 y4 y3 y1 y2 u H locs ls hl hW hS h
    change W p l e _ s m _ below meth c H locs 0 0 _ (F0 m 5 ls [])
    unfold f_X1_rankOf_L5b at h
    refine lv_iload hx hb dX1_rankOf_5 (lv_at hl 0 rfl) ?_
    refine lv_aload_n hx hb dX1_rankOf_7 rfl (lv_at hl 2 rfl) ?_
    refine nb_get hx hb hT hK hown hW fl_X1_47 kr_6 (v := .int (u 64 0 0)) rfl dX1_rankOf_8 ?_
    refine lv_icmp_ge (tgt := 39) hx hb dX1_rankOf_11 (by decide) (fun c1 => ?_) (fun c1 => ?_)
    · replace h := ite_t h c1
      refine lv_iconst (v := 1) hx hb dX1_rankOf_39 (by decide) ?_
      refine lv_iload_n hx hb dX1_rankOf_40 rfl (lv_at hl 1 rfl) ?_
      refine lv_iadd hx hb dX1_rankOf_41 ?_
      exact ne_iret hx hb hr rfl hlocks hW hS dX1_rankOf_42 h
    · replace h := ite_f h c1
      refine lv_aload_n hx hb dX1_rankOf_14 rfl (lv_at hl 2 rfl) ?_
      refine nb_get hx hb hT hK hown hW fl_X1_9 kr_6 (v := .ref (ad 16 0)) rfl dX1_rankOf_15 ?_
      refine lv_iload hx hb dX1_rankOf_18 (lv_at hl 0 rfl) ?_
      obtain ⟨g2, h⟩ := gd_s h
      refine nb_iald hx hb hK hW 0 kr_16 rfl (inb_in g2) dX1_rankOf_20 ?_
      refine lv_bipush (v := 15) hx hb dX1_rankOf_21 (by decide) ?_
      refine lv_iload_n hx hb dX1_rankOf_23 rfl (lv_at hl 3 rfl) ?_
      refine lv_imul hx hb dX1_rankOf_24 ?_
      refine lv_iadd hx hb dX1_rankOf_25 ?_
      refine lv_iload_n hx hb dX1_rankOf_26 rfl (lv_at hl 4 rfl) ?_
      refine lv_icmp_le (tgt := 33) hx hb dX1_rankOf_27 (by decide) (fun c3 => ?_) (fun c3 => ?_)
      · replace h := ite_t h c3
        obtain ⟨v4, ev4, h⟩ := nm_s h
        refine lv_iinc (v := v4) (lv' := [(4, .int v4), (3, .int y3), (0, .ref (ad 6 0)), (1, .int y1), (2, .int y2)]) hx hb dX1_rankOf_33 hl (k := 0) rfl (by rw [ev4]; rfl) (by decide) rfl (fun ls hl => ?_)
        refine lv_goto (tgt := 5) hx hb dX1_rankOf_36 (by decide) ?_
        exact hih5 _ _ _ _ _ _ _ _ (lv_sub hl [0, 1, 2, 3, 4] rfl) hW hS h
      · replace h := ite_f h c3
        obtain ⟨v5, ev5, h⟩ := nm_s h
        refine lv_iinc (v := v5) (lv' := [(3, .int v5), (4, .int y4), (0, .ref (ad 6 0)), (1, .int y1), (2, .int y2)]) hx hb dX1_rankOf_30 hl (k := 1) rfl (by rw [ev5]; rfl) (by decide) rfl (fun ls hl => ?_)
        obtain ⟨v6, ev6, h⟩ := nm_s h
        refine lv_iinc (v := v6) (lv' := [(4, .int v6), (3, .int v5), (0, .ref (ad 6 0)), (1, .int y1), (2, .int y2)]) hx hb dX1_rankOf_33 hl (k := 1) rfl (by rw [ev6]; rfl) (by decide) rfl (fun ls hl => ?_)
        refine lv_goto (tgt := 5) hx hb dX1_rankOf_36 (by decide) ?_
        exact hih5 _ _ _ _ _ _ _ _ (lv_sub hl [0, 1, 2, 3, 4] rfl) hW hS h
  have hL5 : ∀ (n : Nat), ∀ (y4 : Int32) (y3 : Int32) (y1 : Int32) (y2 : Int32) (u : St) (H : Heap) (locs : List Loc) (ls : Array Slot), lv_has ls 5 [(4, .int y4), (3, .int y3), (0, .ref (ad 6 0)), (1, .int y1), (2, .int y2)] → GW z ad (GC z ad N X u) H → va_S (zA z) s.heap H locs → f_X1_rankOf_L5 N n y4 y3 y1 y2 u = some (r9, u9) → WW H locs (F0 m 5 ls []) := by
    intro n
    induction n with
    | zero => intro y4 y3 y1 y2 u H locs ls hl hW hS h; exact absurd h (by intro q; cases q)
    | succ n ihn => intro y4 y3 y1 y2 u H locs ls hl hW hS h; exact hL5b (f_X1_rankOf_L5 N n) ihn y4 y3 y1 y2 u H locs ls hl hW hS h
  unfold f_X1_rankOf at h
  refine lv_iconst (v := 0) hx hb dX1_rankOf_0 (by decide) ?_
  refine lv_istore_n (lv' := [(3, .int 0), (0, .ref (ad 6 0)), (1, .int x1), (2, .int x2)]) hx hb dX1_rankOf_1 rfl hl (by decide) rfl (fun ls hl => ?_)
  refine lv_iconst (v := 0) hx hb dX1_rankOf_2 (by decide) ?_
  refine lv_istore (lv' := [(4, .int 0), (3, .int 0), (0, .ref (ad 6 0)), (1, .int x1), (2, .int x2)]) hx hb dX1_rankOf_3 hl (by decide) rfl (fun ls hl => ?_)
  exact hL5 1000000 _ _ _ _ _ _ _ _ (lv_sub hl [0, 1, 2, 3, 4] rfl) hW hS h
/-- Panyard$Contest.enter -/
def f_X1_enter_B49 (N : Nt) (y3 : Int32) (w0 : Int32) (u : St) : Option (Int32 × St) :=
  gd (w0 = 0 ∨ w0 = 1) <|
  nm (sset u 66 0 0 w0) fun u10 =>
  nm (sset u10 65 0 0 ((u10 65 0 0) + 1)) fun u12 =>
  some (y3, u12)
def f_X1_enter_B48 (N : Nt) (y3 : Int32) (u : St) : Option (Int32 × St) :=
  f_X1_enter_B49 N y3 0 u
def f_X1_enter (N : Nt) (u : St) (x1 : Int32) : Option (Int32 × St) :=
  nm (u 65 0 0) fun v1 =>
  sb (f_X1_rankOf N u v1 x1) fun r2 u4 =>
  gd (inb v1 3) <|
  nm (sset u4 62 0 (ix v1) x1) fun u6 =>
  nm (sset u6 63 0 (ix v1) r2) fun u7 =>
  if 2 ≤ v1 then
    f_X1_enter_B48 N r2 u7
  else
    gd (inb v1 2) <|
    if r2 ≤ (([4, 2] : List Int32).getD (ix v1) 0) then
      f_X1_enter_B48 N r2 u7
    else
      f_X1_enter_B49 N r2 1 u7
set_option maxRecDepth 100000 in
set_option maxHeartbeats 4000000 in
theorem c_X1_enter (l : Launch) (z : Zt) (ad : Ad) (N : Nt) (X : Gt) (u : St) (x1 : Int32) {r9 : Int32} {u9 : St} (h : f_X1_enter N u x1 = some (r9, u9)) : MC l z yX1_enter cX1_enter 4 (some .int) { frames := 1, cells := 0, slots := 0, locals := 24 } 0 0 [.ref (ad 6 0), .int x1] ad (GC z ad N X u) (QI z ad (GC z ad N X u9) r9) := by
  refine Met.ofW (cc := cX1_enter) (maxL := 4) (ret := (some .int)) (by decide) rfl ?_
  intro p e s m args below meth c s₁ B hml hv
  obtain ⟨rfl, hSW, hW⟩ := hv
  have hx := B.exec; have hb := B.bytes; have hr := B.returns; have hlocks := B.notSynchronized
  have hown : s.vm.findClass RX1 = some m.cls := findClass_of_methodNamed B.named
  obtain ⟨hT, hK, hST, hB0⟩ := id hSW
  have hS : va_S (zA z) s.heap s.heap [] := va_S.rf
  have hl := lv_entry ([.ref (ad 6 0), .int x1]) (n := 4) (Nat.le_of_ble_eq_true rfl)
  rw [lg_entry_eq]
  generalize (lg_sl ([.ref (ad 6 0), .int x1]) ++ List.replicate (4 - (lg_sl ([.ref (ad 6 0), .int x1])).length) Slot.unset).toArray = ls at hl ⊢
  have hl : lv_has ls 4 [(0, .ref (ad 6 0)), (1, .int x1)] := hl
  let WW : Heap → List Loc → JFrame → Prop := fun H locs g => W p l e (headSpec [Cond.code yX1_enter cX1_enter 4 (some .int)] { frames := 1, cells := 0, slots := 0, locals := 24 }).room s m [.ref (ad 6 0), .int x1].toArray below meth c H locs 0 0 (MQ below (QI z ad (GC z ad N X u9) r9) [.ref (ad 6 0), .int x1].toArray s 0 0 (zA z)) g
  have hB49 : ∀ (y3 : Int32) (w0 : Int32) (u : St) (H : Heap) (locs : List Loc) (ls : Array Slot), lv_has ls 4 [(3, .int y3), (0, .ref (ad 6 0))] → GW z ad (GC z ad N X u) H → va_S (zA z) s.heap H locs → f_X1_enter_B49 N y3 w0 u = some (r9, u9) → WW H locs (F0 m 49 ls [.int w0, .ref (ad 6 0)]) := by
    intro y3 w0 u H locs ls hl hW hS h
    change W p l e _ s m _ below meth c H locs 0 0 _ (F0 m 49 ls [.int w0, .ref (ad 6 0)])
    unfold f_X1_enter_B49 at h
    obtain ⟨g11, h⟩ := gd_s h
    obtain ⟨u10, eu10, h⟩ := nm_s h
    refine nb_put hx hb hT hK hown hW hS fl_X1_24 tyX1 tyX1_ok nmX1 kr_6 (v := .int w0) rfl (nbool g11).1 (nbool g11).2 (Nat.le_of_ble_eq_true rfl) ((gp_66).trans (congrArg (GC z ad N X) eu10.symm)) dX1_enter_49 (fun H locs hW hS => ?_)
    refine lv_aload_n hx hb dX1_enter_52 rfl (lv_at hl 1 rfl) ?_
    refine lv_dup hx hb dX1_enter_53 rfl ?_
    refine nb_get hx hb hT hK hown hW fl_X1_28 kr_6 (v := .int (u10 65 0 0)) rfl dX1_enter_54 ?_
    refine lv_iconst (v := 1) hx hb dX1_enter_57 (by decide) ?_
    refine lv_iadd hx hb dX1_enter_58 ?_
    obtain ⟨u12, eu12, h⟩ := nm_s h
    refine nb_put hx hb hT hK hown hW hS fl_X1_28 tyX1 tyX1_ok nmX1 kr_6 (v := .int ((u10 65 0 0) + 1)) rfl rfl rfl (Nat.le_of_ble_eq_true rfl) ((gp_65).trans (congrArg (GC z ad N X) eu12.symm)) dX1_enter_59 (fun H locs hW hS => ?_)
    refine lv_iload_n hx hb dX1_enter_62 rfl (lv_at hl 0 rfl) ?_
    exact ne_iret hx hb hr rfl hlocks hW hS dX1_enter_63 h
  have hB48 : ∀ (y3 : Int32) (u : St) (H : Heap) (locs : List Loc) (ls : Array Slot), lv_has ls 4 [(3, .int y3), (0, .ref (ad 6 0))] → GW z ad (GC z ad N X u) H → va_S (zA z) s.heap H locs → f_X1_enter_B48 N y3 u = some (r9, u9) → WW H locs (F0 m 48 ls [.ref (ad 6 0)]) := by
    intro y3 u H locs ls hl hW hS h
    change W p l e _ s m _ below meth c H locs 0 0 _ (F0 m 48 ls [.ref (ad 6 0)])
    unfold f_X1_enter_B48 at h
    refine lv_iconst (v := 0) hx hb dX1_enter_48 (by decide) ?_
    exact hB49 _ _ _ _ _ _ (lv_sub hl [0, 1] rfl) hW hS h
  unfold f_X1_enter at h
  refine lv_aload_n hx hb dX1_enter_0 rfl (lv_at hl 0 rfl) ?_
  refine nb_get hx hb hT hK hown hW fl_X1_28 kr_6 (v := .int (u 65 0 0)) rfl dX1_enter_1 ?_
  refine lv_topi (fun v1 ev1 => ?_)
  replace h := nm_at ev1 h
  refine lv_istore_n (lv' := [(2, .int v1), (0, .ref (ad 6 0)), (1, .int x1)]) hx hb dX1_enter_4 rfl hl (by decide) rfl (fun ls hl => ?_)
  refine lv_aload_n hx hb dX1_enter_5 rfl (lv_at hl 1 rfl) ?_
  refine lv_iload_n hx hb dX1_enter_6 rfl (lv_at hl 0 rfl) ?_
  refine lv_iload_n hx hb dX1_enter_7 rfl (lv_at hl 2 rfl) ?_
  obtain ⟨r2, u4, h3, h⟩ := sb_s h
  refine nb_ci (nb_runV (As := [.int v1, .int x1]) (rest := []) hx hb hml hown hSW hS hW (c_X1_rankOf l z ad N X u v1 x1 h3) mf_X1_rankOf lk_X1_41 kr_6 rfl rfl ⟨rfl, rfl⟩ ⟨Nat.le_of_ble_eq_true rfl, Nat.le_of_ble_eq_true rfl⟩ hl.1 (Nat.le_of_ble_eq_true rfl) dX1_enter_8 ⟨Nat.le_of_ble_eq_true rfl, Nat.le_of_ble_eq_true rfl⟩) hS (fun H locs (hW : GW z ad (GC z ad N X u4) H) hS => ?_)
  refine lv_istore_n (lv' := [(3, .int r2), (2, .int v1), (0, .ref (ad 6 0)), (1, .int x1)]) hx hb dX1_enter_11 rfl hl (by decide) rfl (fun ls hl => ?_)
  refine lv_aload_n hx hb dX1_enter_12 rfl (lv_at hl 2 rfl) ?_
  refine nb_get hx hb hT hK hown hW fl_X1_18 kr_6 (v := .ref (ad 18 0)) rfl dX1_enter_13 ?_
  refine lv_iload_n hx hb dX1_enter_16 rfl (lv_at hl 1 rfl) ?_
  refine lv_iload_n hx hb dX1_enter_17 rfl (lv_at hl 3 rfl) ?_
  obtain ⟨g5, h⟩ := gd_s h
  obtain ⟨u6, eu6, h⟩ := nm_s h
  refine nb_iast hx hb hK hW hS 0 kr_18 rfl (inb_in g5) ((gp_62).trans (congrArg (GC z ad N X) eu6.symm)) dX1_enter_18 (fun H locs hW hS => ?_)
  refine lv_aload_n hx hb dX1_enter_19 rfl (lv_at hl 2 rfl) ?_
  refine nb_get hx hb hT hK hown hW fl_X1_21 kr_6 (v := .ref (ad 19 0)) rfl dX1_enter_20 ?_
  refine lv_iload_n hx hb dX1_enter_23 rfl (lv_at hl 1 rfl) ?_
  refine lv_iload_n hx hb dX1_enter_24 rfl (lv_at hl 0 rfl) ?_
  obtain ⟨u7, eu7, h⟩ := nm_s h
  refine nb_iast hx hb hK hW hS 0 kr_19 rfl (inb_in g5) ((gp_63).trans (congrArg (GC z ad N X) eu7.symm)) dX1_enter_25 (fun H locs hW hS => ?_)
  refine lv_aload_n hx hb dX1_enter_26 rfl (lv_at hl 2 rfl) ?_
  refine lv_iload_n hx hb dX1_enter_27 rfl (lv_at hl 1 rfl) ?_
  obtain ⟨t8, hZt8, hAt8⟩ := hST.2.2.2 _ (List.mem_of_getElem? (i := 1) rfl)
  refine va_getsN (host := "Panyard") hx hb hZt8 hS hown (hT.use (List.mem_of_getElem? (i := 931) (by decide +kernel)) rfl) (fun _ h9 => h9) dX1_enter_28 ?_
  refine va_tlen hx hb hAt8 hS (v := 2) rfl dX1_enter_31 ?_
  refine lv_icmp_ge (tgt := 48) hx hb dX1_enter_32 (by decide) (fun c09 => ?_) (fun c09 => ?_)
  · replace h := ite_t h c09
    exact hB48 _ _ _ _ _ (lv_sub hl [0, 2] rfl) hW hS h
  · replace h := ite_f h c09
    refine lv_iload_n hx hb dX1_enter_35 rfl (lv_at hl 0 rfl) ?_
    obtain ⟨t13, hZt13, hAt13⟩ := hST.2.2.2 _ (List.mem_of_getElem? (i := 1) rfl)
    refine va_getsN (host := "Panyard") hx hb hZt13 hS hown (hT.use (List.mem_of_getElem? (i := 931) (by decide +kernel)) rfl) (fun _ h9 => h9) dX1_enter_36 ?_
    refine lv_iload_n hx hb dX1_enter_39 rfl (lv_at hl 1 rfl) ?_
    obtain ⟨g14, h⟩ := gd_s h
    refine va_ti hx hb hAt13 hS (inb_in g14) (v := .int (([4, 2] : List Int32).getD (ix v1) 0)) rfl dX1_enter_40 ?_
    refine lv_icmp_le (tgt := 48) hx hb dX1_enter_41 (by decide) (fun c15 => ?_) (fun c15 => ?_)
    · replace h := ite_t h c15
      exact hB48 _ _ _ _ _ (lv_sub hl [0, 2] rfl) hW hS h
    · replace h := ite_f h c15
      refine lv_iconst (v := 1) hx hb dX1_enter_44 (by decide) ?_
      refine lv_goto (tgt := 49) hx hb dX1_enter_45 (by decide) ?_
      exact hB49 _ _ _ _ _ _ (lv_sub hl [0, 2] rfl) hW hS h
