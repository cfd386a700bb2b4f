/-- Panyard.bestTeach -/
def f_X7_bestTeach_L36b (N : Nt) (ih36 : Int32 → Int32 → Int32 → Int32 → Int32 → St → Option (Except String Int32 × St)) (y5 : Int32) (y4 : Int32) (y3 : Int32) (y1 : Int32) (y2 : Int32) (u : St) : Option (Except String Int32 × St) :=
  if (u 1 0 0) ≤ y5 then
    some (.ok y3, u)
  else
    gd (inb y5 8) <|
    gd ((ix y5) < N 14) <|
    gd (inb y1 8) <|
    gd ((ix y1) < N 15) <|
    if (u 20 (ix y5) 0) = (u 30 (ix y1) 0) then
      sb (f_X7_heardIfTaught N u y1 y5 y2) fun r20 u22 =>
      if r20 ≤ y4 then
        nm (y5 + 1) fun v24 =>
        ih36 v24 y4 y3 y1 y2 u22
      else
        nm (y5 + 1) fun v25 =>
        ih36 v25 r20 y5 y1 y2 u22
    else
      nm (y5 + 1) fun v19 =>
      ih36 v19 y4 y3 y1 y2 u
def f_X7_bestTeach_L36 (N : Nt) : Nat → Int32 → Int32 → Int32 → Int32 → Int32 → St → Option (Except String Int32 × St) := lp (fun _ _ _ _ _ _ => none) (f_X7_bestTeach_L36b N)
def f_X7_bestTeach (N : Nt) (u : St) (x1 : Int32) (x2 : Int32) : Option (Except String Int32 × St) :=
  xb (f_X7_requirePlayer N u x1) fun r1 u3 =>
  xb (f_X7_requireLesson N u3 x2) fun r4 u6 =>
  sb (f_X7_weigh N u6 0) fun r7 u09 =>
  sb (f_X2_copyFrom N u09 1 0) fun r10 u12 =>
  f_X7_bestTeach_L36 N 1000000 0 (-1) (-1) x1 x2 u12
set_option maxRecDepth 100000 in
set_option maxHeartbeats 4000000 in
theorem c_X7_bestTeach (l : Launch) (z : Zt) (ad : Ad) (N : Nt) (X : Gt) (u : St) (x1 : Int32) (x2 : Int32) {r9 : Int32} {u9 : St} (h : f_X7_bestTeach N u x1 x2 = some (.ok r9, u9)) : MC l z yX7_bestTeach cX7_bestTeach 7 (some .int) { frames := 5, cells := 0, slots := 0, locals := 113 } 0 0 [.ref (ad 0 0), .int x1, .int x2] ad (GC z ad N X u) (QI z ad (GC z ad N X u9) r9) := by
  refine Met.ofW (cc := cX7_bestTeach) (maxL := 7) (ret := (some .int)) (by decide) rfl ?_
  intro p e s m args below meth c s₁ B hml hv
  obtain ⟨rfl, hSW, hW⟩ := hv
  have hx := B.exec; have hb := B.bytes; have hr := B.returns; have hlocks := B.notSynchronized
  have hown : s.vm.findClass RX7 = some m.cls := findClass_of_methodNamed B.named
  obtain ⟨hT, hK, hST, hB0⟩ := id hSW
  have hS : va_S (zA z) s.heap s.heap [] := va_S.rf
  have hl := lv_entry ([.ref (ad 0 0), .int x1, .int x2]) (n := 7) (Nat.le_of_ble_eq_true rfl)
  rw [lg_entry_eq]
  generalize (lg_sl ([.ref (ad 0 0), .int x1, .int x2]) ++ List.replicate (7 - (lg_sl ([.ref (ad 0 0), .int x1, .int x2])).length) Slot.unset).toArray = ls at hl ⊢
  have hl : lv_has ls 7 [(0, .ref (ad 0 0)), (1, .int x1), (2, .int x2)] := hl
  let WW : Heap → List Loc → JFrame → Prop := fun H locs g => W p l e (headSpec [Cond.code yX7_bestTeach cX7_bestTeach 7 (some .int)] { frames := 5, cells := 0, slots := 0, locals := 113 }).room s m [.ref (ad 0 0), .int x1, .int x2].toArray below meth c H locs 0 0 (MQ below (QI z ad (GC z ad N X u9) r9) [.ref (ad 0 0), .int x1, .int x2].toArray s 0 0 (zA z)) g
  have hL36b : ∀ (ih36 : Int32 → Int32 → Int32 → Int32 → Int32 → St → Option (Except String Int32 × St)) (hih36 : ∀ (y5 : Int32) (y4 : Int32) (y3 : Int32) (y1 : Int32) (y2 : Int32) (u : St) (H : Heap) (locs : List Loc) (ls : Array Slot), lv_has ls 7 [(5, .int y5), (4, .int y4), (3, .int y3), (0, .ref (ad 0 0)), (1, .int y1), (2, .int y2)] → GW z ad (GC z ad N X u) H → va_S (zA z) s.heap H locs → ih36 y5 y4 y3 y1 y2 u = some (.ok r9, u9) → WW H locs (F0 m 36 ls [])), ∀ (y5 : Int32) (y4 : Int32) (y3 : Int32) (y1 : Int32) (y2 : Int32) (u : St) (H : Heap) (locs : List Loc) (ls : Array Slot), lv_has ls 7 [(5, .int y5), (4, .int y4), (3, .int y3), (0, .ref (ad 0 0)), (1, .int y1), (2, .int y2)] → GW z ad (GC z ad N X u) H → va_S (zA z) s.heap H locs → f_X7_bestTeach_L36b N ih36 y5 y4 y3 y1 y2 u = some (.ok r9, u9) → WW H locs (F0 m 36 ls []) := by
    intro ih36 hih36 y5 y4 y3 y1 y2 u H locs ls hl hW hS h
    change W p l e _ s m _ below meth c H locs 0 0 _ (F0 m 36 ls [])
    unfold f_X7_bestTeach_L36b at h
    refine lv_iload hx hb dX7_bestTeach_36 (lv_at hl 0 rfl) ?_
    refine lv_aload_n hx hb dX7_bestTeach_38 rfl (lv_at hl 3 rfl) ?_
    refine nb_get hx hb hT hK hown hW fl_X7_133 kr_0 (v := .int (u 1 0 0)) rfl dX7_bestTeach_39 ?_
    refine lv_icmp_ge (tgt := 97) hx hb dX7_bestTeach_42 (by decide) (fun c13 => ?_) (fun c13 => ?_)
    · replace h := ite_t h c13
      refine lv_iload_n hx hb dX7_bestTeach_97 rfl (lv_at hl 2 rfl) ?_
      exact ne_iretX hx hb hr rfl hlocks hW hS dX7_bestTeach_98 h
    · replace h := ite_f h c13
      refine lv_aload_n hx hb dX7_bestTeach_45 rfl (lv_at hl 3 rfl) ?_
      refine nb_get hx hb hT hK hown hW fl_X7_17 kr_0 (v := .ref (ad 2 0)) rfl dX7_bestTeach_46 ?_
      refine lv_iload hx hb dX7_bestTeach_49 (lv_at hl 0 rfl) ?_
      obtain ⟨g14, h⟩ := gd_s h
      obtain ⟨g15, h⟩ := gd_s h
      refine nb_aald hx hb hK hW 3 kr_2 rfl rfl (inb_in g14) (a := ad 14 (ix y5)) (qrow_at g15) dX7_bestTeach_51 ?_
      refine nb_get hx hb hT hK hown hW fl_X7_208 (kr_14 g15) (v := .int (u 20 (ix y5) 0)) rfl dX7_bestTeach_52 ?_
      refine lv_aload_n hx hb dX7_bestTeach_55 rfl (lv_at hl 3 rfl) ?_
      refine nb_get hx hb hT hK hown hW fl_X7_23 kr_0 (v := .ref (ad 3 0)) rfl dX7_bestTeach_56 ?_
      refine lv_iload_n hx hb dX7_bestTeach_59 rfl (lv_at hl 4 rfl) ?_
      obtain ⟨g16, h⟩ := gd_s h
      obtain ⟨g17, h⟩ := gd_s h
      refine nb_aald hx hb hK hW 4 kr_3 rfl rfl (inb_in g16) (a := ad 15 (ix y1)) (qrow_at g17) dX7_bestTeach_60 ?_
      refine nb_get hx hb hT hK hown hW fl_X7_190 (kr_15 g17) (v := .int (u 30 (ix y1) 0)) rfl dX7_bestTeach_61 ?_
      refine lv_icmp_ne (tgt := 91) hx hb dX7_bestTeach_64 (by decide) (fun c18 => ?_) (fun c18 => ?_)
      · replace h := ite_f h c18
        obtain ⟨v19, ev19, h⟩ := nm_s h
        refine lv_iinc (v := v19) (lv' := [(5, .int v19), (4, .int y4), (3, .int y3), (0, .ref (ad 0 0)), (1, .int y1), (2, .int y2)]) hx hb dX7_bestTeach_91 hl (k := 0) rfl (by rw [ev19]; rfl) (by decide) rfl (fun ls hl => ?_)
        refine lv_goto (tgt := 36) hx hb dX7_bestTeach_94 (by decide) ?_
        exact hih36 _ _ _ _ _ _ _ _ _ (lv_sub hl [0, 1, 2, 3, 4, 5] rfl) hW hS h
      · replace h := ite_t h c18
        refine lv_aload_n hx hb dX7_bestTeach_67 rfl (lv_at hl 3 rfl) ?_
        refine lv_iload_n hx hb dX7_bestTeach_68 rfl (lv_at hl 4 rfl) ?_
        refine lv_iload hx hb dX7_bestTeach_69 (lv_at hl 0 rfl) ?_
        refine lv_iload_n hx hb dX7_bestTeach_71 rfl (lv_at hl 5 rfl) ?_
        obtain ⟨r20, u22, h21, h⟩ := sb_s h
        refine nb_ci (nb_runV (As := [.int y1, .int y5, .int y2]) (rest := []) hx hb hml hown hSW hS hW (c_X7_heardIfTaught l z ad N X u y1 y5 y2 h21) mf_X7_heardIfTaught lk_X7_402 kr_0 rfl rfl ⟨rfl, rfl⟩ ⟨Nat.le_of_ble_eq_true rfl, Nat.le_of_ble_eq_true rfl⟩ hl.1 (Nat.le_of_ble_eq_true rfl) dX7_bestTeach_72 ⟨Nat.le_of_ble_eq_true rfl, Nat.le_of_ble_eq_true rfl⟩) hS (fun H locs (hW : GW z ad (GC z ad N X u22) H) hS => ?_)
        refine lv_istore (lv' := [(6, .int r20), (5, .int y5), (4, .int y4), (3, .int y3), (0, .ref (ad 0 0)), (1, .int y1), (2, .int y2)]) hx hb dX7_bestTeach_75 hl (by decide) rfl (fun ls hl => ?_)
        refine lv_iload hx hb dX7_bestTeach_77 (lv_at hl 0 rfl) ?_
        refine lv_iload hx hb dX7_bestTeach_79 (lv_at hl 2 rfl) ?_
        refine lv_icmp_le (tgt := 91) hx hb dX7_bestTeach_81 (by decide) (fun c23 => ?_) (fun c23 => ?_)
        · replace h := ite_t h c23
          obtain ⟨v24, ev24, h⟩ := nm_s h
          refine lv_iinc (v := v24) (lv' := [(5, .int v24), (6, .int r20), (4, .int y4), (3, .int y3), (0, .ref (ad 0 0)), (1, .int y1), (2, .int y2)]) hx hb dX7_bestTeach_91 hl (k := 1) rfl (by rw [ev24]; rfl) (by decide) rfl (fun ls hl => ?_)
          refine lv_goto (tgt := 36) hx hb dX7_bestTeach_94 (by decide) ?_
          exact hih36 _ _ _ _ _ _ _ _ _ (lv_sub hl [0, 2, 3, 4, 5, 6] rfl) hW hS h
        · replace h := ite_f h c23
          refine lv_iload hx hb dX7_bestTeach_84 (lv_at hl 1 rfl) ?_
          refine lv_istore_n (lv' := [(3, .int y5), (6, .int r20), (5, .int y5), (4, .int y4), (0, .ref (ad 0 0)), (1, .int y1), (2, .int y2)]) hx hb dX7_bestTeach_86 rfl hl (by decide) rfl (fun ls hl => ?_)
          refine lv_iload hx hb dX7_bestTeach_87 (lv_at hl 1 rfl) ?_
          refine lv_istore (lv' := [(4, .int r20), (3, .int y5), (6, .int r20), (5, .int y5), (0, .ref (ad 0 0)), (1, .int y1), (2, .int y2)]) hx hb dX7_bestTeach_89 hl (by decide) rfl (fun ls hl => ?_)
          obtain ⟨v25, ev25, h⟩ := nm_s h
          refine lv_iinc (v := v25) (lv' := [(5, .int v25), (4, .int r20), (3, .int y5), (6, .int r20), (0, .ref (ad 0 0)), (1, .int y1), (2, .int y2)]) hx hb dX7_bestTeach_91 hl (k := 3) rfl (by rw [ev25]; rfl) (by decide) rfl (fun ls hl => ?_)
          refine lv_goto (tgt := 36) hx hb dX7_bestTeach_94 (by decide) ?_
          exact hih36 _ _ _ _ _ _ _ _ _ (lv_sub hl [0, 1, 2, 4, 5, 6] rfl) hW hS h
  have hL36 : ∀ (n : Nat), ∀ (y5 : Int32) (y4 : Int32) (y3 : Int32) (y1 : Int32) (y2 : Int32) (u : St) (H : Heap) (locs : List Loc) (ls : Array Slot), lv_has ls 7 [(5, .int y5), (4, .int y4), (3, .int y3), (0, .ref (ad 0 0)), (1, .int y1), (2, .int y2)] → GW z ad (GC z ad N X u) H → va_S (zA z) s.heap H locs → f_X7_bestTeach_L36 N n y5 y4 y3 y1 y2 u = some (.ok r9, u9) → WW H locs (F0 m 36 ls []) := by
    intro n
    induction n with
    | zero => intro y5 y4 y3 y1 y2 u H locs ls hl hW hS h; exact absurd h (by intro q; cases q)
    | succ n ihn => intro y5 y4 y3 y1 y2 u H locs ls hl hW hS h; exact hL36b (f_X7_bestTeach_L36 N n) ihn y5 y4 y3 y1 y2 u H locs ls hl hW hS h
  unfold f_X7_bestTeach at h
  refine lv_aload_n hx hb dX7_bestTeach_0 rfl (lv_at hl 0 rfl) ?_
  refine lv_iload_n hx hb dX7_bestTeach_1 rfl (lv_at hl 1 rfl) ?_
  obtain ⟨r1, u3, h2, h⟩ := xb_s h
  refine nb_cv (nb_runV (As := [.int x1]) (rest := []) hx hb hml hown hSW hS hW (c_X7_requirePlayer l z ad N X u x1 h2) mf_X7_requirePlayer lk_X7_184 kr_0 rfl rfl ⟨rfl, rfl⟩ ⟨Nat.le_of_ble_eq_true rfl, Nat.le_of_ble_eq_true rfl⟩ hl.1 (Nat.le_of_ble_eq_true rfl) dX7_bestTeach_2 ⟨Nat.le_of_ble_eq_true rfl, Nat.le_of_ble_eq_true rfl⟩) hS (fun H locs (hW : GW z ad (GC z ad N X u3) H) hS => ?_)
  refine lv_iload_n hx hb dX7_bestTeach_5 rfl (lv_at hl 2 rfl) ?_
  obtain ⟨r4, u6, h5, h⟩ := xb_s h
  refine nb_cv (nb_runS (As := [.int x2]) (rest := []) hx hb hml hown hSW hS hW (c_X7_requireLesson l z ad N X u3 x2 h5) mf_X7_requireLesson lk_X7_205 rfl ⟨rfl, rfl⟩ ⟨Nat.le_of_ble_eq_true rfl, Nat.le_of_ble_eq_true rfl⟩ hl.1 (Nat.le_of_ble_eq_true rfl) dX7_bestTeach_6 ⟨Nat.le_of_ble_eq_true rfl, Nat.le_of_ble_eq_true rfl⟩) hS (fun H locs (hW : GW z ad (GC z ad N X u6) H) hS => ?_)
  refine lv_aload_n hx hb dX7_bestTeach_9 rfl (lv_at hl 0 rfl) ?_
  refine lv_aload_n hx hb dX7_bestTeach_10 rfl (lv_at hl 0 rfl) ?_
  refine nb_get hx hb hT hK hown hW fl_X7_37 kr_0 (v := .ref (ad 10 0)) rfl dX7_bestTeach_11 ?_
  obtain ⟨r7, u09, h8, h⟩ := sb_s h
  refine nb_cv (nb_runV (As := [.ref (ad 10 0)]) (rest := []) hx hb hml hown hSW hS hW (c_X7_weigh l z ad N X u6 0 (by decide) h8) mf_X7_weigh lk_X7_345 kr_0 rfl rfl ⟨rfl, rfl⟩ ⟨Nat.le_of_ble_eq_true rfl, Nat.le_of_ble_eq_true rfl⟩ hl.1 (Nat.le_of_ble_eq_true rfl) dX7_bestTeach_14 ⟨Nat.le_of_ble_eq_true rfl, Nat.le_of_ble_eq_true rfl⟩) hS (fun H locs (hW : GW z ad (GC z ad N X u09) H) hS => ?_)
  refine lv_aload_n hx hb dX7_bestTeach_17 rfl (lv_at hl 0 rfl) ?_
  refine nb_get hx hb hT hK hown hW fl_X7_69 kr_0 (v := .ref (ad 10 1)) rfl dX7_bestTeach_18 ?_
  refine lv_aload_n hx hb dX7_bestTeach_21 rfl (lv_at hl 0 rfl) ?_
  refine nb_get hx hb hT hK hown hW fl_X7_37 kr_0 (v := .ref (ad 10 0)) rfl dX7_bestTeach_22 ?_
  obtain ⟨r10, u12, h11, h⟩ := sb_s h
  refine nb_cv (nb_runV (As := [.ref (ad 10 0)]) (rest := []) hx hb hml hown hSW hS hW (c_X2_copyFrom l z ad N X u09 1 0 (by decide) (by decide) h11) mf_X2_copyFrom lk_X7_383 (kr_10 (by decide)) rfl rfl ⟨rfl, rfl⟩ ⟨Nat.le_of_ble_eq_true rfl, Nat.le_of_ble_eq_true rfl⟩ hl.1 (Nat.le_of_ble_eq_true rfl) dX7_bestTeach_25 ⟨Nat.le_of_ble_eq_true rfl, Nat.le_of_ble_eq_true rfl⟩) hS (fun H locs (hW : GW z ad (GC z ad N X u12) H) hS => ?_)
  refine lv_iconst (v := (-1)) hx hb dX7_bestTeach_28 (by decide) ?_
  refine lv_istore_n (lv' := [(3, .int (-1)), (0, .ref (ad 0 0)), (1, .int x1), (2, .int x2)]) hx hb dX7_bestTeach_29 rfl hl (by decide) rfl (fun ls hl => ?_)
  refine lv_iconst (v := (-1)) hx hb dX7_bestTeach_30 (by decide) ?_
  refine lv_istore (lv' := [(4, .int (-1)), (3, .int (-1)), (0, .ref (ad 0 0)), (1, .int x1), (2, .int x2)]) hx hb dX7_bestTeach_31 hl (by decide) rfl (fun ls hl => ?_)
  refine lv_iconst (v := 0) hx hb dX7_bestTeach_33 (by decide) ?_
  refine lv_istore (lv' := [(5, .int 0), (4, .int (-1)), (3, .int (-1)), (0, .ref (ad 0 0)), (1, .int x1), (2, .int x2)]) hx hb dX7_bestTeach_34 hl (by decide) rfl (fun ls hl => ?_)
  exact hL36 1000000 _ _ _ _ _ _ _ _ _ (lv_sub hl [0, 1, 2, 3, 4, 5] rfl) hW hS h
/-- Panyard$Pan.copyFrom -/
def f_X3_copyFrom (N : Nt) (u : St) (k0 : Nat) (k1 : Nat) : Option (Unit × St) :=
  nm (sset u 11 k0 0 (u 11 k1 0)) fun u1 =>
  nm (sset u1 12 k0 0 (u1 12 k1 0)) fun u2 =>
  nm (sset u2 13 k0 0 (u2 13 k1 0)) fun u3 =>
  nm (scpy u3 14 k1 k0 8) fun u4 =>
  some ((), u4)
set_option maxRecDepth 100000 in
set_option maxHeartbeats 4000000 in
theorem c_X3_copyFrom (l : Launch) (z : Zt) (ad : Ad) (N : Nt) (X : Gt) (u : St) (k0 : Nat) (k1 : Nat) (hk0 : vPan N k0) (hk1 : vPan N k1) {r9 : Unit} {u9 : St} (h : f_X3_copyFrom N u k0 k1 = some (r9, u9)) : MC l z yX3_copyFrom cX3_copyFrom 2 none { frames := 1, cells := 0, slots := 0, locals := 60 } 0 0 [.ref (ad 12 k0), .ref (ad 12 k1)] ad (GC z ad N X u) (QV z ad (GC z ad N X u9)) := by
  refine Met.ofW (cc := cX3_copyFrom) (maxL := 2) (ret := none) (by decide) rfl ?_
  intro p e s m args below meth c s₁ B hml hv
  obtain ⟨rfl, hSW, hW⟩ := hv
  have hx := B.exec; have hb := B.bytes; have hr := B.returns; have hlocks := B.notSynchronized
  have hown : s.vm.findClass RX3 = some m.cls := findClass_of_methodNamed B.named
  obtain ⟨hT, hK, hST, hB0⟩ := id hSW
  have hS : va_S (zA z) s.heap s.heap [] := va_S.rf
  have hl := lv_entry ([.ref (ad 12 k0), .ref (ad 12 k1)]) (n := 2) (Nat.le_of_ble_eq_true rfl)
  rw [lg_entry_eq]
  generalize (lg_sl ([.ref (ad 12 k0), .ref (ad 12 k1)]) ++ List.replicate (2 - (lg_sl ([.ref (ad 12 k0), .ref (ad 12 k1)])).length) Slot.unset).toArray = ls at hl ⊢
  have hl : lv_has ls 2 [(0, .ref (ad 12 k0)), (1, .ref (ad 12 k1))] := hl
  unfold f_X3_copyFrom at h
  refine lv_aload_n hx hb dX3_copyFrom_0 rfl (lv_at hl 0 rfl) ?_
  refine lv_aload_n hx hb dX3_copyFrom_1 rfl (lv_at hl 1 rfl) ?_
  refine nb_get hx hb hT hK hown hW fl_X3_19 (kr_12 hk1) (v := .int (u 11 k1 0)) rfl dX3_copyFrom_2 ?_
  obtain ⟨u1, eu1, h⟩ := nm_s h
  refine nb_put hx hb hT hK hown hW hS fl_X3_19 tyX3 tyX3_ok nmX3 (kr_12 hk0) (v := .int (u 11 k1 0)) rfl rfl rfl (Nat.le_of_ble_eq_true rfl) ((gp_11 hk0).trans (congrArg (GC z ad N X) eu1.symm)) dX3_copyFrom_5 (fun H locs hW hS => ?_)
  refine lv_aload_n hx hb dX3_copyFrom_8 rfl (lv_at hl 0 rfl) ?_
  refine lv_aload_n hx hb dX3_copyFrom_9 rfl (lv_at hl 1 rfl) ?_
  refine nb_get hx hb hT hK hown hW fl_X3_22 (kr_12 hk1) (v := .int (u1 12 k1 0)) rfl dX3_copyFrom_10 ?_
  obtain ⟨u2, eu2, h⟩ := nm_s h
  refine nb_put hx hb hT hK hown hW hS fl_X3_22 tyX3 tyX3_ok nmX3 (kr_12 hk0) (v := .int (u1 12 k1 0)) rfl rfl rfl (Nat.le_of_ble_eq_true rfl) ((gp_12 hk0).trans (congrArg (GC z ad N X) eu2.symm)) dX3_copyFrom_13 (fun H locs hW hS => ?_)
  refine lv_aload_n hx hb dX3_copyFrom_16 rfl (lv_at hl 0 rfl) ?_
  refine lv_aload_n hx hb dX3_copyFrom_17 rfl (lv_at hl 1 rfl) ?_
  refine nb_get hx hb hT hK hown hW fl_X3_25 (kr_12 hk1) (v := .int (u2 13 k1 0)) rfl dX3_copyFrom_18 ?_
  obtain ⟨u3, eu3, h⟩ := nm_s h
  refine nb_put hx hb hT hK hown hW hS fl_X3_25 tyX3 tyX3_ok nmX3 (kr_12 hk0) (v := .int (u2 13 k1 0)) rfl rfl rfl (Nat.le_of_ble_eq_true rfl) ((gp_13 hk0).trans (congrArg (GC z ad N X) eu3.symm)) dX3_copyFrom_21 (fun H locs hW hS => ?_)
  refine lv_aload_n hx hb dX3_copyFrom_24 rfl (lv_at hl 1 rfl) ?_
  refine nb_get hx hb hT hK hown hW fl_X3_9 (kr_12 hk1) (v := .ref (ad 13 k1)) rfl dX3_copyFrom_25 ?_
  refine lv_iconst (v := 0) hx hb dX3_copyFrom_28 (by decide) ?_
  refine lv_aload_n hx hb dX3_copyFrom_29 rfl (lv_at hl 0 rfl) ?_
  refine nb_get hx hb hT hK hown hW fl_X3_9 (kr_12 hk0) (v := .ref (ad 13 k0)) rfl dX3_copyFrom_30 ?_
  refine lv_iconst (v := 0) hx hb dX3_copyFrom_33 (by decide) ?_
  refine lv_bipush (v := 8) hx hb dX3_copyFrom_34 (by decide) ?_
  obtain ⟨u4, eu4, h⟩ := nm_s h
  refine nb_copy hx hb hml hl.1 hown hT hK hW hS 0 (kr_13 hk1) (kr_13 hk0) rfl (N9 := 8) (by decide) ⟨by decide, by decide⟩ (by decide) lk_X3_28 mf_arraycopy ⟨Nat.le_of_ble_eq_true rfl, Nat.le_of_ble_eq_true rfl⟩ ((gy_14 hk0).trans (congrArg (GC z ad N X) eu4.symm)) dX3_copyFrom_36 (fun H locs hW hS => ?_)
  exact ne_vret hx hb hr hlocks hW hS dX3_copyFrom_39 h
/-- Panyard.blowsFor -/
def f_X7_blowsFor (N : Nt) (u : St) (x1 : Int32) : Option (Except String Int32 × St) :=
  xb (f_X7_requirePan N u x1) fun r1 u3 =>
  gd (inb x1 6) <|
  gd ((ix x1) < N 12) <|
  sb (f_X3_copyFrom N u3 6 (ix x1)) fun r6 u8 =>
  sb (f_X3_tuneUpTo N u8 6 40) fun r09 u11 =>
  sb (f_X3_isCracked N u11 6) fun r12 u14 =>
  if r12 = 0 then
    sb (f_X3_needsTuner N u14 6) fun r16 u18 =>
    if r16 = 0 then
      some (.ok r09, u18)
    else
      some (.ok (-1), u18)
  else
    some (.ok (-1), u14)
set_option maxRecDepth 100000 in
set_option maxHeartbeats 4000000 in
theorem c_X7_blowsFor (l : Launch) (z : Zt) (ad : Ad) (N : Nt) (X : Gt) (u : St) (x1 : Int32) {r9 : Int32} {u9 : St} (h : f_X7_blowsFor N u x1 = some (.ok r9, u9)) : MC l z yX7_blowsFor cX7_blowsFor 3 (some .int) { frames := 5, cells := 0, slots := 0, locals := 110 } 0 0 [.ref (ad 0 0), .int x1] ad (GC z ad N X u) (QI z ad (GC z ad N X u9) r9) := by
  refine Met.ofW (cc := cX7_blowsFor) (maxL := 3) (ret := (some .int)) (by decide) rfl ?_
  intro p e s m args below meth c s₁ B hml hv
  obtain ⟨rfl, hSW, hW⟩ := hv
  have hx := B.exec; have hb := B.bytes; have hr := B.returns; have hlocks := B.notSynchronized
  have hown : s.vm.findClass RX7 = some m.cls := findClass_of_methodNamed B.named
  obtain ⟨hT, hK, hST, hB0⟩ := id hSW
  have hS : va_S (zA z) s.heap s.heap [] := va_S.rf
  have hl := lv_entry ([.ref (ad 0 0), .int x1]) (n := 3) (Nat.le_of_ble_eq_true rfl)
  rw [lg_entry_eq]
  generalize (lg_sl ([.ref (ad 0 0), .int x1]) ++ List.replicate (3 - (lg_sl ([.ref (ad 0 0), .int x1])).length) Slot.unset).toArray = ls at hl ⊢
  have hl : lv_has ls 3 [(0, .ref (ad 0 0)), (1, .int x1)] := hl
  unfold f_X7_blowsFor at h
  refine lv_aload_n hx hb dX7_blowsFor_0 rfl (lv_at hl 0 rfl) ?_
  refine lv_iload_n hx hb dX7_blowsFor_1 rfl (lv_at hl 1 rfl) ?_
  obtain ⟨r1, u3, h2, h⟩ := xb_s h
  refine nb_cv (nb_runV (As := [.int x1]) (rest := []) hx hb hml hown hSW hS hW (c_X7_requirePan l z ad N X u x1 h2) mf_X7_requirePan lk_X7_90 kr_0 rfl rfl ⟨rfl, rfl⟩ ⟨Nat.le_of_ble_eq_true rfl, Nat.le_of_ble_eq_true rfl⟩ hl.1 (Nat.le_of_ble_eq_true rfl) dX7_blowsFor_2 ⟨Nat.le_of_ble_eq_true rfl, Nat.le_of_ble_eq_true rfl⟩) hS (fun H locs (hW : GW z ad (GC z ad N X u3) H) hS => ?_)
  refine lv_aload_n hx hb dX7_blowsFor_5 rfl (lv_at hl 0 rfl) ?_
  refine nb_get hx hb hT hK hown hW fl_X7_62 kr_0 (v := .ref (ad 12 6)) rfl dX7_blowsFor_6 ?_
  refine lv_aload_n hx hb dX7_blowsFor_9 rfl (lv_at hl 0 rfl) ?_
  refine nb_get hx hb hT hK hown hW fl_X7_11 kr_0 (v := .ref (ad 1 0)) rfl dX7_blowsFor_10 ?_
  refine lv_iload_n hx hb dX7_blowsFor_13 rfl (lv_at hl 1 rfl) ?_
  obtain ⟨g4, h⟩ := gd_s h
  obtain ⟨g5, h⟩ := gd_s h
  refine nb_aald hx hb hK hW 2 kr_1 rfl rfl (inb_in g4) (a := ad 12 (ix x1)) (qrow_at g5) dX7_blowsFor_14 ?_
  obtain ⟨r6, u8, h7, h⟩ := sb_s h
  refine nb_cv (nb_runV (As := [.ref (ad 12 (ix x1))]) (rest := []) hx hb hml hown hSW hS hW (c_X3_copyFrom l z ad N X u3 6 (ix x1) (Or.inr rfl) (Or.inl g5) h7) mf_X3_copyFrom lk_X7_406 (kr_12 (Or.inr rfl)) rfl rfl ⟨rfl, rfl⟩ ⟨Nat.le_of_ble_eq_true rfl, Nat.le_of_ble_eq_true rfl⟩ hl.1 (Nat.le_of_ble_eq_true rfl) dX7_blowsFor_15 ⟨Nat.le_of_ble_eq_true rfl, Nat.le_of_ble_eq_true rfl⟩) hS (fun H locs (hW : GW z ad (GC z ad N X u8) H) hS => ?_)
  refine lv_aload_n hx hb dX7_blowsFor_18 rfl (lv_at hl 0 rfl) ?_
  refine nb_get hx hb hT hK hown hW fl_X7_62 kr_0 (v := .ref (ad 12 6)) rfl dX7_blowsFor_19 ?_
  refine lv_bipush (v := 40) hx hb dX7_blowsFor_22 (by decide) ?_
  obtain ⟨r09, u11, h10, h⟩ := sb_s h
  refine nb_ci (nb_runV (As := [.int 40]) (rest := []) hx hb hml hown hSW hS hW (c_X3_tuneUpTo l z ad N X u8 6 40 (Or.inr rfl) h10) mf_X3_tuneUpTo lk_X7_122 (kr_12 (Or.inr rfl)) rfl rfl ⟨rfl, rfl⟩ ⟨Nat.le_of_ble_eq_true rfl, Nat.le_of_ble_eq_true rfl⟩ hl.1 (Nat.le_of_ble_eq_true rfl) dX7_blowsFor_24 ⟨Nat.le_of_ble_eq_true rfl, Nat.le_of_ble_eq_true rfl⟩) hS (fun H locs (hW : GW z ad (GC z ad N X u11) H) hS => ?_)
  refine lv_istore_n (lv' := [(2, .int r09), (0, .ref (ad 0 0)), (1, .int x1)]) hx hb dX7_blowsFor_27 rfl hl (by decide) rfl (fun ls hl => ?_)
  refine lv_aload_n hx hb dX7_blowsFor_28 rfl (lv_at hl 1 rfl) ?_
  refine nb_get hx hb hT hK hown hW fl_X7_62 kr_0 (v := .ref (ad 12 6)) rfl dX7_blowsFor_29 ?_
  obtain ⟨r12, u14, h13, h⟩ := sb_s h
  refine nb_ci (nb_runV (As := []) (rest := []) hx hb hml hown hSW hS hW (c_X3_isCracked l z ad N X u11 6 (Or.inr rfl) h13) mf_X3_isCracked lk_X7_315 (kr_12 (Or.inr rfl)) rfl rfl ⟨rfl, rfl⟩ ⟨Nat.le_of_ble_eq_true rfl, Nat.le_of_ble_eq_true rfl⟩ hl.1 (Nat.le_of_ble_eq_true rfl) dX7_blowsFor_32 ⟨Nat.le_of_ble_eq_true rfl, Nat.le_of_ble_eq_true rfl⟩) hS (fun H locs (hW : GW z ad (GC z ad N X u14) H) hS => ?_)
  refine lv_if_ne (tgt := 48) hx hb dX7_blowsFor_35 (by decide) (fun c15 => ?_) (fun c15 => ?_)
  · replace h := ite_f h c15
    refine lv_iconst (v := (-1)) hx hb dX7_blowsFor_48 (by decide) ?_
    refine lv_goto (tgt := 53) hx hb dX7_blowsFor_49 (by decide) ?_
    exact ne_iretX hx hb hr rfl hlocks hW hS dX7_blowsFor_53 h
  · replace h := ite_t h c15
    refine lv_aload_n hx hb dX7_blowsFor_38 rfl (lv_at hl 1 rfl) ?_
    refine nb_get hx hb hT hK hown hW fl_X7_62 kr_0 (v := .ref (ad 12 6)) rfl dX7_blowsFor_39 ?_
    obtain ⟨r16, u18, h17, h⟩ := sb_s h
    refine nb_ci (nb_runV (As := []) (rest := []) hx hb hml hown hSW hS hW (c_X3_needsTuner l z ad N X u14 6 (Or.inr rfl) h17) mf_X3_needsTuner lk_X7_409 (kr_12 (Or.inr rfl)) rfl rfl ⟨rfl, rfl⟩ ⟨Nat.le_of_ble_eq_true rfl, Nat.le_of_ble_eq_true rfl⟩ hl.1 (Nat.le_of_ble_eq_true rfl) dX7_blowsFor_42 ⟨Nat.le_of_ble_eq_true rfl, Nat.le_of_ble_eq_true rfl⟩) hS (fun H locs (hW : GW z ad (GC z ad N X u18) H) hS => ?_)
    refine lv_if_eq (tgt := 52) hx hb dX7_blowsFor_45 (by decide) (fun c19 => ?_) (fun c19 => ?_)
    · replace h := ite_t h c19
      refine lv_iload_n hx hb dX7_blowsFor_52 rfl (lv_at hl 0 rfl) ?_
      exact ne_iretX hx hb hr rfl hlocks hW hS dX7_blowsFor_53 h
    · replace h := ite_f h c19
      refine lv_iconst (v := (-1)) hx hb dX7_blowsFor_48 (by decide) ?_
      refine lv_goto (tgt := 53) hx hb dX7_blowsFor_49 (by decide) ?_
      exact ne_iretX hx hb hr rfl hlocks hW hS dX7_blowsFor_53 h
/-- Panyard.digestPans -/
def f_X7_digestPans_L48b (N : Nt) (ih5 : Int32 → Int64 → St → Option (Except String Int64 × St)) (ih48 : Int32 → Int32 → Int64 → St → Option (Except String Int64 × St)) (y6 : Int32) (y5 : Int32) (y3 : Int64) (u : St) : Option (Except String Int64 × St) :=
  if 8 ≤ y6 then
    xb (f_X7_blowsFor N u y5) fun r4 u6 =>
    nm ((y3 * 31) + r4.toInt64) fun v7 =>
    nm (y5 + 1) fun v8 =>
    ih5 v8 v7 u6
  else
    xb (f_X7_off N u y5 y6) fun r09 u11 =>
    nm ((y3 * 31) + r09.toInt64) fun v12 =>
    nm (y6 + 1) fun v13 =>
    ih48 v13 y5 v12 u11
def f_X7_digestPans_L48 (N : Nt) (ih5 : Int32 → Int64 → St → Option (Except String Int64 × St)) : Nat → Int32 → Int32 → Int64 → St → Option (Except String Int64 × St) := lp (fun _ _ _ _ => none) (f_X7_digestPans_L48b N ih5)
def f_X7_digestPans_L17b (N : Nt) (ih5 : Int32 → Int64 → St → Option (Except String Int64 × St)) (ih17 : Int32 → Int32 → Int64 → St → Option (Except String Int64 × St)) (y6 : Int32) (y5 : Int32) (y3 : Int64) (u : St) : Option (Except String Int64 × St) :=
  if 4 < y6 then
    f_X7_digestPans_L48 N ih5 1000000 0 y5 y3 u
  else
    xb (f_X7_ofPan N u y5 y6) fun r14 u16 =>
    nm ((y3 * 31) + r14.toInt64) fun v17 =>
    nm (y6 + 1) fun v18 =>
    ih17 v18 y5 v17 u16
def f_X7_digestPans_L17 (N : Nt) (ih5 : Int32 → Int64 → St → Option (Except String Int64 × St)) : Nat → Int32 → Int32 → Int64 → St → Option (Except String Int64 × St) := lp (fun _ _ _ _ => none) (f_X7_digestPans_L17b N ih5)
def f_X7_digestPans_L5b (N : Nt) (ih5 : Int32 → Int64 → St → Option (Except String Int64 × St)) (y5 : Int32) (y3 : Int64) (u : St) : Option (Except String Int64 × St) :=
  if (u 0 0 0) ≤ y5 then
    some (.ok y3, u)
  else
    f_X7_digestPans_L17 N ih5 1000000 0 y5 y3 u
def f_X7_digestPans_L5 (N : Nt) : Nat → Int32 → Int64 → St → Option (Except String Int64 × St) := lp (fun _ _ _ => none) (f_X7_digestPans_L5b N)
def f_X7_digestPans (N : Nt) (u : St) (x1 : Int64) : Option (Except String Int64 × St) :=
  f_X7_digestPans_L5 N 1000000 0 x1 u
set_option maxRecDepth 100000 in
set_option maxHeartbeats 4000000 in
theorem c_X7_digestPans (l : Launch) (z : Zt) (ad : Ad) (N : Nt) (X : Gt) (u : St) (x1 : Int64) {r9 : Int64} {u9 : St} (h : f_X7_digestPans N u x1 = some (.ok r9, u9)) : MC l z yX7_digestPans cX7_digestPans 7 (some .long) { frames := 6, cells := 0, slots := 0, locals := 132 } 0 0 [.ref (ad 0 0), .long x1] ad (GC z ad N X u) (QL z ad (GC z ad N X u9) r9) := by
  refine Met.ofW (cc := cX7_digestPans) (maxL := 7) (ret := (some .long)) (by decide) rfl ?_
  intro p e s m args below meth c s₁ B hml hv
  obtain ⟨rfl, hSW, hW⟩ := hv
  have hx := B.exec; have hb := B.bytes; have hr := B.returns; have hlocks := B.notSynchronized
  have hown : s.vm.findClass RX7 = some m.cls := findClass_of_methodNamed B.named
  obtain ⟨hT, hK, hST, hB0⟩ := id hSW
  have hS : va_S (zA z) s.heap s.heap [] := va_S.rf
  have hl := lv_entry ([.ref (ad 0 0), .long x1]) (n := 7) (Nat.le_of_ble_eq_true rfl)
  rw [lg_entry_eq]
  generalize (lg_sl ([.ref (ad 0 0), .long x1]) ++ List.replicate (7 - (lg_sl ([.ref (ad 0 0), .long x1])).length) Slot.unset).toArray = ls at hl ⊢
  have hl : lv_has ls 7 [(0, .ref (ad 0 0)), (1, .long x1)] := hl
  let WW : Heap → List Loc → JFrame → Prop := fun H locs g => W p l e (headSpec [Cond.code yX7_digestPans cX7_digestPans 7 (some .long)] { frames := 6, cells := 0, slots := 0, locals := 132 }).room s m [.ref (ad 0 0), .long x1].toArray below meth c H locs 0 0 (MQ below (QL z ad (GC z ad N X u9) r9) [.ref (ad 0 0), .long x1].toArray s 0 0 (zA z)) g
  have hL48b : ∀ (ih5 : Int32 → Int64 → St → Option (Except String Int64 × St)) (hih5 : ∀ (y5 : Int32) (y3 : Int64) (u : St) (H : Heap) (locs : List Loc) (ls : Array Slot), lv_has ls 7 [(5, .int y5), (3, .long y3), (0, .ref (ad 0 0))] → GW z ad (GC z ad N X u) H → va_S (zA z) s.heap H locs → ih5 y5 y3 u = some (.ok r9, u9) → WW H locs (F0 m 5 ls [])), ∀ (ih48 : Int32 → Int32 → Int64 → St → Option (Except String Int64 × St)) (hih48 : ∀ (y6 : Int32) (y5 : Int32) (y3 : Int64) (u : St) (H : Heap) (locs : List Loc) (ls : Array Slot), lv_has ls 7 [(6, .int y6), (5, .int y5), (3, .long y3), (0, .ref (ad 0 0))] → GW z ad (GC z ad N X u) H → va_S (zA z) s.heap H locs → ih48 y6 y5 y3 u = some (.ok r9, u9) → WW H locs (F0 m 48 ls [])), ∀ (y6 : Int32) (y5 : Int32) (y3 : Int64) (u : St) (H : Heap) (locs : List Loc) (ls : Array Slot), lv_has ls 7 [(6, .int y6), (5, .int y5), (3, .long y3), (0, .ref (ad 0 0))] → GW z ad (GC z ad N X u) H → va_S (zA z) s.heap H locs → f_X7_digestPans_L48b N ih5 ih48 y6 y5 y3 u = some (.ok r9, u9) → WW H locs (F0 m 48 ls []) := by
    intro ih5 hih5 ih48 hih48 y6 y5 y3 u H locs ls hl hW hS h
    change W p l e _ s m _ below meth c H locs 0 0 _ (F0 m 48 ls [])
    unfold f_X7_digestPans_L48b at h
    refine lv_iload hx hb dX7_digestPans_48 (lv_at hl 0 rfl) ?_
    refine lv_bipush (v := 8) hx hb dX7_digestPans_50 (by decide) ?_
    refine lv_icmp_ge (tgt := 77) hx hb dX7_digestPans_52 (by decide) (fun c3 => ?_) (fun c3 => ?_)
    · replace h := ite_t h c3
      refine lv_lload_n hx hb dX7_digestPans_77 rfl (lv_at hl 2 rfl) ?_
      refine lv_ldc2 (v := 31) hx hb hown (hT.use (List.mem_of_getElem? (i := 283) (by decide +kernel)) rfl) dX7_digestPans_78 ?_
      refine lv_lmul hx hb dX7_digestPans_81 ?_
      refine lv_aload_n hx hb dX7_digestPans_82 rfl (lv_at hl 3 rfl) ?_
      refine lv_iload hx hb dX7_digestPans_83 (lv_at hl 1 rfl) ?_
      obtain ⟨r4, u6, h5, h⟩ := xb_s h
      refine nb_ci (nb_runV (As := [.int y5]) (rest := [.long (y3 * 31)]) hx hb hml hown hSW hS hW (c_X7_blowsFor l z ad N X u y5 h5) mf_X7_blowsFor lk_X7_447 kr_0 rfl rfl ⟨rfl, rfl⟩ ⟨Nat.le_of_ble_eq_true rfl, Nat.le_of_ble_eq_true rfl⟩ hl.1 (Nat.le_of_ble_eq_true rfl) dX7_digestPans_85 ⟨Nat.le_of_ble_eq_true rfl, Nat.le_of_ble_eq_true rfl⟩) hS (fun H locs (hW : GW z ad (GC z ad N X u6) H) hS => ?_)
      refine lv_i2l hx hb dX7_digestPans_88 rfl ?_
      refine lv_ladd hx hb dX7_digestPans_89 ?_
      refine lv_topl (fun v7 ev7 => ?_)
      replace h := nm_at ev7 h
      refine lv_lstore_n (lv' := [(3, .long v7), (6, .int y6), (5, .int y5), (0, .ref (ad 0 0))]) hx hb dX7_digestPans_90 rfl hl (by decide) rfl (fun ls hl => ?_)
      obtain ⟨v8, ev8, h⟩ := nm_s h
      refine lv_iinc (v := v8) (lv' := [(5, .int v8), (3, .long v7), (6, .int y6), (0, .ref (ad 0 0))]) hx hb dX7_digestPans_91 hl (k := 2) rfl (by rw [ev8]; rfl) (by decide) rfl (fun ls hl => ?_)
      refine lv_goto (tgt := 5) hx hb dX7_digestPans_94 (by decide) ?_
      exact hih5 _ _ _ _ _ _ (lv_sub hl [0, 1, 3] rfl) hW hS h
    · replace h := ite_f h c3
      refine lv_lload_n hx hb dX7_digestPans_55 rfl (lv_at hl 2 rfl) ?_
      refine lv_ldc2 (v := 31) hx hb hown (hT.use (List.mem_of_getElem? (i := 283) (by decide +kernel)) rfl) dX7_digestPans_56 ?_
      refine lv_lmul hx hb dX7_digestPans_59 ?_
      refine lv_aload_n hx hb dX7_digestPans_60 rfl (lv_at hl 3 rfl) ?_
      refine lv_iload hx hb dX7_digestPans_61 (lv_at hl 1 rfl) ?_
      refine lv_iload hx hb dX7_digestPans_63 (lv_at hl 0 rfl) ?_
      obtain ⟨r09, u11, h10, h⟩ := xb_s h
      refine nb_ci (nb_runV (As := [.int y5, .int y6]) (rest := [.long (y3 * 31)]) hx hb hml hown hSW hS hW (c_X7_off l z ad N X u y5 y6 h10) mf_X7_off lk_X7_444 kr_0 rfl rfl ⟨rfl, rfl⟩ ⟨Nat.le_of_ble_eq_true rfl, Nat.le_of_ble_eq_true rfl⟩ hl.1 (Nat.le_of_ble_eq_true rfl) dX7_digestPans_65 ⟨Nat.le_of_ble_eq_true rfl, Nat.le_of_ble_eq_true rfl⟩) hS (fun H locs (hW : GW z ad (GC z ad N X u11) H) hS => ?_)
      refine lv_i2l hx hb dX7_digestPans_68 rfl ?_
      refine lv_ladd hx hb dX7_digestPans_69 ?_
      refine lv_topl (fun v12 ev12 => ?_)
      replace h := nm_at ev12 h
      refine lv_lstore_n (lv' := [(3, .long v12), (6, .int y6), (5, .int y5), (0, .ref (ad 0 0))]) hx hb dX7_digestPans_70 rfl hl (by decide) rfl (fun ls hl => ?_)
      obtain ⟨v13, ev13, h⟩ := nm_s h
      refine lv_iinc (v := v13) (lv' := [(6, .int v13), (3, .long v12), (5, .int y5), (0, .ref (ad 0 0))]) hx hb dX7_digestPans_71 hl (k := 1) rfl (by rw [ev13]; rfl) (by decide) rfl (fun ls hl => ?_)
      refine lv_goto (tgt := 48) hx hb dX7_digestPans_74 (by decide) ?_
      exact hih48 _ _ _ _ _ _ _ (lv_sub hl [0, 2, 1, 3] rfl) hW hS h
  have hL48 : ∀ (ih5 : Int32 → Int64 → St → Option (Except String Int64 × St)) (hih5 : ∀ (y5 : Int32) (y3 : Int64) (u : St) (H : Heap) (locs : List Loc) (ls : Array Slot), lv_has ls 7 [(5, .int y5), (3, .long y3), (0, .ref (ad 0 0))] → GW z ad (GC z ad N X u) H → va_S (zA z) s.heap H locs → ih5 y5 y3 u = some (.ok r9, u9) → WW H locs (F0 m 5 ls [])), ∀ (n : Nat), ∀ (y6 : Int32) (y5 : Int32) (y3 : Int64) (u : St) (H : Heap) (locs : List Loc) (ls : Array Slot), lv_has ls 7 [(6, .int y6), (5, .int y5), (3, .long y3), (0, .ref (ad 0 0))] → GW z ad (GC z ad N X u) H → va_S (zA z) s.heap H locs → f_X7_digestPans_L48 N ih5 n y6 y5 y3 u = some (.ok r9, u9) → WW H locs (F0 m 48 ls []) := by
    intro ih5 hih5 n
    induction n with
    | zero => intro y6 y5 y3 u H locs ls hl hW hS h; exact absurd h (by intro q; cases q)
    | succ n ihn => intro y6 y5 y3 u H locs ls hl hW hS h; exact hL48b ih5 hih5 (f_X7_digestPans_L48 N ih5 n) ihn y6 y5 y3 u H locs ls hl hW hS h
  have hL17b : ∀ (ih5 : Int32 → Int64 → St → Option (Except String Int64 × St)) (hih5 : ∀ (y5 : Int32) (y3 : Int64) (u : St) (H : Heap) (locs : List Loc) (ls : Array Slot), lv_has ls 7 [(5, .int y5), (3, .long y3), (0, .ref (ad 0 0))] → GW z ad (GC z ad N X u) H → va_S (zA z) s.heap H locs → ih5 y5 y3 u = some (.ok r9, u9) → WW H locs (F0 m 5 ls [])), ∀ (ih17 : Int32 → Int32 → Int64 → St → Option (Except String Int64 × St)) (hih17 : ∀ (y6 : Int32) (y5 : Int32) (y3 : Int64) (u : St) (H : Heap) (locs : List Loc) (ls : Array Slot), lv_has ls 7 [(6, .int y6), (5, .int y5), (3, .long y3), (0, .ref (ad 0 0))] → GW z ad (GC z ad N X u) H → va_S (zA z) s.heap H locs → ih17 y6 y5 y3 u = some (.ok r9, u9) → WW H locs (F0 m 17 ls [])), ∀ (y6 : Int32) (y5 : Int32) (y3 : Int64) (u : St) (H : Heap) (locs : List Loc) (ls : Array Slot), lv_has ls 7 [(6, .int y6), (5, .int y5), (3, .long y3), (0, .ref (ad 0 0))] → GW z ad (GC z ad N X u) H → va_S (zA z) s.heap H locs → f_X7_digestPans_L17b N ih5 ih17 y6 y5 y3 u = some (.ok r9, u9) → WW H locs (F0 m 17 ls []) := by
    intro ih5 hih5 ih17 hih17 y6 y5 y3 u H locs ls hl hW hS h
    change W p l e _ s m _ below meth c H locs 0 0 _ (F0 m 17 ls [])
    unfold f_X7_digestPans_L17b at h
    refine lv_iload hx hb dX7_digestPans_17 (lv_at hl 0 rfl) ?_
    refine lv_iconst (v := 4) hx hb dX7_digestPans_19 (by decide) ?_
    refine lv_icmp_gt (tgt := 45) hx hb dX7_digestPans_20 (by decide) (fun c2 => ?_) (fun c2 => ?_)
    · replace h := ite_t h c2
      refine lv_iconst (v := 0) hx hb dX7_digestPans_45 (by decide) ?_
      refine lv_istore (lv' := [(6, .int 0), (5, .int y5), (3, .long y3), (0, .ref (ad 0 0))]) hx hb dX7_digestPans_46 hl (by decide) rfl (fun ls hl => ?_)
      exact hL48 ih5 hih5 1000000 _ _ _ _ _ _ _ (lv_sub hl [0, 1, 2, 3] rfl) hW hS h
    · replace h := ite_f h c2
      refine lv_lload_n hx hb dX7_digestPans_23 rfl (lv_at hl 2 rfl) ?_
      refine lv_ldc2 (v := 31) hx hb hown (hT.use (List.mem_of_getElem? (i := 283) (by decide +kernel)) rfl) dX7_digestPans_24 ?_
      refine lv_lmul hx hb dX7_digestPans_27 ?_
      refine lv_aload_n hx hb dX7_digestPans_28 rfl (lv_at hl 3 rfl) ?_
      refine lv_iload hx hb dX7_digestPans_29 (lv_at hl 1 rfl) ?_
      refine lv_iload hx hb dX7_digestPans_31 (lv_at hl 0 rfl) ?_
      obtain ⟨r14, u16, h15, h⟩ := xb_s h
      refine nb_ci (nb_runV (As := [.int y5, .int y6]) (rest := [.long (y3 * 31)]) hx hb hml hown hSW hS hW (c_X7_ofPan l z ad N X u y5 y6 h15) mf_X7_ofPan lk_X7_441 kr_0 rfl rfl ⟨rfl, rfl⟩ ⟨Nat.le_of_ble_eq_true rfl, Nat.le_of_ble_eq_true rfl⟩ hl.1 (Nat.le_of_ble_eq_true rfl) dX7_digestPans_33 ⟨Nat.le_of_ble_eq_true rfl, Nat.le_of_ble_eq_true rfl⟩) hS (fun H locs (hW : GW z ad (GC z ad N X u16) H) hS => ?_)
      refine lv_i2l hx hb dX7_digestPans_36 rfl ?_
      refine lv_ladd hx hb dX7_digestPans_37 ?_
      refine lv_topl (fun v17 ev17 => ?_)
      replace h := nm_at ev17 h
      refine lv_lstore_n (lv' := [(3, .long v17), (6, .int y6), (5, .int y5), (0, .ref (ad 0 0))]) hx hb dX7_digestPans_38 rfl hl (by decide) rfl (fun ls hl => ?_)
      obtain ⟨v18, ev18, h⟩ := nm_s h
      refine lv_iinc (v := v18) (lv' := [(6, .int v18), (3, .long v17), (5, .int y5), (0, .ref (ad 0 0))]) hx hb dX7_digestPans_39 hl (k := 1) rfl (by rw [ev18]; rfl) (by decide) rfl (fun ls hl => ?_)
      refine lv_goto (tgt := 17) hx hb dX7_digestPans_42 (by decide) ?_
      exact hih17 _ _ _ _ _ _ _ (lv_sub hl [0, 2, 1, 3] rfl) hW hS h
  have hL17 : ∀ (ih5 : Int32 → Int64 → St → Option (Except String Int64 × St)) (hih5 : ∀ (y5 : Int32) (y3 : Int64) (u : St) (H : Heap) (locs : List Loc) (ls : Array Slot), lv_has ls 7 [(5, .int y5), (3, .long y3), (0, .ref (ad 0 0))] → GW z ad (GC z ad N X u) H → va_S (zA z) s.heap H locs → ih5 y5 y3 u = some (.ok r9, u9) → WW H locs (F0 m 5 ls [])), ∀ (n : Nat), ∀ (y6 : Int32) (y5 : Int32) (y3 : Int64) (u : St) (H : Heap) (locs : List Loc) (ls : Array Slot), lv_has ls 7 [(6, .int y6), (5, .int y5), (3, .long y3), (0, .ref (ad 0 0))] → GW z ad (GC z ad N X u) H → va_S (zA z) s.heap H locs → f_X7_digestPans_L17 N ih5 n y6 y5 y3 u = some (.ok r9, u9) → WW H locs (F0 m 17 ls []) := by
    intro ih5 hih5 n
    induction n with
    | zero => intro y6 y5 y3 u H locs ls hl hW hS h; exact absurd h (by intro q; cases q)
    | succ n ihn => intro y6 y5 y3 u H locs ls hl hW hS h; exact hL17b ih5 hih5 (f_X7_digestPans_L17 N ih5 n) ihn y6 y5 y3 u H locs ls hl hW hS h
  have hL5b : ∀ (ih5 : Int32 → Int64 → St → Option (Except String Int64 × St)) (hih5 : ∀ (y5 : Int32) (y3 : Int64) (u : St) (H : Heap) (locs : List Loc) (ls : Array Slot), lv_has ls 7 [(5, .int y5), (3, .long y3), (0, .ref (ad 0 0))] → GW z ad (GC z ad N X u) H → va_S (zA z) s.heap H locs → ih5 y5 y3 u = some (.ok r9, u9) → WW H locs (F0 m 5 ls [])), ∀ (y5 : Int32) (y3 : Int64) (u : St) (H : Heap) (locs : List Loc) (ls : Array Slot), lv_has ls 7 [(5, .int y5), (3, .long y3), (0, .ref (ad 0 0))] → GW z ad (GC z ad N X u) H → va_S (zA z) s.heap H locs → f_X7_digestPans_L5b N ih5 y5 y3 u = some (.ok r9, u9) → WW H locs (F0 m 5 ls []) := by
    intro ih5 hih5 y5 y3 u H locs ls hl hW hS h
    change W p l e _ s m _ below meth c H locs 0 0 _ (F0 m 5 ls [])
    unfold f_X7_digestPans_L5b at h
    refine lv_iload hx hb dX7_digestPans_5 (lv_at hl 0 rfl) ?_
    refine lv_aload_n hx hb dX7_digestPans_7 rfl (lv_at hl 2 rfl) ?_
    refine nb_get hx hb hT hK hown hW fl_X7_80 kr_0 (v := .int (u 0 0 0)) rfl dX7_digestPans_8 ?_
    refine lv_icmp_ge (tgt := 97) hx hb dX7_digestPans_11 (by decide) (fun c1 => ?_) (fun c1 => ?_)
    · replace h := ite_t h c1
      refine lv_lload_n hx hb dX7_digestPans_97 rfl (lv_at hl 1 rfl) ?_
      exact ne_lretX hx hb hr hlocks hW hS dX7_digestPans_98 h
    · replace h := ite_f h c1
      refine lv_iconst (v := 0) hx hb dX7_digestPans_14 (by decide) ?_
      refine lv_istore (lv' := [(6, .int 0), (5, .int y5), (3, .long y3), (0, .ref (ad 0 0))]) hx hb dX7_digestPans_15 hl (by decide) rfl (fun ls hl => ?_)
      exact hL17 ih5 hih5 1000000 _ _ _ _ _ _ _ (lv_sub hl [0, 1, 2, 3] rfl) hW hS h
  have hL5 : ∀ (n : Nat), ∀ (y5 : Int32) (y3 : Int64) (u : St) (H : Heap) (locs : List Loc) (ls : Array Slot), lv_has ls 7 [(5, .int y5), (3, .long y3), (0, .ref (ad 0 0))] → GW z ad (GC z ad N X u) H → va_S (zA z) s.heap H locs → f_X7_digestPans_L5 N n y5 y3 u = some (.ok r9, u9) → WW H locs (F0 m 5 ls []) := by
    intro n
    induction n with
    | zero => intro y5 y3 u H locs ls hl hW hS h; exact absurd h (by intro q; cases q)
    | succ n ihn => intro y5 y3 u H locs ls hl hW hS h; exact hL5b (f_X7_digestPans_L5 N n) ihn y5 y3 u H locs ls hl hW hS h
  unfold f_X7_digestPans at h
  refine lv_lload_n hx hb dX7_digestPans_0 rfl (lv_at hl 1 rfl) ?_
  refine lv_lstore_n (lv' := [(3, .long x1), (0, .ref (ad 0 0)), (1, .long x1)]) hx hb dX7_digestPans_1 rfl hl (by decide) rfl (fun ls hl => ?_)
  refine lv_iconst (v := 0) hx hb dX7_digestPans_2 (by decide) ?_
  refine lv_istore (lv' := [(5, .int 0), (3, .long x1), (0, .ref (ad 0 0)), (1, .long x1)]) hx hb dX7_digestPans_3 hl (by decide) rfl (fun ls hl => ?_)
  exact hL5 1000000 _ _ _ _ _ _ (lv_sub hl [0, 1, 2] rfl) hW hS h
/-- Panyard.digestPhrases -/
def f_X7_digestPhrases_L17b (N : Nt) (ih5 : Int32 → Int64 → St → Option (Except String Int64 × St)) (ih17 : Int32 → Int32 → Int64 → St → Option (Except String Int64 × St)) (y6 : Int32) (y5 : Int32) (y3 : Int64) (u : St) : Option (Except String Int64 × St) :=
  if 4 < y6 then
    nm (y5 + 1) fun v3 =>
    ih5 v3 y3 u
  else
    xb (f_X7_ofPhrase N u y5 y6) fun r4 u6 =>
    nm ((y3 * 31) + r4.toInt64) fun v7 =>
    nm (y6 + 1) fun v8 =>
    ih17 v8 y5 v7 u6
def f_X7_digestPhrases_L17 (N : Nt) (ih5 : Int32 → Int64 → St → Option (Except String Int64 × St)) : Nat → Int32 → Int32 → Int64 → St → Option (Except String Int64 × St) := lp (fun _ _ _ _ => none) (f_X7_digestPhrases_L17b N ih5)
def f_X7_digestPhrases_L5b (N : Nt) (ih5 : Int32 → Int64 → St → Option (Except String Int64 × St)) (y5 : Int32) (y3 : Int64) (u : St) : Option (Except String Int64 × St) :=
  if (u 1 0 0) ≤ y5 then
    some (.ok y3, u)
  else
    f_X7_digestPhrases_L17 N ih5 1000000 0 y5 y3 u
def f_X7_digestPhrases_L5 (N : Nt) : Nat → Int32 → Int64 → St → Option (Except String Int64 × St) := lp (fun _ _ _ => none) (f_X7_digestPhrases_L5b N)
def f_X7_digestPhrases (N : Nt) (u : St) (x1 : Int64) : Option (Except String Int64 × St) :=
  f_X7_digestPhrases_L5 N 1000000 0 x1 u
set_option maxRecDepth 100000 in
set_option maxHeartbeats 4000000 in
theorem c_X7_digestPhrases (l : Launch) (z : Zt) (ad : Ad) (N : Nt) (X : Gt) (u : St) (x1 : Int64) {r9 : Int64} {u9 : St} (h : f_X7_digestPhrases N u x1 = some (.ok r9, u9)) : MC l z yX7_digestPhrases cX7_digestPhrases 7 (some .long) { frames := 3, cells := 0, slots := 0, locals := 66 } 0 0 [.ref (ad 0 0), .long x1] ad (GC z ad N X u) (QL z ad (GC z ad N X u9) r9) := by
  refine Met.ofW (cc := cX7_digestPhrases) (maxL := 7) (ret := (some .long)) (by decide) rfl ?_
  intro p e s m args below meth c s₁ B hml hv
  obtain ⟨rfl, hSW, hW⟩ := hv
  have hx := B.exec; have hb := B.bytes; have hr := B.returns; have hlocks := B.notSynchronized
  have hown : s.vm.findClass RX7 = some m.cls := findClass_of_methodNamed B.named
  obtain ⟨hT, hK, hST, hB0⟩ := id hSW
  have hS : va_S (zA z) s.heap s.heap [] := va_S.rf
  have hl := lv_entry ([.ref (ad 0 0), .long x1]) (n := 7) (Nat.le_of_ble_eq_true rfl)
  rw [lg_entry_eq]
  generalize (lg_sl ([.ref (ad 0 0), .long x1]) ++ List.replicate (7 - (lg_sl ([.ref (ad 0 0), .long x1])).length) Slot.unset).toArray = ls at hl ⊢
  have hl : lv_has ls 7 [(0, .ref (ad 0 0)), (1, .long x1)] := hl
  let WW : Heap → List Loc → JFrame → Prop := fun H locs g => W p l e (headSpec [Cond.code yX7_digestPhrases cX7_digestPhrases 7 (some .long)] { frames := 3, cells := 0, slots := 0, locals := 66 }).room s m [.ref (ad 0 0), .long x1].toArray below meth c H locs 0 0 (MQ below (QL z ad (GC z ad N X u9) r9) [.ref (ad 0 0), .long x1].toArray s 0 0 (zA z)) g
  have hL17b : ∀ (ih5 : Int32 → Int64 → St → Option (Except String Int64 × St)) (hih5 : ∀ (y5 : Int32) (y3 : Int64) (u : St) (H : Heap) (locs : List Loc) (ls : Array Slot), lv_has ls 7 [(5, .int y5), (3, .long y3), (0, .ref (ad 0 0))] → GW z ad (GC z ad N X u) H → va_S (zA z) s.heap H locs → ih5 y5 y3 u = some (.ok r9, u9) → WW H locs (F0 m 5 ls [])), ∀ (ih17 : Int32 → Int32 → Int64 → St → Option (Except String Int64 × St)) (hih17 : ∀ (y6 : Int32) (y5 : Int32) (y3 : Int64) (u : St) (H : Heap) (locs : List Loc) (ls : Array Slot), lv_has ls 7 [(6, .int y6), (5, .int y5), (3, .long y3), (0, .ref (ad 0 0))] → GW z ad (GC z ad N X u) H → va_S (zA z) s.heap H locs → ih17 y6 y5 y3 u = some (.ok r9, u9) → WW H locs (F0 m 17 ls [])), ∀ (y6 : Int32) (y5 : Int32) (y3 : Int64) (u : St) (H : Heap) (locs : List Loc) (ls : Array Slot), lv_has ls 7 [(6, .int y6), (5, .int y5), (3, .long y3), (0, .ref (ad 0 0))] → GW z ad (GC z ad N X u) H → va_S (zA z) s.heap H locs → f_X7_digestPhrases_L17b N ih5 ih17 y6 y5 y3 u = some (.ok r9, u9) → WW H locs (F0 m 17 ls []) := by
    intro ih5 hih5 ih17 hih17 y6 y5 y3 u H locs ls hl hW hS h
    change W p l e _ s m _ below meth c H locs 0 0 _ (F0 m 17 ls [])
    unfold f_X7_digestPhrases_L17b at h
    refine lv_iload hx hb dX7_digestPhrases_17 (lv_at hl 0 rfl) ?_
    refine lv_iconst (v := 4) hx hb dX7_digestPhrases_19 (by decide) ?_
    refine lv_icmp_gt (tgt := 45) hx hb dX7_digestPhrases_20 (by decide) (fun c2 => ?_) (fun c2 => ?_)
    · replace h := ite_t h c2
      obtain ⟨v3, ev3, h⟩ := nm_s h
      refine lv_iinc (v := v3) (lv' := [(5, .int v3), (6, .int y6), (3, .long y3), (0, .ref (ad 0 0))]) hx hb dX7_digestPhrases_45 hl (k := 1) rfl (by rw [ev3]; rfl) (by decide) rfl (fun ls hl => ?_)
      refine lv_goto (tgt := 5) hx hb dX7_digestPhrases_48 (by decide) ?_
      exact hih5 _ _ _ _ _ _ (lv_sub hl [0, 2, 3] rfl) hW hS h
    · replace h := ite_f h c2
      refine lv_lload_n hx hb dX7_digestPhrases_23 rfl (lv_at hl 2 rfl) ?_
      refine lv_ldc2 (v := 31) hx hb hown (hT.use (List.mem_of_getElem? (i := 283) (by decide +kernel)) rfl) dX7_digestPhrases_24 ?_
      refine lv_lmul hx hb dX7_digestPhrases_27 ?_
      refine lv_aload_n hx hb dX7_digestPhrases_28 rfl (lv_at hl 3 rfl) ?_
      refine lv_iload hx hb dX7_digestPhrases_29 (lv_at hl 1 rfl) ?_
      refine lv_iload hx hb dX7_digestPhrases_31 (lv_at hl 0 rfl) ?_
      obtain ⟨r4, u6, h5, h⟩ := xb_s h
      refine nb_ci (nb_runV (As := [.int y5, .int y6]) (rest := [.long (y3 * 31)]) hx hb hml hown hSW hS hW (c_X7_ofPhrase l z ad N X u y5 y6 h5) mf_X7_ofPhrase lk_X7_450 kr_0 rfl rfl ⟨rfl, rfl⟩ ⟨Nat.le_of_ble_eq_true rfl, Nat.le_of_ble_eq_true rfl⟩ hl.1 (Nat.le_of_ble_eq_true rfl) dX7_digestPhrases_33 ⟨Nat.le_of_ble_eq_true rfl, Nat.le_of_ble_eq_true rfl⟩) hS (fun H locs (hW : GW z ad (GC z ad N X u6) H) hS => ?_)
      refine lv_i2l hx hb dX7_digestPhrases_36 rfl ?_
      refine lv_ladd hx hb dX7_digestPhrases_37 ?_
      refine lv_topl (fun v7 ev7 => ?_)
      replace h := nm_at ev7 h
      refine lv_lstore_n (lv' := [(3, .long v7), (6, .int y6), (5, .int y5), (0, .ref (ad 0 0))]) hx hb dX7_digestPhrases_38 rfl hl (by decide) rfl (fun ls hl => ?_)
      obtain ⟨v8, ev8, h⟩ := nm_s h
      refine lv_iinc (v := v8) (lv' := [(6, .int v8), (3, .long v7), (5, .int y5), (0, .ref (ad 0 0))]) hx hb dX7_digestPhrases_39 hl (k := 1) rfl (by rw [ev8]; rfl) (by decide) rfl (fun ls hl => ?_)
      refine lv_goto (tgt := 17) hx hb dX7_digestPhrases_42 (by decide) ?_
      exact hih17 _ _ _ _ _ _ _ (lv_sub hl [0, 2, 1, 3] rfl) hW hS h
  have hL17 : ∀ (ih5 : Int32 → Int64 → St → Option (Except String Int64 × St)) (hih5 : ∀ (y5 : Int32) (y3 : Int64) (u : St) (H : Heap) (locs : List Loc) (ls : Array Slot), lv_has ls 7 [(5, .int y5), (3, .long y3), (0, .ref (ad 0 0))] → GW z ad (GC z ad N X u) H → va_S (zA z) s.heap H locs → ih5 y5 y3 u = some (.ok r9, u9) → WW H locs (F0 m 5 ls [])), ∀ (n : Nat), ∀ (y6 : Int32) (y5 : Int32) (y3 : Int64) (u : St) (H : Heap) (locs : List Loc) (ls : Array Slot), lv_has ls 7 [(6, .int y6), (5, .int y5), (3, .long y3), (0, .ref (ad 0 0))] → GW z ad (GC z ad N X u) H → va_S (zA z) s.heap H locs → f_X7_digestPhrases_L17 N ih5 n y6 y5 y3 u = some (.ok r9, u9) → WW H locs (F0 m 17 ls []) := by
    intro ih5 hih5 n
    induction n with
    | zero => intro y6 y5 y3 u H locs ls hl hW hS h; exact absurd h (by intro q; cases q)
    | succ n ihn => intro y6 y5 y3 u H locs ls hl hW hS h; exact hL17b ih5 hih5 (f_X7_digestPhrases_L17 N ih5 n) ihn y6 y5 y3 u H locs ls hl hW hS h
  have hL5b : ∀ (ih5 : Int32 → Int64 → St → Option (Except String Int64 × St)) (hih5 : ∀ (y5 : Int32) (y3 : Int64) (u : St) (H : Heap) (locs : List Loc) (ls : Array Slot), lv_has ls 7 [(5, .int y5), (3, .long y3), (0, .ref (ad 0 0))] → GW z ad (GC z ad N X u) H → va_S (zA z) s.heap H locs → ih5 y5 y3 u = some (.ok r9, u9) → WW H locs (F0 m 5 ls [])), ∀ (y5 : Int32) (y3 : Int64) (u : St) (H : Heap) (locs : List Loc) (ls : Array Slot), lv_has ls 7 [(5, .int y5), (3, .long y3), (0, .ref (ad 0 0))] → GW z ad (GC z ad N X u) H → va_S (zA z) s.heap H locs → f_X7_digestPhrases_L5b N ih5 y5 y3 u = some (.ok r9, u9) → WW H locs (F0 m 5 ls []) := by
    intro ih5 hih5 y5 y3 u H locs ls hl hW hS h
    change W p l e _ s m _ below meth c H locs 0 0 _ (F0 m 5 ls [])
    unfold f_X7_digestPhrases_L5b at h
    refine lv_iload hx hb dX7_digestPhrases_5 (lv_at hl 0 rfl) ?_
    refine lv_aload_n hx hb dX7_digestPhrases_7 rfl (lv_at hl 2 rfl) ?_
    refine nb_get hx hb hT hK hown hW fl_X7_133 kr_0 (v := .int (u 1 0 0)) rfl dX7_digestPhrases_8 ?_
    refine lv_icmp_ge (tgt := 51) hx hb dX7_digestPhrases_11 (by decide) (fun c1 => ?_) (fun c1 => ?_)
    · replace h := ite_t h c1
      refine lv_lload_n hx hb dX7_digestPhrases_51 rfl (lv_at hl 1 rfl) ?_
      exact ne_lretX hx hb hr hlocks hW hS dX7_digestPhrases_52 h
    · replace h := ite_f h c1
      refine lv_iconst (v := 0) hx hb dX7_digestPhrases_14 (by decide) ?_
      refine lv_istore (lv' := [(6, .int 0), (5, .int y5), (3, .long y3), (0, .ref (ad 0 0))]) hx hb dX7_digestPhrases_15 hl (by decide) rfl (fun ls hl => ?_)
      exact hL17 ih5 hih5 1000000 _ _ _ _ _ _ _ (lv_sub hl [0, 1, 2, 3] rfl) hW hS h
  have hL5 : ∀ (n : Nat), ∀ (y5 : Int32) (y3 : Int64) (u : St) (H : Heap) (locs : List Loc) (ls : Array Slot), lv_has ls 7 [(5, .int y5), (3, .long y3), (0, .ref (ad 0 0))] → GW z ad (GC z ad N X u) H → va_S (zA z) s.heap H locs → f_X7_digestPhrases_L5 N n y5 y3 u = some (.ok r9, u9) → WW H locs (F0 m 5 ls []) := by
    intro n
    induction n with
    | zero => intro y5 y3 u H locs ls hl hW hS h; exact absurd h (by intro q; cases q)
    | succ n ihn => intro y5 y3 u H locs ls hl hW hS h; exact hL5b (f_X7_digestPhrases_L5 N n) ihn y5 y3 u H locs ls hl hW hS h
  unfold f_X7_digestPhrases at h
  refine lv_lload_n hx hb dX7_digestPhrases_0 rfl (lv_at hl 1 rfl) ?_
  refine lv_lstore_n (lv' := [(3, .long x1), (0, .ref (ad 0 0)), (1, .long x1)]) hx hb dX7_digestPhrases_1 rfl hl (by decide) rfl (fun ls hl => ?_)
  refine lv_iconst (v := 0) hx hb dX7_digestPhrases_2 (by decide) ?_
  refine lv_istore (lv' := [(5, .int 0), (3, .long x1), (0, .ref (ad 0 0)), (1, .long x1)]) hx hb dX7_digestPhrases_3 hl (by decide) rfl (fun ls hl => ?_)
  exact hL5 1000000 _ _ _ _ _ _ (lv_sub hl [0, 1, 2] rfl) hW hS h
/-- Panyard.digestPlayers -/
def f_X7_digestPlayers_L49b (N : Nt) (ih5 : Int32 → Int64 → St → Option (Except String Int64 × St)) (ih49 : Int32 → Int32 → Int64 → St → Option (Except String Int64 × St)) (y6 : Int32) (y5 : Int32) (y3 : Int64) (u : St) : Option (Except String Int64 × St) :=
  if (u 1 0 0) ≤ y6 then
    xb (f_X7_bestTeach N u y5 20) fun r4 u6 =>
    nm ((y3 * 31) + r4.toInt64) fun v7 =>
    nm (y5 + 1) fun v8 =>
    ih5 v8 v7 u6
  else
    xb (f_X7_memory N u y5 y6) fun r09 u11 =>
    nm ((y3 * 31) + r09.toInt64) fun v12 =>
    nm (y6 + 1) fun v13 =>
    ih49 v13 y5 v12 u11
def f_X7_digestPlayers_L49 (N : Nt) (ih5 : Int32 → Int64 → St → Option (Except String Int64 × St)) : Nat → Int32 → Int32 → Int64 → St → Option (Except String Int64 × St) := lp (fun _ _ _ _ => none) (f_X7_digestPlayers_L49b N ih5)
def f_X7_digestPlayers_L17b (N : Nt) (ih5 : Int32 → Int64 → St → Option (Except String Int64 × St)) (ih17 : Int32 → Int32 → Int64 → St → Option (Except String Int64 × St)) (y6 : Int32) (y5 : Int32) (y3 : Int64) (u : St) : Option (Except String Int64 × St) :=
  if 6 < y6 then
    f_X7_digestPlayers_L49 N ih5 1000000 0 y5 y3 u
  else
    xb (f_X7_ofPlayer N u y5 y6) fun r14 u16 =>
    nm ((y3 * 31) + r14.toInt64) fun v17 =>
    nm (y6 + 1) fun v18 =>
    ih17 v18 y5 v17 u16
def f_X7_digestPlayers_L17 (N : Nt) (ih5 : Int32 → Int64 → St → Option (Except String Int64 × St)) : Nat → Int32 → Int32 → Int64 → St → Option (Except String Int64 × St) := lp (fun _ _ _ _ => none) (f_X7_digestPlayers_L17b N ih5)
def f_X7_digestPlayers_L5b (N : Nt) (ih5 : Int32 → Int64 → St → Option (Except String Int64 × St)) (y5 : Int32) (y3 : Int64) (u : St) : Option (Except String Int64 × St) :=
  if (u 2 0 0) ≤ y5 then
    some (.ok y3, u)
  else
    f_X7_digestPlayers_L17 N ih5 1000000 0 y5 y3 u
def f_X7_digestPlayers_L5 (N : Nt) : Nat → Int32 → Int64 → St → Option (Except String Int64 × St) := lp (fun _ _ _ => none) (f_X7_digestPlayers_L5b N)
def f_X7_digestPlayers (N : Nt) (u : St) (x1 : Int64) : Option (Except String Int64 × St) :=
  f_X7_digestPlayers_L5 N 1000000 0 x1 u
set_option maxRecDepth 100000 in
set_option maxHeartbeats 4000000 in
theorem c_X7_digestPlayers (l : Launch) (z : Zt) (ad : Ad) (N : Nt) (X : Gt) (u : St) (x1 : Int64) {r9 : Int64} {u9 : St} (h : f_X7_digestPlayers N u x1 = some (.ok r9, u9)) : MC l z yX7_digestPlayers cX7_digestPlayers 7 (some .long) { frames := 6, cells := 0, slots := 0, locals := 139 } 0 0 [.ref (ad 0 0), .long x1] ad (GC z ad N X u) (QL z ad (GC z ad N X u9) r9) := by
  refine Met.ofW (cc := cX7_digestPlayers) (maxL := 7) (ret := (some .long)) (by decide) rfl ?_
  intro p e s m args below meth c s₁ B hml hv
  obtain ⟨rfl, hSW, hW⟩ := hv
  have hx := B.exec; have hb := B.bytes; have hr := B.returns; have hlocks := B.notSynchronized
  have hown : s.vm.findClass RX7 = some m.cls := findClass_of_methodNamed B.named
  obtain ⟨hT, hK, hST, hB0⟩ := id hSW
  have hS : va_S (zA z) s.heap s.heap [] := va_S.rf
  have hl := lv_entry ([.ref (ad 0 0), .long x1]) (n := 7) (Nat.le_of_ble_eq_true rfl)
  rw [lg_entry_eq]
  generalize (lg_sl ([.ref (ad 0 0), .long x1]) ++ List.replicate (7 - (lg_sl ([.ref (ad 0 0), .long x1])).length) Slot.unset).toArray = ls at hl ⊢
  have hl : lv_has ls 7 [(0, .ref (ad 0 0)), (1, .long x1)] := hl
  let WW : Heap → List Loc → JFrame → Prop := fun H locs g => W p l e (headSpec [Cond.code yX7_digestPlayers cX7_digestPlayers 7 (some .long)] { frames := 6, cells := 0, slots := 0, locals := 139 }).room s m [.ref (ad 0 0), .long x1].toArray below meth c H locs 0 0 (MQ below (QL z ad (GC z ad N X u9) r9) [.ref (ad 0 0), .long x1].toArray s 0 0 (zA z)) g
  have hL49b : ∀ (ih5 : Int32 → Int64 → St → Option (Except String Int64 × St)) (hih5 : ∀ (y5 : Int32) (y3 : Int64) (u : St) (H : Heap) (locs : List Loc) (ls : Array Slot), lv_has ls 7 [(5, .int y5), (3, .long y3), (0, .ref (ad 0 0))] → GW z ad (GC z ad N X u) H → va_S (zA z) s.heap H locs → ih5 y5 y3 u = some (.ok r9, u9) → WW H locs (F0 m 5 ls [])), ∀ (ih49 : Int32 → Int32 → Int64 → St → Option (Except String Int64 × St)) (hih49 : ∀ (y6 : Int32) (y5 : Int32) (y3 : Int64) (u : St) (H : Heap) (locs : List Loc) (ls : Array Slot), lv_has ls 7 [(6, .int y6), (5, .int y5), (3, .long y3), (0, .ref (ad 0 0))] → GW z ad (GC z ad N X u) H → va_S (zA z) s.heap H locs → ih49 y6 y5 y3 u = some (.ok r9, u9) → WW H locs (F0 m 49 ls [])), ∀ (y6 : Int32) (y5 : Int32) (y3 : Int64) (u : St) (H : Heap) (locs : List Loc) (ls : Array Slot), lv_has ls 7 [(6, .int y6), (5, .int y5), (3, .long y3), (0, .ref (ad 0 0))] → GW z ad (GC z ad N X u) H → va_S (zA z) s.heap H locs → f_X7_digestPlayers_L49b N ih5 ih49 y6 y5 y3 u = some (.ok r9, u9) → WW H locs (F0 m 49 ls []) := by
    intro ih5 hih5 ih49 hih49 y6 y5 y3 u H locs ls hl hW hS h
    change W p l e _ s m _ below meth c H locs 0 0 _ (F0 m 49 ls [])
    unfold f_X7_digestPlayers_L49b at h
    refine lv_iload hx hb dX7_digestPlayers_49 (lv_at hl 0 rfl) ?_
    refine lv_aload_n hx hb dX7_digestPlayers_51 rfl (lv_at hl 3 rfl) ?_
    refine nb_get hx hb hT hK hown hW fl_X7_133 kr_0 (v := .int (u 1 0 0)) rfl dX7_digestPlayers_52 ?_
    refine lv_icmp_ge (tgt := 80) hx hb dX7_digestPlayers_55 (by decide) (fun c3 => ?_) (fun c3 => ?_)
    · replace h := ite_t h c3
      refine lv_lload_n hx hb dX7_digestPlayers_80 rfl (lv_at hl 2 rfl) ?_
      refine lv_ldc2 (v := 31) hx hb hown (hT.use (List.mem_of_getElem? (i := 283) (by decide +kernel)) rfl) dX7_digestPlayers_81 ?_
      refine lv_lmul hx hb dX7_digestPlayers_84 ?_
      refine lv_aload_n hx hb dX7_digestPlayers_85 rfl (lv_at hl 3 rfl) ?_
      refine lv_iload hx hb dX7_digestPlayers_86 (lv_at hl 1 rfl) ?_
      refine lv_bipush (v := 20) hx hb dX7_digestPlayers_88 (by decide) ?_
      obtain ⟨r4, u6, h5, h⟩ := xb_s h
      refine nb_ci (nb_runV (As := [.int y5, .int 20]) (rest := [.long (y3 * 31)]) hx hb hml hown hSW hS hW (c_X7_bestTeach l z ad N X u y5 20 h5) mf_X7_bestTeach lk_X7_459 kr_0 rfl rfl ⟨rfl, rfl⟩ ⟨Nat.le_of_ble_eq_true rfl, Nat.le_of_ble_eq_true rfl⟩ hl.1 (Nat.le_of_ble_eq_true rfl) dX7_digestPlayers_90 ⟨Nat.le_of_ble_eq_true rfl, Nat.le_of_ble_eq_true rfl⟩) hS (fun H locs (hW : GW z ad (GC z ad N X u6) H) hS => ?_)
      refine lv_i2l hx hb dX7_digestPlayers_93 rfl ?_
      refine lv_ladd hx hb dX7_digestPlayers_94 ?_
      refine lv_topl (fun v7 ev7 => ?_)
      replace h := nm_at ev7 h
      refine lv_lstore_n (lv' := [(3, .long v7), (6, .int y6), (5, .int y5), (0, .ref (ad 0 0))]) hx hb dX7_digestPlayers_95 rfl hl (by decide) rfl (fun ls hl => ?_)
      obtain ⟨v8, ev8, h⟩ := nm_s h
      refine lv_iinc (v := v8) (lv' := [(5, .int v8), (3, .long v7), (6, .int y6), (0, .ref (ad 0 0))]) hx hb dX7_digestPlayers_96 hl (k := 2) rfl (by rw [ev8]; rfl) (by decide) rfl (fun ls hl => ?_)
      refine lv_goto (tgt := 5) hx hb dX7_digestPlayers_99 (by decide) ?_
      exact hih5 _ _ _ _ _ _ (lv_sub hl [0, 1, 3] rfl) hW hS h
    · replace h := ite_f h c3
      refine lv_lload_n hx hb dX7_digestPlayers_58 rfl (lv_at hl 2 rfl) ?_
      refine lv_ldc2 (v := 31) hx hb hown (hT.use (List.mem_of_getElem? (i := 283) (by decide +kernel)) rfl) dX7_digestPlayers_59 ?_
      refine lv_lmul hx hb dX7_digestPlayers_62 ?_
      refine lv_aload_n hx hb dX7_digestPlayers_63 rfl (lv_at hl 3 rfl) ?_
      refine lv_iload hx hb dX7_digestPlayers_64 (lv_at hl 1 rfl) ?_
      refine lv_iload hx hb dX7_digestPlayers_66 (lv_at hl 0 rfl) ?_
      obtain ⟨r09, u11, h10, h⟩ := xb_s h
      refine nb_ci (nb_runV (As := [.int y5, .int y6]) (rest := [.long (y3 * 31)]) hx hb hml hown hSW hS hW (c_X7_memory l z ad N X u y5 y6 h10) mf_X7_memory lk_X7_456 kr_0 rfl rfl ⟨rfl, rfl⟩ ⟨Nat.le_of_ble_eq_true rfl, Nat.le_of_ble_eq_true rfl⟩ hl.1 (Nat.le_of_ble_eq_true rfl) dX7_digestPlayers_68 ⟨Nat.le_of_ble_eq_true rfl, Nat.le_of_ble_eq_true rfl⟩) hS (fun H locs (hW : GW z ad (GC z ad N X u11) H) hS => ?_)
      refine lv_i2l hx hb dX7_digestPlayers_71 rfl ?_
      refine lv_ladd hx hb dX7_digestPlayers_72 ?_
      refine lv_topl (fun v12 ev12 => ?_)
      replace h := nm_at ev12 h
      refine lv_lstore_n (lv' := [(3, .long v12), (6, .int y6), (5, .int y5), (0, .ref (ad 0 0))]) hx hb dX7_digestPlayers_73 rfl hl (by decide) rfl (fun ls hl => ?_)
      obtain ⟨v13, ev13, h⟩ := nm_s h
      refine lv_iinc (v := v13) (lv' := [(6, .int v13), (3, .long v12), (5, .int y5), (0, .ref (ad 0 0))]) hx hb dX7_digestPlayers_74 hl (k := 1) rfl (by rw [ev13]; rfl) (by decide) rfl (fun ls hl => ?_)
      refine lv_goto (tgt := 49) hx hb dX7_digestPlayers_77 (by decide) ?_
      exact hih49 _ _ _ _ _ _ _ (lv_sub hl [0, 2, 1, 3] rfl) hW hS h
  have hL49 : ∀ (ih5 : Int32 → Int64 → St → Option (Except String Int64 × St)) (hih5 : ∀ (y5 : Int32) (y3 : Int64) (u : St) (H : Heap) (locs : List Loc) (ls : Array Slot), lv_has ls 7 [(5, .int y5), (3, .long y3), (0, .ref (ad 0 0))] → GW z ad (GC z ad N X u) H → va_S (zA z) s.heap H locs → ih5 y5 y3 u = some (.ok r9, u9) → WW H locs (F0 m 5 ls [])), ∀ (n : Nat), ∀ (y6 : Int32) (y5 : Int32) (y3 : Int64) (u : St) (H : Heap) (locs : List Loc) (ls : Array Slot), lv_has ls 7 [(6, .int y6), (5, .int y5), (3, .long y3), (0, .ref (ad 0 0))] → GW z ad (GC z ad N X u) H → va_S (zA z) s.heap H locs → f_X7_digestPlayers_L49 N ih5 n y6 y5 y3 u = some (.ok r9, u9) → WW H locs (F0 m 49 ls []) := by
    intro ih5 hih5 n
    induction n with
    | zero => intro y6 y5 y3 u H locs ls hl hW hS h; exact absurd h (by intro q; cases q)
    | succ n ihn => intro y6 y5 y3 u H locs ls hl hW hS h; exact hL49b ih5 hih5 (f_X7_digestPlayers_L49 N ih5 n) ihn y6 y5 y3 u H locs ls hl hW hS h
  have hL17b : ∀ (ih5 : Int32 → Int64 → St → Option (Except String Int64 × St)) (hih5 : ∀ (y5 : Int32) (y3 : Int64) (u : St) (H : Heap) (locs : List Loc) (ls : Array Slot), lv_has ls 7 [(5, .int y5), (3, .long y3), (0, .ref (ad 0 0))] → GW z ad (GC z ad N X u) H → va_S (zA z) s.heap H locs → ih5 y5 y3 u = some (.ok r9, u9) → WW H locs (F0 m 5 ls [])), ∀ (ih17 : Int32 → Int32 → Int64 → St → Option (Except String Int64 × St)) (hih17 : ∀ (y6 : Int32) (y5 : Int32) (y3 : Int64) (u : St) (H : Heap) (locs : List Loc) (ls : Array Slot), lv_has ls 7 [(6, .int y6), (5, .int y5), (3, .long y3), (0, .ref (ad 0 0))] → GW z ad (GC z ad N X u) H → va_S (zA z) s.heap H locs → ih17 y6 y5 y3 u = some (.ok r9, u9) → WW H locs (F0 m 17 ls [])), ∀ (y6 : Int32) (y5 : Int32) (y3 : Int64) (u : St) (H : Heap) (locs : List Loc) (ls : Array Slot), lv_has ls 7 [(6, .int y6), (5, .int y5), (3, .long y3), (0, .ref (ad 0 0))] → GW z ad (GC z ad N X u) H → va_S (zA z) s.heap H locs → f_X7_digestPlayers_L17b N ih5 ih17 y6 y5 y3 u = some (.ok r9, u9) → WW H locs (F0 m 17 ls []) := by
    intro ih5 hih5 ih17 hih17 y6 y5 y3 u H locs ls hl hW hS h
    change W p l e _ s m _ below meth c H locs 0 0 _ (F0 m 17 ls [])
    unfold f_X7_digestPlayers_L17b at h
    refine lv_iload hx hb dX7_digestPlayers_17 (lv_at hl 0 rfl) ?_
    refine lv_bipush (v := 6) hx hb dX7_digestPlayers_19 (by decide) ?_
    refine lv_icmp_gt (tgt := 46) hx hb dX7_digestPlayers_21 (by decide) (fun c2 => ?_) (fun c2 => ?_)
    · replace h := ite_t h c2
      refine lv_iconst (v := 0) hx hb dX7_digestPlayers_46 (by decide) ?_
      refine lv_istore (lv' := [(6, .int 0), (5, .int y5), (3, .long y3), (0, .ref (ad 0 0))]) hx hb dX7_digestPlayers_47 hl (by decide) rfl (fun ls hl => ?_)
      exact hL49 ih5 hih5 1000000 _ _ _ _ _ _ _ (lv_sub hl [0, 1, 2, 3] rfl) hW hS h
    · replace h := ite_f h c2
      refine lv_lload_n hx hb dX7_digestPlayers_24 rfl (lv_at hl 2 rfl) ?_
      refine lv_ldc2 (v := 31) hx hb hown (hT.use (List.mem_of_getElem? (i := 283) (by decide +kernel)) rfl) dX7_digestPlayers_25 ?_
      refine lv_lmul hx hb dX7_digestPlayers_28 ?_
      refine lv_aload_n hx hb dX7_digestPlayers_29 rfl (lv_at hl 3 rfl) ?_
      refine lv_iload hx hb dX7_digestPlayers_30 (lv_at hl 1 rfl) ?_
      refine lv_iload hx hb dX7_digestPlayers_32 (lv_at hl 0 rfl) ?_
      obtain ⟨r14, u16, h15, h⟩ := xb_s h
      refine nb_ci (nb_runV (As := [.int y5, .int y6]) (rest := [.long (y3 * 31)]) hx hb hml hown hSW hS hW (c_X7_ofPlayer l z ad N X u y5 y6 h15) mf_X7_ofPlayer lk_X7_453 kr_0 rfl rfl ⟨rfl, rfl⟩ ⟨Nat.le_of_ble_eq_true rfl, Nat.le_of_ble_eq_true rfl⟩ hl.1 (Nat.le_of_ble_eq_true rfl) dX7_digestPlayers_34 ⟨Nat.le_of_ble_eq_true rfl, Nat.le_of_ble_eq_true rfl⟩) hS (fun H locs (hW : GW z ad (GC z ad N X u16) H) hS => ?_)
      refine lv_i2l hx hb dX7_digestPlayers_37 rfl ?_
      refine lv_ladd hx hb dX7_digestPlayers_38 ?_
      refine lv_topl (fun v17 ev17 => ?_)
      replace h := nm_at ev17 h
      refine lv_lstore_n (lv' := [(3, .long v17), (6, .int y6), (5, .int y5), (0, .ref (ad 0 0))]) hx hb dX7_digestPlayers_39 rfl hl (by decide) rfl (fun ls hl => ?_)
      obtain ⟨v18, ev18, h⟩ := nm_s h
      refine lv_iinc (v := v18) (lv' := [(6, .int v18), (3, .long v17), (5, .int y5), (0, .ref (ad 0 0))]) hx hb dX7_digestPlayers_40 hl (k := 1) rfl (by rw [ev18]; rfl) (by decide) rfl (fun ls hl => ?_)
      refine lv_goto (tgt := 17) hx hb dX7_digestPlayers_43 (by decide) ?_
      exact hih17 _ _ _ _ _ _ _ (lv_sub hl [0, 2, 1, 3] rfl) hW hS h
  have hL17 : ∀ (ih5 : Int32 → Int64 → St → Option (Except String Int64 × St)) (hih5 : ∀ (y5 : Int32) (y3 : Int64) (u : St) (H : Heap) (locs : List Loc) (ls : Array Slot), lv_has ls 7 [(5, .int y5), (3, .long y3), (0, .ref (ad 0 0))] → GW z ad (GC z ad N X u) H → va_S (zA z) s.heap H locs → ih5 y5 y3 u = some (.ok r9, u9) → WW H locs (F0 m 5 ls [])), ∀ (n : Nat), ∀ (y6 : Int32) (y5 : Int32) (y3 : Int64) (u : St) (H : Heap) (locs : List Loc) (ls : Array Slot), lv_has ls 7 [(6, .int y6), (5, .int y5), (3, .long y3), (0, .ref (ad 0 0))] → GW z ad (GC z ad N X u) H → va_S (zA z) s.heap H locs → f_X7_digestPlayers_L17 N ih5 n y6 y5 y3 u = some (.ok r9, u9) → WW H locs (F0 m 17 ls []) := by
    intro ih5 hih5 n
    induction n with
    | zero => intro y6 y5 y3 u H locs ls hl hW hS h; exact absurd h (by intro q; cases q)
    | succ n ihn => intro y6 y5 y3 u H locs ls hl hW hS h; exact hL17b ih5 hih5 (f_X7_digestPlayers_L17 N ih5 n) ihn y6 y5 y3 u H locs ls hl hW hS h
  have hL5b : ∀ (ih5 : Int32 → Int64 → St → Option (Except String Int64 × St)) (hih5 : ∀ (y5 : Int32) (y3 : Int64) (u : St) (H : Heap) (locs : List Loc) (ls : Array Slot), lv_has ls 7 [(5, .int y5), (3, .long y3), (0, .ref (ad 0 0))] → GW z ad (GC z ad N X u) H → va_S (zA z) s.heap H locs → ih5 y5 y3 u = some (.ok r9, u9) → WW H locs (F0 m 5 ls [])), ∀ (y5 : Int32) (y3 : Int64) (u : St) (H : Heap) (locs : List Loc) (ls : Array Slot), lv_has ls 7 [(5, .int y5), (3, .long y3), (0, .ref (ad 0 0))] → GW z ad (GC z ad N X u) H → va_S (zA z) s.heap H locs → f_X7_digestPlayers_L5b N ih5 y5 y3 u = some (.ok r9, u9) → WW H locs (F0 m 5 ls []) := by
    intro ih5 hih5 y5 y3 u H locs ls hl hW hS h
    change W p l e _ s m _ below meth c H locs 0 0 _ (F0 m 5 ls [])
    unfold f_X7_digestPlayers_L5b at h
    refine lv_iload hx hb dX7_digestPlayers_5 (lv_at hl 0 rfl) ?_
    refine lv_aload_n hx hb dX7_digestPlayers_7 rfl (lv_at hl 2 rfl) ?_
    refine nb_get hx hb hT hK hown hW fl_X7_147 kr_0 (v := .int (u 2 0 0)) rfl dX7_digestPlayers_8 ?_
    refine lv_icmp_ge (tgt := 102) hx hb dX7_digestPlayers_11 (by decide) (fun c1 => ?_) (fun c1 => ?_)
    · replace h := ite_t h c1
      refine lv_lload_n hx hb dX7_digestPlayers_102 rfl (lv_at hl 1 rfl) ?_
      exact ne_lretX hx hb hr hlocks hW hS dX7_digestPlayers_103 h
    · replace h := ite_f h c1
      refine lv_iconst (v := 0) hx hb dX7_digestPlayers_14 (by decide) ?_
      refine lv_istore (lv' := [(6, .int 0), (5, .int y5), (3, .long y3), (0, .ref (ad 0 0))]) hx hb dX7_digestPlayers_15 hl (by decide) rfl (fun ls hl => ?_)
      exact hL17 ih5 hih5 1000000 _ _ _ _ _ _ _ (lv_sub hl [0, 1, 2, 3] rfl) hW hS h
  have hL5 : ∀ (n : Nat), ∀ (y5 : Int32) (y3 : Int64) (u : St) (H : Heap) (locs : List Loc) (ls : Array Slot), lv_has ls 7 [(5, .int y5), (3, .long y3), (0, .ref (ad 0 0))] → GW z ad (GC z ad N X u) H → va_S (zA z) s.heap H locs → f_X7_digestPlayers_L5 N n y5 y3 u = some (.ok r9, u9) → WW H locs (F0 m 5 ls []) := by
    intro n
    induction n with
    | zero => intro y5 y3 u H locs ls hl hW hS h; exact absurd h (by intro q; cases q)
    | succ n ihn => intro y5 y3 u H locs ls hl hW hS h; exact hL5b (f_X7_digestPlayers_L5 N n) ihn y5 y3 u H locs ls hl hW hS h
  unfold f_X7_digestPlayers at h
  refine lv_lload_n hx hb dX7_digestPlayers_0 rfl (lv_at hl 1 rfl) ?_
  refine lv_lstore_n (lv' := [(3, .long x1), (0, .ref (ad 0 0)), (1, .long x1)]) hx hb dX7_digestPlayers_1 rfl hl (by decide) rfl (fun ls hl => ?_)
  refine lv_iconst (v := 0) hx hb dX7_digestPlayers_2 (by decide) ?_
  refine lv_istore (lv' := [(5, .int 0), (3, .long x1), (0, .ref (ad 0 0)), (1, .long x1)]) hx hb dX7_digestPlayers_3 hl (by decide) rfl (fun ls hl => ?_)
  exact hL5 1000000 _ _ _ _ _ _ (lv_sub hl [0, 1, 2] rfl) hW hS h
/-- Panyard.digestPlacesAndMarks -/
def f_X7_digestPlacesAndMarks_L56b (N : Nt) (ih56 : Int32 → Int64 → St → Option (Except String Int64 × St)) (y5 : Int32) (y3 : Int64) (u : St) : Option (Except String Int64 × St) :=
  if 4 ≤ y5 then
    some (.ok y3, u)
  else
    xb (f_X7_mark N u y5) fun r3 u5 =>
    nm ((y3 * 31) + r3.toInt64) fun v6 =>
    nm (y5 + 1) fun v7 =>
    ih56 v7 v6 u5
def f_X7_digestPlacesAndMarks_L56 (N : Nt) : Nat → Int32 → Int64 → St → Option (Except String Int64 × St) := lp (fun _ _ _ => none) (f_X7_digestPlacesAndMarks_L56b N)
def f_X7_digestPlacesAndMarks_L5b (N : Nt) (ih5 : Int32 → Int64 → St → Option (Except String Int64 × St)) (y5 : Int32) (y3 : Int64) (u : St) : Option (Except String Int64 × St) :=
  if (u 43 0 0) ≤ y5 then
    f_X7_digestPlacesAndMarks_L56 N 1000000 0 y3 u
  else
    xb (f_X7_ofPlace N u y5 0) fun r8 u10 =>
    nm ((y3 * 31) + r8.toInt64) fun v11 =>
    xb (f_X7_ofPlace N u10 y5 1) fun r12 u14 =>
    nm ((v11 * 31) + r12.toInt64) fun v15 =>
    nm (y5 + 1) fun v16 =>
    ih5 v16 v15 u14
def f_X7_digestPlacesAndMarks_L5 (N : Nt) : Nat → Int32 → Int64 → St → Option (Except String Int64 × St) := lp (fun _ _ _ => none) (f_X7_digestPlacesAndMarks_L5b N)
def f_X7_digestPlacesAndMarks (N : Nt) (u : St) (x1 : Int64) : Option (Except String Int64 × St) :=
  f_X7_digestPlacesAndMarks_L5 N 1000000 0 x1 u
set_option maxRecDepth 100000 in
set_option maxHeartbeats 4000000 in
theorem c_X7_digestPlacesAndMarks (l : Launch) (z : Zt) (ad : Ad) (N : Nt) (X : Gt) (u : St) (x1 : Int64) {r9 : Int64} {u9 : St} (h : f_X7_digestPlacesAndMarks N u x1 = some (.ok r9, u9)) : MC l z yX7_digestPlacesAndMarks cX7_digestPlacesAndMarks 6 (some .long) { frames := 5, cells := 0, slots := 0, locals := 116 } 0 0 [.ref (ad 0 0), .long x1] ad (GC z ad N X u) (QL z ad (GC z ad N X u9) r9) := by
  refine Met.ofW (cc := cX7_digestPlacesAndMarks) (maxL := 6) (ret := (some .long)) (by decide) rfl ?_
  intro p e s m args below meth c s₁ B hml hv
  obtain ⟨rfl, hSW, hW⟩ := hv
  have hx := B.exec; have hb := B.bytes; have hr := B.returns; have hlocks := B.notSynchronized
  have hown : s.vm.findClass RX7 = some m.cls := findClass_of_methodNamed B.named
  obtain ⟨hT, hK, hST, hB0⟩ := id hSW
  have hS : va_S (zA z) s.heap s.heap [] := va_S.rf
  have hl := lv_entry ([.ref (ad 0 0), .long x1]) (n := 6) (Nat.le_of_ble_eq_true rfl)
  rw [lg_entry_eq]
  generalize (lg_sl ([.ref (ad 0 0), .long x1]) ++ List.replicate (6 - (lg_sl ([.ref (ad 0 0), .long x1])).length) Slot.unset).toArray = ls at hl ⊢
  have hl : lv_has ls 6 [(0, .ref (ad 0 0)), (1, .long x1)] := hl
  let WW : Heap → List Loc → JFrame → Prop := fun H locs g => W p l e (headSpec [Cond.code yX7_digestPlacesAndMarks cX7_digestPlacesAndMarks 6 (some .long)] { frames := 5, cells := 0, slots := 0, locals := 116 }).room s m [.ref (ad 0 0), .long x1].toArray below meth c H locs 0 0 (MQ below (QL z ad (GC z ad N X u9) r9) [.ref (ad 0 0), .long x1].toArray s 0 0 (zA z)) g
  have hL56b : ∀ (ih56 : Int32 → Int64 → St → Option (Except String Int64 × St)) (hih56 : ∀ (y5 : Int32) (y3 : Int64) (u : St) (H : Heap) (locs : List Loc) (ls : Array Slot), lv_has ls 6 [(5, .int y5), (3, .long y3), (0, .ref (ad 0 0))] → GW z ad (GC z ad N X u) H → va_S (zA z) s.heap H locs → ih56 y5 y3 u = some (.ok r9, u9) → WW H locs (F0 m 56 ls [])), ∀ (y5 : Int32) (y3 : Int64) (u : St) (H : Heap) (locs : List Loc) (ls : Array Slot), lv_has ls 6 [(5, .int y5), (3, .long y3), (0, .ref (ad 0 0))] → GW z ad (GC z ad N X u) H → va_S (zA z) s.heap H locs → f_X7_digestPlacesAndMarks_L56b N ih56 y5 y3 u = some (.ok r9, u9) → WW H locs (F0 m 56 ls []) := by
    intro ih56 hih56 y5 y3 u H locs ls hl hW hS h
    change W p l e _ s m _ below meth c H locs 0 0 _ (F0 m 56 ls [])
    unfold f_X7_digestPlacesAndMarks_L56b at h
    refine lv_iload hx hb dX7_digestPlacesAndMarks_56 (lv_at hl 0 rfl) ?_
    refine lv_iconst (v := 4) hx hb dX7_digestPlacesAndMarks_58 (by decide) ?_
    refine lv_icmp_ge (tgt := 82) hx hb dX7_digestPlacesAndMarks_59 (by decide) (fun c2 => ?_) (fun c2 => ?_)
    · replace h := ite_t h c2
      refine lv_lload_n hx hb dX7_digestPlacesAndMarks_82 rfl (lv_at hl 1 rfl) ?_
      exact ne_lretX hx hb hr hlocks hW hS dX7_digestPlacesAndMarks_83 h
    · replace h := ite_f h c2
      refine lv_lload_n hx hb dX7_digestPlacesAndMarks_62 rfl (lv_at hl 1 rfl) ?_
      refine lv_ldc2 (v := 31) hx hb hown (hT.use (List.mem_of_getElem? (i := 283) (by decide +kernel)) rfl) dX7_digestPlacesAndMarks_63 ?_
      refine lv_lmul hx hb dX7_digestPlacesAndMarks_66 ?_
      refine lv_aload_n hx hb dX7_digestPlacesAndMarks_67 rfl (lv_at hl 2 rfl) ?_
      refine lv_iload hx hb dX7_digestPlacesAndMarks_68 (lv_at hl 0 rfl) ?_
      obtain ⟨r3, u5, h4, h⟩ := xb_s h
      refine nb_ci (nb_runV (As := [.int y5]) (rest := [.long (y3 * 31)]) hx hb hml hown hSW hS hW (c_X7_mark l z ad N X u y5 h4) mf_X7_mark lk_X7_465 kr_0 rfl rfl ⟨rfl, rfl⟩ ⟨Nat.le_of_ble_eq_true rfl, Nat.le_of_ble_eq_true rfl⟩ hl.1 (Nat.le_of_ble_eq_true rfl) dX7_digestPlacesAndMarks_70 ⟨Nat.le_of_ble_eq_true rfl, Nat.le_of_ble_eq_true rfl⟩) hS (fun H locs (hW : GW z ad (GC z ad N X u5) H) hS => ?_)
      refine lv_i2l hx hb dX7_digestPlacesAndMarks_73 rfl ?_
      refine lv_ladd hx hb dX7_digestPlacesAndMarks_74 ?_
      refine lv_topl (fun v6 ev6 => ?_)
      replace h := nm_at ev6 h
      refine lv_lstore_n (lv' := [(3, .long v6), (5, .int y5), (0, .ref (ad 0 0))]) hx hb dX7_digestPlacesAndMarks_75 rfl hl (by decide) rfl (fun ls hl => ?_)
      obtain ⟨v7, ev7, h⟩ := nm_s h
      refine lv_iinc (v := v7) (lv' := [(5, .int v7), (3, .long v6), (0, .ref (ad 0 0))]) hx hb dX7_digestPlacesAndMarks_76 hl (k := 1) rfl (by rw [ev7]; rfl) (by decide) rfl (fun ls hl => ?_)
      refine lv_goto (tgt := 56) hx hb dX7_digestPlacesAndMarks_79 (by decide) ?_
      exact hih56 _ _ _ _ _ _ (lv_sub hl [0, 1, 2] rfl) hW hS h
  have hL56 : ∀ (n : Nat), ∀ (y5 : Int32) (y3 : Int64) (u : St) (H : Heap) (locs : List Loc) (ls : Array Slot), lv_has ls 6 [(5, .int y5), (3, .long y3), (0, .ref (ad 0 0))] → GW z ad (GC z ad N X u) H → va_S (zA z) s.heap H locs → f_X7_digestPlacesAndMarks_L56 N n y5 y3 u = some (.ok r9, u9) → WW H locs (F0 m 56 ls []) := by
    intro n
    induction n with
    | zero => intro y5 y3 u H locs ls hl hW hS h; exact absurd h (by intro q; cases q)
    | succ n ihn => intro y5 y3 u H locs ls hl hW hS h; exact hL56b (f_X7_digestPlacesAndMarks_L56 N n) ihn y5 y3 u H locs ls hl hW hS h
  have hL5b : ∀ (ih5 : Int32 → Int64 → St → Option (Except String Int64 × St)) (hih5 : ∀ (y5 : Int32) (y3 : Int64) (u : St) (H : Heap) (locs : List Loc) (ls : Array Slot), lv_has ls 6 [(5, .int y5), (3, .long y3), (0, .ref (ad 0 0))] → GW z ad (GC z ad N X u) H → va_S (zA z) s.heap H locs → ih5 y5 y3 u = some (.ok r9, u9) → WW H locs (F0 m 5 ls [])), ∀ (y5 : Int32) (y3 : Int64) (u : St) (H : Heap) (locs : List Loc) (ls : Array Slot), lv_has ls 6 [(5, .int y5), (3, .long y3), (0, .ref (ad 0 0))] → GW z ad (GC z ad N X u) H → va_S (zA z) s.heap H locs → f_X7_digestPlacesAndMarks_L5b N ih5 y5 y3 u = some (.ok r9, u9) → WW H locs (F0 m 5 ls []) := by
    intro ih5 hih5 y5 y3 u H locs ls hl hW hS h
    change W p l e _ s m _ below meth c H locs 0 0 _ (F0 m 5 ls [])
    unfold f_X7_digestPlacesAndMarks_L5b at h
    refine lv_iload hx hb dX7_digestPlacesAndMarks_5 (lv_at hl 0 rfl) ?_
    refine lv_aload_n hx hb dX7_digestPlacesAndMarks_7 rfl (lv_at hl 2 rfl) ?_
    refine nb_get hx hb hT hK hown hW fl_X7_30 kr_0 (v := .ref (ad 8 0)) rfl dX7_digestPlacesAndMarks_8 ?_
    refine nb_get hx hb hT hK hown hW fl_X7_160 (kr_8 (by decide)) (v := .int (u 43 0 0)) rfl dX7_digestPlacesAndMarks_11 ?_
    refine lv_icmp_ge (tgt := 53) hx hb dX7_digestPlacesAndMarks_14 (by decide) (fun c1 => ?_) (fun c1 => ?_)
    · replace h := ite_t h c1
      refine lv_iconst (v := 0) hx hb dX7_digestPlacesAndMarks_53 (by decide) ?_
      refine lv_istore (lv' := [(5, .int 0), (3, .long y3), (0, .ref (ad 0 0))]) hx hb dX7_digestPlacesAndMarks_54 hl (by decide) rfl (fun ls hl => ?_)
      exact hL56 1000000 _ _ _ _ _ _ (lv_sub hl [0, 1, 2] rfl) hW hS h
    · replace h := ite_f h c1
      refine lv_lload_n hx hb dX7_digestPlacesAndMarks_17 rfl (lv_at hl 1 rfl) ?_
      refine lv_ldc2 (v := 31) hx hb hown (hT.use (List.mem_of_getElem? (i := 283) (by decide +kernel)) rfl) dX7_digestPlacesAndMarks_18 ?_
      refine lv_lmul hx hb dX7_digestPlacesAndMarks_21 ?_
      refine lv_aload_n hx hb dX7_digestPlacesAndMarks_22 rfl (lv_at hl 2 rfl) ?_
      refine lv_iload hx hb dX7_digestPlacesAndMarks_23 (lv_at hl 0 rfl) ?_
      refine lv_iconst (v := 0) hx hb dX7_digestPlacesAndMarks_25 (by decide) ?_
      obtain ⟨r8, u10, h09, h⟩ := xb_s h
      refine nb_ci (nb_runV (As := [.int y5, .int 0]) (rest := [.long (y3 * 31)]) hx hb hml hown hSW hS hW (c_X7_ofPlace l z ad N X u y5 0 h09) mf_X7_ofPlace lk_X7_462 kr_0 rfl rfl ⟨rfl, rfl⟩ ⟨Nat.le_of_ble_eq_true rfl, Nat.le_of_ble_eq_true rfl⟩ hl.1 (Nat.le_of_ble_eq_true rfl) dX7_digestPlacesAndMarks_26 ⟨Nat.le_of_ble_eq_true rfl, Nat.le_of_ble_eq_true rfl⟩) hS (fun H locs (hW : GW z ad (GC z ad N X u10) H) hS => ?_)
      refine lv_i2l hx hb dX7_digestPlacesAndMarks_29 rfl ?_
      refine lv_ladd hx hb dX7_digestPlacesAndMarks_30 ?_
      refine lv_topl (fun v11 ev11 => ?_)
      replace h := nm_at ev11 h
      refine lv_lstore_n (lv' := [(3, .long v11), (5, .int y5), (0, .ref (ad 0 0))]) hx hb dX7_digestPlacesAndMarks_31 rfl hl (by decide) rfl (fun ls hl => ?_)
      refine lv_lload_n hx hb dX7_digestPlacesAndMarks_32 rfl (lv_at hl 0 rfl) ?_
      refine lv_ldc2 (v := 31) hx hb hown (hT.use (List.mem_of_getElem? (i := 283) (by decide +kernel)) rfl) dX7_digestPlacesAndMarks_33 ?_
      refine lv_lmul hx hb dX7_digestPlacesAndMarks_36 ?_
      refine lv_aload_n hx hb dX7_digestPlacesAndMarks_37 rfl (lv_at hl 2 rfl) ?_
      refine lv_iload hx hb dX7_digestPlacesAndMarks_38 (lv_at hl 1 rfl) ?_
      refine lv_iconst (v := 1) hx hb dX7_digestPlacesAndMarks_40 (by decide) ?_
      obtain ⟨r12, u14, h13, h⟩ := xb_s h
      refine nb_ci (nb_runV (As := [.int y5, .int 1]) (rest := [.long (v11 * 31)]) hx hb hml hown hSW hS hW (c_X7_ofPlace l z ad N X u10 y5 1 h13) mf_X7_ofPlace lk_X7_462 kr_0 rfl rfl ⟨rfl, rfl⟩ ⟨Nat.le_of_ble_eq_true rfl, Nat.le_of_ble_eq_true rfl⟩ hl.1 (Nat.le_of_ble_eq_true rfl) dX7_digestPlacesAndMarks_41 ⟨Nat.le_of_ble_eq_true rfl, Nat.le_of_ble_eq_true rfl⟩) hS (fun H locs (hW : GW z ad (GC z ad N X u14) H) hS => ?_)
      refine lv_i2l hx hb dX7_digestPlacesAndMarks_44 rfl ?_
      refine lv_ladd hx hb dX7_digestPlacesAndMarks_45 ?_
      refine lv_topl (fun v15 ev15 => ?_)
      replace h := nm_at ev15 h
      refine lv_lstore_n (lv' := [(3, .long v15), (5, .int y5), (0, .ref (ad 0 0))]) hx hb dX7_digestPlacesAndMarks_46 rfl hl (by decide) rfl (fun ls hl => ?_)
      obtain ⟨v16, ev16, h⟩ := nm_s h
      refine lv_iinc (v := v16) (lv' := [(5, .int v16), (3, .long v15), (0, .ref (ad 0 0))]) hx hb dX7_digestPlacesAndMarks_47 hl (k := 1) rfl (by rw [ev16]; rfl) (by decide) rfl (fun ls hl => ?_)
      refine lv_goto (tgt := 5) hx hb dX7_digestPlacesAndMarks_50 (by decide) ?_
      exact hih5 _ _ _ _ _ _ (lv_sub hl [0, 1, 2] rfl) hW hS h
  have hL5 : ∀ (n : Nat), ∀ (y5 : Int32) (y3 : Int64) (u : St) (H : Heap) (locs : List Loc) (ls : Array Slot), lv_has ls 6 [(5, .int y5), (3, .long y3), (0, .ref (ad 0 0))] → GW z ad (GC z ad N X u) H → va_S (zA z) s.heap H locs → f_X7_digestPlacesAndMarks_L5 N n y5 y3 u = some (.ok r9, u9) → WW H locs (F0 m 5 ls []) := by
    intro n
    induction n with
    | zero => intro y5 y3 u H locs ls hl hW hS h; exact absurd h (by intro q; cases q)
    | succ n ihn => intro y5 y3 u H locs ls hl hW hS h; exact hL5b (f_X7_digestPlacesAndMarks_L5 N n) ihn y5 y3 u H locs ls hl hW hS h
  unfold f_X7_digestPlacesAndMarks at h
  refine lv_lload_n hx hb dX7_digestPlacesAndMarks_0 rfl (lv_at hl 1 rfl) ?_
  refine lv_lstore_n (lv' := [(3, .long x1), (0, .ref (ad 0 0)), (1, .long x1)]) hx hb dX7_digestPlacesAndMarks_1 rfl hl (by decide) rfl (fun ls hl => ?_)
  refine lv_iconst (v := 0) hx hb dX7_digestPlacesAndMarks_2 (by decide) ?_
  refine lv_istore (lv' := [(5, .int 0), (3, .long x1), (0, .ref (ad 0 0)), (1, .long x1)]) hx hb dX7_digestPlacesAndMarks_3 hl (by decide) rfl (fun ls hl => ?_)
  exact hL5 1000000 _ _ _ _ _ _ (lv_sub hl [0, 1, 2] rfl) hW hS h
/-- Panyard.digest -/
def f_X7_digest_L57b (N : Nt) (ih57 : Int32 → Int64 → St → Option (Except String Int64 × St)) (y3 : Int32) (y1 : Int64) (u : St) : Option (Except String Int64 × St) :=
  if 3 ≤ y3 then
    xb (f_X7_wouldTotal N u 5) fun r15 u17 =>
    nm ((y1 * 31) + r15.toInt64) fun v18 =>
    if 5 < (u17 43 0 0) then
      some (.ok v18, u17)
    else
      xb (f_X7_bestOrder N u17) fun r20 u22 =>
      nm ((v18 * 31) + r20.toInt64) fun v23 =>
      some (.ok v23, u22)
  else
    xb (f_X7_ofRound N u y3 0) fun r24 u26 =>
    nm ((y1 * 31) + r24.toInt64) fun v27 =>
    xb (f_X7_ofRound N u26 y3 1) fun r28 u30 =>
    nm ((v27 * 31) + r28.toInt64) fun v31 =>
    nm (y3 + 1) fun v32 =>
    ih57 v32 v31 u30
def f_X7_digest_L57 (N : Nt) : Nat → Int32 → Int64 → St → Option (Except String Int64 × St) := lp (fun _ _ _ => none) (f_X7_digest_L57b N)
def f_X7_digest_L6b (N : Nt) (ih6 : Int32 → Int64 → St → Option (Except String Int64 × St)) (y3 : Int32) (y1 : Int64) (u : St) : Option (Except String Int64 × St) :=
  if 13 < y3 then
    xb (f_X7_digestPans N u y1) fun r2 u4 =>
    xb (f_X7_digestPhrases N u4 r2) fun r5 u7 =>
    xb (f_X7_digestPlayers N u7 r5) fun r8 u10 =>
    xb (f_X7_digestPlacesAndMarks N u10 r8) fun r11 u13 =>
    f_X7_digest_L57 N 1000000 0 r11 u13
  else
    xb (f_X7_many N u y3) fun r33 u35 =>
    nm ((y1 * 31) + r33.toInt64) fun v36 =>
    nm (y3 + 1) fun v37 =>
    ih6 v37 v36 u35
def f_X7_digest_L6 (N : Nt) : Nat → Int32 → Int64 → St → Option (Except String Int64 × St) := lp (fun _ _ _ => none) (f_X7_digest_L6b N)
def f_X7_digest (N : Nt) (u : St) : Option (Except String Int64 × St) :=
  f_X7_digest_L6 N 1000000 0 58218 u
set_option maxRecDepth 100000 in
set_option maxHeartbeats 4000000 in
theorem c_X7_digest (l : Launch) (z : Zt) (ad : Ad) (N : Nt) (X : Gt) (u : St) {r9 : Int64} {u9 : St} (h : f_X7_digest N u = some (.ok r9, u9)) : MC l z yX7_digest cX7_digest 4 (some .long) { frames := 7, cells := 0, slots := 0, locals := 165 } 0 0 [.ref (ad 0 0)] ad (GC z ad N X u) (QL z ad (GC z ad N X u9) r9) := by
  refine Met.ofW (cc := cX7_digest) (maxL := 4) (ret := (some .long)) (by decide) rfl ?_
  intro p e s m args below meth c s₁ B hml hv
  obtain ⟨rfl, hSW, hW⟩ := hv
  have hx := B.exec; have hb := B.bytes; have hr := B.returns; have hlocks := B.notSynchronized
  have hown : s.vm.findClass RX7 = some m.cls := findClass_of_methodNamed B.named
  obtain ⟨hT, hK, hST, hB0⟩ := id hSW
  have hS : va_S (zA z) s.heap s.heap [] := va_S.rf
  have hl := lv_entry ([.ref (ad 0 0)]) (n := 4) (Nat.le_of_ble_eq_true rfl)
  rw [lg_entry_eq]
  generalize (lg_sl ([.ref (ad 0 0)]) ++ List.replicate (4 - (lg_sl ([.ref (ad 0 0)])).length) Slot.unset).toArray = ls at hl ⊢
  have hl : lv_has ls 4 [(0, .ref (ad 0 0))] := hl
  let WW : Heap → List Loc → JFrame → Prop := fun H locs g => W p l e (headSpec [Cond.code yX7_digest cX7_digest 4 (some .long)] { frames := 7, cells := 0, slots := 0, locals := 165 }).room s m [.ref (ad 0 0)].toArray below meth c H locs 0 0 (MQ below (QL z ad (GC z ad N X u9) r9) [.ref (ad 0 0)].toArray s 0 0 (zA z)) g
  have hL57b : ∀ (ih57 : Int32 → Int64 → St → Option (Except String Int64 × St)) (hih57 : ∀ (y3 : Int32) (y1 : Int64) (u : St) (H : Heap) (locs : List Loc) (ls : Array Slot), lv_has ls 4 [(3, .int y3), (1, .long y1), (0, .ref (ad 0 0))] → GW z ad (GC z ad N X u) H → va_S (zA z) s.heap H locs → ih57 y3 y1 u = some (.ok r9, u9) → WW H locs (F0 m 57 ls [])), ∀ (y3 : Int32) (y1 : Int64) (u : St) (H : Heap) (locs : List Loc) (ls : Array Slot), lv_has ls 4 [(3, .int y3), (1, .long y1), (0, .ref (ad 0 0))] → GW z ad (GC z ad N X u) H → va_S (zA z) s.heap H locs → f_X7_digest_L57b N ih57 y3 y1 u = some (.ok r9, u9) → WW H locs (F0 m 57 ls []) := by
    intro ih57 hih57 y3 y1 u H locs ls hl hW hS h
    change W p l e _ s m _ below meth c H locs 0 0 _ (F0 m 57 ls [])
    unfold f_X7_digest_L57b at h
    refine lv_iload_n hx hb dX7_digest_57 rfl (lv_at hl 0 rfl) ?_
    refine lv_iconst (v := 3) hx hb dX7_digest_58 (by decide) ?_
    refine lv_icmp_ge (tgt := 96) hx hb dX7_digest_59 (by decide) (fun c14 => ?_) (fun c14 => ?_)
    · replace h := ite_t h c14
      refine lv_lload_n hx hb dX7_digest_96 rfl (lv_at hl 1 rfl) ?_
      refine lv_ldc2 (v := 31) hx hb hown (hT.use (List.mem_of_getElem? (i := 283) (by decide +kernel)) rfl) dX7_digest_97 ?_
      refine lv_lmul hx hb dX7_digest_100 ?_
      refine lv_aload_n hx hb dX7_digest_101 rfl (lv_at hl 2 rfl) ?_
      refine lv_iconst (v := 5) hx hb dX7_digest_102 (by decide) ?_
      obtain ⟨r15, u17, h16, h⟩ := xb_s h
      refine nb_ci (nb_runV (As := [.int 5]) (rest := [.long (y1 * 31)]) hx hb hml hown hSW hS hW (c_X7_wouldTotal l z ad N X u 5 h16) mf_X7_wouldTotal lk_X7_435 kr_0 rfl rfl ⟨rfl, rfl⟩ ⟨Nat.le_of_ble_eq_true rfl, Nat.le_of_ble_eq_true rfl⟩ hl.1 (Nat.le_of_ble_eq_true rfl) dX7_digest_103 ⟨Nat.le_of_ble_eq_true rfl, Nat.le_of_ble_eq_true rfl⟩) hS (fun H locs (hW : GW z ad (GC z ad N X u17) H) hS => ?_)
      refine lv_i2l hx hb dX7_digest_106 rfl ?_
      refine lv_ladd hx hb dX7_digest_107 ?_
      refine lv_topl (fun v18 ev18 => ?_)
      replace h := nm_at ev18 h
      refine lv_lstore_n (lv' := [(1, .long v18), (3, .int y3), (0, .ref (ad 0 0))]) hx hb dX7_digest_108 rfl hl (by decide) rfl (fun ls hl => ?_)
      refine lv_aload_n hx hb dX7_digest_109 rfl (lv_at hl 2 rfl) ?_
      refine nb_get hx hb hT hK hown hW fl_X7_30 kr_0 (v := .ref (ad 8 0)) rfl dX7_digest_110 ?_
      refine nb_get hx hb hT hK hown hW fl_X7_160 (kr_8 (by decide)) (v := .int (u17 43 0 0)) rfl dX7_digest_113 ?_
      refine lv_iconst (v := 5) hx hb dX7_digest_116 (by decide) ?_
      refine lv_icmp_gt (tgt := 132) hx hb dX7_digest_117 (by decide) (fun c19 => ?_) (fun c19 => ?_)
      · replace h := ite_t h c19
        refine lv_lload_n hx hb dX7_digest_132 rfl (lv_at hl 0 rfl) ?_
        exact ne_lretX hx hb hr hlocks hW hS dX7_digest_133 h
      · replace h := ite_f h c19
        refine lv_lload_n hx hb dX7_digest_120 rfl (lv_at hl 0 rfl) ?_
        refine lv_ldc2 (v := 31) hx hb hown (hT.use (List.mem_of_getElem? (i := 283) (by decide +kernel)) rfl) dX7_digest_121 ?_
        refine lv_lmul hx hb dX7_digest_124 ?_
        refine lv_aload_n hx hb dX7_digest_125 rfl (lv_at hl 2 rfl) ?_
        obtain ⟨r20, u22, h21, h⟩ := xb_s h
        refine nb_ci (nb_runV (As := []) (rest := [.long (v18 * 31)]) hx hb hml hown hSW hS hW (c_X7_bestOrder l z ad N X u17 h21) mf_X7_bestOrder lk_X7_438 kr_0 rfl rfl ⟨rfl, rfl⟩ ⟨Nat.le_of_ble_eq_true rfl, Nat.le_of_ble_eq_true rfl⟩ hl.1 (Nat.le_of_ble_eq_true rfl) dX7_digest_126 ⟨Nat.le_of_ble_eq_true rfl, Nat.le_of_ble_eq_true rfl⟩) hS (fun H locs (hW : GW z ad (GC z ad N X u22) H) hS => ?_)
        refine lv_i2l hx hb dX7_digest_129 rfl ?_
        refine lv_ladd hx hb dX7_digest_130 ?_
        refine lv_topl (fun v23 ev23 => ?_)
        replace h := nm_at ev23 h
        refine lv_lstore_n (lv' := [(1, .long v23), (3, .int y3), (0, .ref (ad 0 0))]) hx hb dX7_digest_131 rfl hl (by decide) rfl (fun ls hl => ?_)
        refine lv_lload_n hx hb dX7_digest_132 rfl (lv_at hl 0 rfl) ?_
        exact ne_lretX hx hb hr hlocks hW hS dX7_digest_133 h
    · replace h := ite_f h c14
      refine lv_lload_n hx hb dX7_digest_62 rfl (lv_at hl 1 rfl) ?_
      refine lv_ldc2 (v := 31) hx hb hown (hT.use (List.mem_of_getElem? (i := 283) (by decide +kernel)) rfl) dX7_digest_63 ?_
      refine lv_lmul hx hb dX7_digest_66 ?_
      refine lv_aload_n hx hb dX7_digest_67 rfl (lv_at hl 2 rfl) ?_
      refine lv_iload_n hx hb dX7_digest_68 rfl (lv_at hl 0 rfl) ?_
      refine lv_iconst (v := 0) hx hb dX7_digest_69 (by decide) ?_
      obtain ⟨r24, u26, h25, h⟩ := xb_s h
      refine nb_ci (nb_runV (As := [.int y3, .int 0]) (rest := [.long (y1 * 31)]) hx hb hml hown hSW hS hW (c_X7_ofRound l z ad N X u y3 0 h25) mf_X7_ofRound lk_X7_432 kr_0 rfl rfl ⟨rfl, rfl⟩ ⟨Nat.le_of_ble_eq_true rfl, Nat.le_of_ble_eq_true rfl⟩ hl.1 (Nat.le_of_ble_eq_true rfl) dX7_digest_70 ⟨Nat.le_of_ble_eq_true rfl, Nat.le_of_ble_eq_true rfl⟩) hS (fun H locs (hW : GW z ad (GC z ad N X u26) H) hS => ?_)
      refine lv_i2l hx hb dX7_digest_73 rfl ?_
      refine lv_ladd hx hb dX7_digest_74 ?_
      refine lv_topl (fun v27 ev27 => ?_)
      replace h := nm_at ev27 h
      refine lv_lstore_n (lv' := [(1, .long v27), (3, .int y3), (0, .ref (ad 0 0))]) hx hb dX7_digest_75 rfl hl (by decide) rfl (fun ls hl => ?_)
      refine lv_lload_n hx hb dX7_digest_76 rfl (lv_at hl 0 rfl) ?_
      refine lv_ldc2 (v := 31) hx hb hown (hT.use (List.mem_of_getElem? (i := 283) (by decide +kernel)) rfl) dX7_digest_77 ?_
      refine lv_lmul hx hb dX7_digest_80 ?_
      refine lv_aload_n hx hb dX7_digest_81 rfl (lv_at hl 2 rfl) ?_
      refine lv_iload_n hx hb dX7_digest_82 rfl (lv_at hl 1 rfl) ?_
      refine lv_iconst (v := 1) hx hb dX7_digest_83 (by decide) ?_
      obtain ⟨r28, u30, h29, h⟩ := xb_s h
      refine nb_ci (nb_runV (As := [.int y3, .int 1]) (rest := [.long (v27 * 31)]) hx hb hml hown hSW hS hW (c_X7_ofRound l z ad N X u26 y3 1 h29) mf_X7_ofRound lk_X7_432 kr_0 rfl rfl ⟨rfl, rfl⟩ ⟨Nat.le_of_ble_eq_true rfl, Nat.le_of_ble_eq_true rfl⟩ hl.1 (Nat.le_of_ble_eq_true rfl) dX7_digest_84 ⟨Nat.le_of_ble_eq_true rfl, Nat.le_of_ble_eq_true rfl⟩) hS (fun H locs (hW : GW z ad (GC z ad N X u30) H) hS => ?_)
      refine lv_i2l hx hb dX7_digest_87 rfl ?_
      refine lv_ladd hx hb dX7_digest_88 ?_
      refine lv_topl (fun v31 ev31 => ?_)
      replace h := nm_at ev31 h
      refine lv_lstore_n (lv' := [(1, .long v31), (3, .int y3), (0, .ref (ad 0 0))]) hx hb dX7_digest_89 rfl hl (by decide) rfl (fun ls hl => ?_)
      obtain ⟨v32, ev32, h⟩ := nm_s h
      refine lv_iinc (v := v32) (lv' := [(3, .int v32), (1, .long v31), (0, .ref (ad 0 0))]) hx hb dX7_digest_90 hl (k := 1) rfl (by rw [ev32]; rfl) (by decide) rfl (fun ls hl => ?_)
      refine lv_goto (tgt := 57) hx hb dX7_digest_93 (by decide) ?_
      exact hih57 _ _ _ _ _ _ (lv_sub hl [0, 1, 2] rfl) hW hS h
  have hL57 : ∀ (n : Nat), ∀ (y3 : Int32) (y1 : Int64) (u : St) (H : Heap) (locs : List Loc) (ls : Array Slot), lv_has ls 4 [(3, .int y3), (1, .long y1), (0, .ref (ad 0 0))] → GW z ad (GC z ad N X u) H → va_S (zA z) s.heap H locs → f_X7_digest_L57 N n y3 y1 u = some (.ok r9, u9) → WW H locs (F0 m 57 ls []) := by
    intro n
    induction n with
    | zero => intro y3 y1 u H locs ls hl hW hS h; exact absurd h (by intro q; cases q)
    | succ n ihn => intro y3 y1 u H locs ls hl hW hS h; exact hL57b (f_X7_digest_L57 N n) ihn y3 y1 u H locs ls hl hW hS h
  have hL6b : ∀ (ih6 : Int32 → Int64 → St → Option (Except String Int64 × St)) (hih6 : ∀ (y3 : Int32) (y1 : Int64) (u : St) (H : Heap) (locs : List Loc) (ls : Array Slot), lv_has ls 4 [(3, .int y3), (1, .long y1), (0, .ref (ad 0 0))] → GW z ad (GC z ad N X u) H → va_S (zA z) s.heap H locs → ih6 y3 y1 u = some (.ok r9, u9) → WW H locs (F0 m 6 ls [])), ∀ (y3 : Int32) (y1 : Int64) (u : St) (H : Heap) (locs : List Loc) (ls : Array Slot), lv_has ls 4 [(3, .int y3), (1, .long y1), (0, .ref (ad 0 0))] → GW z ad (GC z ad N X u) H → va_S (zA z) s.heap H locs → f_X7_digest_L6b N ih6 y3 y1 u = some (.ok r9, u9) → WW H locs (F0 m 6 ls []) := by
    intro ih6 hih6 y3 y1 u H locs ls hl hW hS h
    change W p l e _ s m _ below meth c H locs 0 0 _ (F0 m 6 ls [])
    unfold f_X7_digest_L6b at h
    refine lv_iload_n hx hb dX7_digest_6 rfl (lv_at hl 0 rfl) ?_
    refine lv_bipush (v := 13) hx hb dX7_digest_7 (by decide) ?_
    refine lv_icmp_gt (tgt := 31) hx hb dX7_digest_9 (by decide) (fun c1 => ?_) (fun c1 => ?_)
    · replace h := ite_t h c1
      refine lv_aload_n hx hb dX7_digest_31 rfl (lv_at hl 2 rfl) ?_
      refine lv_lload_n hx hb dX7_digest_32 rfl (lv_at hl 1 rfl) ?_
      obtain ⟨r2, u4, h3, h⟩ := xb_s h
      refine nb_cl (nb_runV (As := [.long y1]) (rest := []) hx hb hml hown hSW hS hW (c_X7_digestPans l z ad N X u y1 h3) mf_X7_digestPans lk_X7_419 kr_0 rfl rfl ⟨rfl, rfl⟩ ⟨Nat.le_of_ble_eq_true rfl, Nat.le_of_ble_eq_true rfl⟩ hl.1 (Nat.le_of_ble_eq_true rfl) dX7_digest_33 ⟨Nat.le_of_ble_eq_true rfl, Nat.le_of_ble_eq_true rfl⟩) hS (fun H locs (hW : GW z ad (GC z ad N X u4) H) hS => ?_)
      refine lv_lstore_n (lv' := [(1, .long r2), (3, .int y3), (0, .ref (ad 0 0))]) hx hb dX7_digest_36 rfl hl (by decide) rfl (fun ls hl => ?_)
      refine lv_aload_n hx hb dX7_digest_37 rfl (lv_at hl 2 rfl) ?_
      refine lv_lload_n hx hb dX7_digest_38 rfl (lv_at hl 0 rfl) ?_
      obtain ⟨r5, u7, h6, h⟩ := xb_s h
      refine nb_cl (nb_runV (As := [.long r2]) (rest := []) hx hb hml hown hSW hS hW (c_X7_digestPhrases l z ad N X u4 r2 h6) mf_X7_digestPhrases lk_X7_423 kr_0 rfl rfl ⟨rfl, rfl⟩ ⟨Nat.le_of_ble_eq_true rfl, Nat.le_of_ble_eq_true rfl⟩ hl.1 (Nat.le_of_ble_eq_true rfl) dX7_digest_39 ⟨Nat.le_of_ble_eq_true rfl, Nat.le_of_ble_eq_true rfl⟩) hS (fun H locs (hW : GW z ad (GC z ad N X u7) H) hS => ?_)
      refine lv_lstore_n (lv' := [(1, .long r5), (3, .int y3), (0, .ref (ad 0 0))]) hx hb dX7_digest_42 rfl hl (by decide) rfl (fun ls hl => ?_)
      refine lv_aload_n hx hb dX7_digest_43 rfl (lv_at hl 2 rfl) ?_
      refine lv_lload_n hx hb dX7_digest_44 rfl (lv_at hl 0 rfl) ?_
      obtain ⟨r8, u10, h09, h⟩ := xb_s h
      refine nb_cl (nb_runV (As := [.long r5]) (rest := []) hx hb hml hown hSW hS hW (c_X7_digestPlayers l z ad N X u7 r5 h09) mf_X7_digestPlayers lk_X7_426 kr_0 rfl rfl ⟨rfl, rfl⟩ ⟨Nat.le_of_ble_eq_true rfl, Nat.le_of_ble_eq_true rfl⟩ hl.1 (Nat.le_of_ble_eq_true rfl) dX7_digest_45 ⟨Nat.le_of_ble_eq_true rfl, Nat.le_of_ble_eq_true rfl⟩) hS (fun H locs (hW : GW z ad (GC z ad N X u10) H) hS => ?_)
      refine lv_lstore_n (lv' := [(1, .long r8), (3, .int y3), (0, .ref (ad 0 0))]) hx hb dX7_digest_48 rfl hl (by decide) rfl (fun ls hl => ?_)
      refine lv_aload_n hx hb dX7_digest_49 rfl (lv_at hl 2 rfl) ?_
      refine lv_lload_n hx hb dX7_digest_50 rfl (lv_at hl 0 rfl) ?_
      obtain ⟨r11, u13, h12, h⟩ := xb_s h
      refine nb_cl (nb_runV (As := [.long r8]) (rest := []) hx hb hml hown hSW hS hW (c_X7_digestPlacesAndMarks l z ad N X u10 r8 h12) mf_X7_digestPlacesAndMarks lk_X7_429 kr_0 rfl rfl ⟨rfl, rfl⟩ ⟨Nat.le_of_ble_eq_true rfl, Nat.le_of_ble_eq_true rfl⟩ hl.1 (Nat.le_of_ble_eq_true rfl) dX7_digest_51 ⟨Nat.le_of_ble_eq_true rfl, Nat.le_of_ble_eq_true rfl⟩) hS (fun H locs (hW : GW z ad (GC z ad N X u13) H) hS => ?_)
      refine lv_lstore_n (lv' := [(1, .long r11), (3, .int y3), (0, .ref (ad 0 0))]) hx hb dX7_digest_54 rfl hl (by decide) rfl (fun ls hl => ?_)
      refine lv_iconst (v := 0) hx hb dX7_digest_55 (by decide) ?_
      refine lv_istore_n (lv' := [(3, .int 0), (1, .long r11), (0, .ref (ad 0 0))]) hx hb dX7_digest_56 rfl hl (by decide) rfl (fun ls hl => ?_)
      exact hL57 1000000 _ _ _ _ _ _ (lv_sub hl [0, 1, 2] rfl) hW hS h
    · replace h := ite_f h c1
      refine lv_lload_n hx hb dX7_digest_12 rfl (lv_at hl 1 rfl) ?_
      refine lv_ldc2 (v := 31) hx hb hown (hT.use (List.mem_of_getElem? (i := 283) (by decide +kernel)) rfl) dX7_digest_13 ?_
      refine lv_lmul hx hb dX7_digest_16 ?_
      refine lv_aload_n hx hb dX7_digest_17 rfl (lv_at hl 2 rfl) ?_
      refine lv_iload_n hx hb dX7_digest_18 rfl (lv_at hl 0 rfl) ?_
      obtain ⟨r33, u35, h34, h⟩ := xb_s h
      refine nb_ci (nb_runV (As := [.int y3]) (rest := [.long (y1 * 31)]) hx hb hml hown hSW hS hW (c_X7_many l z ad N X u y3 h34) mf_X7_many lk_X7_416 kr_0 rfl rfl ⟨rfl, rfl⟩ ⟨Nat.le_of_ble_eq_true rfl, Nat.le_of_ble_eq_true rfl⟩ hl.1 (Nat.le_of_ble_eq_true rfl) dX7_digest_19 ⟨Nat.le_of_ble_eq_true rfl, Nat.le_of_ble_eq_true rfl⟩) hS (fun H locs (hW : GW z ad (GC z ad N X u35) H) hS => ?_)
      refine lv_i2l hx hb dX7_digest_22 rfl ?_
      refine lv_ladd hx hb dX7_digest_23 ?_
      refine lv_topl (fun v36 ev36 => ?_)
      replace h := nm_at ev36 h
      refine lv_lstore_n (lv' := [(1, .long v36), (3, .int y3), (0, .ref (ad 0 0))]) hx hb dX7_digest_24 rfl hl (by decide) rfl (fun ls hl => ?_)
      obtain ⟨v37, ev37, h⟩ := nm_s h
      refine lv_iinc (v := v37) (lv' := [(3, .int v37), (1, .long v36), (0, .ref (ad 0 0))]) hx hb dX7_digest_25 hl (k := 1) rfl (by rw [ev37]; rfl) (by decide) rfl (fun ls hl => ?_)
      refine lv_goto (tgt := 6) hx hb dX7_digest_28 (by decide) ?_
      exact hih6 _ _ _ _ _ _ (lv_sub hl [0, 1, 2] rfl) hW hS h
  have hL6 : ∀ (n : Nat), ∀ (y3 : Int32) (y1 : Int64) (u : St) (H : Heap) (locs : List Loc) (ls : Array Slot), lv_has ls 4 [(3, .int y3), (1, .long y1), (0, .ref (ad 0 0))] → GW z ad (GC z ad N X u) H → va_S (zA z) s.heap H locs → f_X7_digest_L6 N n y3 y1 u = some (.ok r9, u9) → WW H locs (F0 m 6 ls []) := by
    intro n
    induction n with
    | zero => intro y3 y1 u H locs ls hl hW hS h; exact absurd h (by intro q; cases q)
    | succ n ihn => intro y3 y1 u H locs ls hl hW hS h; exact hL6b (f_X7_digest_L6 N n) ihn y3 y1 u H locs ls hl hW hS h
  unfold f_X7_digest at h
  refine lv_ldc2 (v := 58218) hx hb hown (hT.use (List.mem_of_getElem? (i := 282) (by decide +kernel)) rfl) dX7_digest_0 ?_
  refine lv_lstore_n (lv' := [(1, .long 58218), (0, .ref (ad 0 0))]) hx hb dX7_digest_3 rfl hl (by decide) rfl (fun ls hl => ?_)
  refine lv_iconst (v := 0) hx hb dX7_digest_4 (by decide) ?_
  refine lv_istore_n (lv' := [(3, .int 0), (1, .long 58218), (0, .ref (ad 0 0))]) hx hb dX7_digest_5 rfl hl (by decide) rfl (fun ls hl => ?_)
  exact hL6 1000000 _ _ _ _ _ _ (lv_sub hl [0, 1, 2] rfl) hW hS h
