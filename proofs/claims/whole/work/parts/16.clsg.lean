theorem lk_X2_20 : Cond.methodLink RX2 20 arraycopyName ∈ lw_tbl := List.mem_of_getElem? (i := 581) (by decide +kernel)
theorem mf_arraycopy : Cond.native arraycopyName ∈ lw_tbl ∧ Cond.static arraycopyName ∈ lw_tbl ∧ Cond.initialized "java/lang/System" ∈ lw_tbl := ⟨List.mem_of_getElem? (i := 511) (by decide +kernel), List.mem_of_getElem? (i := 510) (by decide +kernel), List.mem_of_getElem? (i := 80) (by decide +kernel)⟩
theorem fl_X7_69 : FL RX7 69 7 14 RX7 TX7 16 := ⟨rfl, uw_X7, by decide, rfl, Or.inl (List.mem_of_getElem? (i := 235) (by decide +kernel))⟩
theorem lk_X7_383 : LK RX7 383 yX2_copyFrom := Or.inl (List.mem_of_getElem? (i := 577) (by decide +kernel))
theorem mf_X2_copyFrom : MFv yX2_copyFrom cX2_copyFrom 3 none 1 := ⟨List.mem_of_getElem? (i := 578) (by decide +kernel), List.mem_of_getElem? (i := 579) (by decide +kernel), List.mem_of_getElem? (i := 63) (by decide +kernel), List.mem_of_getElem? (i := 580) (by decide +kernel), by decide +kernel, by decide +kernel, by decide +kernel⟩
theorem lk_X0_15 : Cond.methodLink RX0 15 arraycopyName ∈ lw_tbl := List.mem_of_getElem? (i := 658) (by decide +kernel)
theorem fl_X7_66 : FL RX7 66 7 13 RX7 TX7 16 := ⟨rfl, uw_X7, by decide, rfl, Or.inl (List.mem_of_getElem? (i := 234) (by decide +kernel))⟩
theorem lk_X7_391 : LK RX7 391 yX0_copyFrom := Or.inl (List.mem_of_getElem? (i := 654) (by decide +kernel))
theorem mf_X0_copyFrom : MFv yX0_copyFrom cX0_copyFrom 2 none 1 := ⟨List.mem_of_getElem? (i := 655) (by decide +kernel), List.mem_of_getElem? (i := 656) (by decide +kernel), List.mem_of_getElem? (i := 62) (by decide +kernel), List.mem_of_getElem? (i := 657) (by decide +kernel), by decide +kernel, by decide +kernel, by decide +kernel⟩
theorem lk_X7_394 : LK RX7 394 yX0_shuffle := Or.inl (List.mem_of_getElem? (i := 659) (by decide +kernel))
theorem mf_X0_shuffle : MFv yX0_shuffle cX0_shuffle 7 none 1 := ⟨List.mem_of_getElem? (i := 660) (by decide +kernel), List.mem_of_getElem? (i := 661) (by decide +kernel), List.mem_of_getElem? (i := 62) (by decide +kernel), List.mem_of_getElem? (i := 662) (by decide +kernel), by decide +kernel, by decide +kernel, by decide +kernel⟩
theorem lk_X7_402 : LK RX7 402 yX7_heardIfTaught := Or.inl (List.mem_of_getElem? (i := 582) (by decide +kernel))
theorem mf_X7_heardIfTaught : MFv yX7_heardIfTaught cX7_heardIfTaught 6 (some .int) 3 := ⟨List.mem_of_getElem? (i := 584) (by decide +kernel), List.mem_of_getElem? (i := 20) (by decide +kernel), List.mem_of_getElem? (i := 61) (by decide +kernel), List.mem_of_getElem? (i := 585) (by decide +kernel), by decide +kernel, by decide +kernel, by decide +kernel⟩
theorem lk_X3_28 : Cond.methodLink RX3 28 arraycopyName ∈ lw_tbl := List.mem_of_getElem? (i := 509) (by decide +kernel)
theorem fl_X7_62 : FL RX7 62 7 12 RX7 TX7 16 := ⟨rfl, uw_X7, by decide, rfl, Or.inl (List.mem_of_getElem? (i := 233) (by decide +kernel))⟩
theorem lk_X7_406 : LK RX7 406 yX3_copyFrom := Or.inl (List.mem_of_getElem? (i := 505) (by decide +kernel))
theorem mf_X3_copyFrom : MFv yX3_copyFrom cX3_copyFrom 2 none 1 := ⟨List.mem_of_getElem? (i := 506) (by decide +kernel), List.mem_of_getElem? (i := 507) (by decide +kernel), List.mem_of_getElem? (i := 66) (by decide +kernel), List.mem_of_getElem? (i := 508) (by decide +kernel), by decide +kernel, by decide +kernel, by decide +kernel⟩
theorem lk_X7_409 : LK RX7 409 yX3_needsTuner := Or.inl (List.mem_of_getElem? (i := 533) (by decide +kernel))
theorem lk_X7_447 : LK RX7 447 yX7_blowsFor := Or.inl (List.mem_of_getElem? (i := 501) (by decide +kernel))
theorem mf_X7_blowsFor : MFv yX7_blowsFor cX7_blowsFor 3 (some .int) 1 := ⟨List.mem_of_getElem? (i := 502) (by decide +kernel), List.mem_of_getElem? (i := 503) (by decide +kernel), List.mem_of_getElem? (i := 61) (by decide +kernel), List.mem_of_getElem? (i := 504) (by decide +kernel), by decide +kernel, by decide +kernel, by decide +kernel⟩
theorem lk_X7_444 : LK RX7 444 yX7_off := Or.inl (List.mem_of_getElem? (i := 493) (by decide +kernel))
theorem mf_X7_off : MFv yX7_off cX7_off 3 (some .int) 2 := ⟨List.mem_of_getElem? (i := 494) (by decide +kernel), List.mem_of_getElem? (i := 495) (by decide +kernel), List.mem_of_getElem? (i := 61) (by decide +kernel), List.mem_of_getElem? (i := 496) (by decide +kernel), by decide +kernel, by decide +kernel, by decide +kernel⟩
theorem lk_X7_441 : LK RX7 441 yX7_ofPan := Or.inl (List.mem_of_getElem? (i := 464) (by decide +kernel))
theorem mf_X7_ofPan : MFv yX7_ofPan cX7_ofPan 4 (some .int) 2 := ⟨List.mem_of_getElem? (i := 465) (by decide +kernel), List.mem_of_getElem? (i := 466) (by decide +kernel), List.mem_of_getElem? (i := 61) (by decide +kernel), List.mem_of_getElem? (i := 467) (by decide +kernel), by decide +kernel, by decide +kernel, by decide +kernel⟩
/-- Panyard$Minds.copyFrom -/
def f_X2_copyFrom_L2b (N : Nt) (k0 : Nat) (k1 : Nat) (ih2 : Int32 → St → Option (Unit × St)) (y2 : Int32) (u : St) : Option (Unit × St) :=
  if 8 ≤ y2 then
    some ((), u)
  else
    gd (inb y2 8) <|
    nm (scpy u 40 (8 * k1 + (ix y2)) (8 * k0 + (ix y2)) 8) fun u3 =>
    nm (sset u3 41 k0 (ix y2) (u3 41 k1 (ix y2))) fun u4 =>
    nm (y2 + 1) fun v5 =>
    ih2 v5 u4
def f_X2_copyFrom_L2 (N : Nt) (k0 : Nat) (k1 : Nat) : Nat → Int32 → St → Option (Unit × St) := lp (fun _ _ => none) (f_X2_copyFrom_L2b N k0 k1)
def f_X2_copyFrom (N : Nt) (u : St) (k0 : Nat) (k1 : Nat) : Option (Unit × St) :=
  f_X2_copyFrom_L2 N k0 k1 1000000 0 u
set_option maxRecDepth 100000 in
set_option maxHeartbeats 4000000 in
theorem c_X2_copyFrom (l : Launch) (z : Zt) (ad : Ad) (N : Nt) (X : Gt) (u : St) (k0 : Nat) (k1 : Nat) (hk0 : k0 < 2) (hk1 : k1 < 2) {r9 : Unit} {u9 : St} (h : f_X2_copyFrom N u k0 k1 = some (r9, u9)) : MC l z yX2_copyFrom cX2_copyFrom 3 none { frames := 1, cells := 0, slots := 0, locals := 60 } 0 0 [.ref (ad 10 k0), .ref (ad 10 k1)] ad (GC z ad N X u) (QV z ad (GC z ad N X u9)) := by
  refine Met.ofW (cc := cX2_copyFrom) (maxL := 3) (ret := none) (by decide) rfl ?_
  intro p e s m args below meth c s₁ B hml hv
  obtain ⟨rfl, hSW, hW⟩ := hv
  have hx := B.exec; have hb := B.bytes; have hr := B.returns; have hlocks := B.notSynchronized
  have hown : s.vm.findClass RX2 = some m.cls := findClass_of_methodNamed B.named
  obtain ⟨hT, hK, hST, hB0⟩ := id hSW
  have hS : va_S (zA z) s.heap s.heap [] := va_S.rf
  have hl := lv_entry ([.ref (ad 10 k0), .ref (ad 10 k1)]) (n := 3) (Nat.le_of_ble_eq_true rfl)
  rw [lg_entry_eq]
  generalize (lg_sl ([.ref (ad 10 k0), .ref (ad 10 k1)]) ++ List.replicate (3 - (lg_sl ([.ref (ad 10 k0), .ref (ad 10 k1)])).length) Slot.unset).toArray = ls at hl ⊢
  have hl : lv_has ls 3 [(0, .ref (ad 10 k0)), (1, .ref (ad 10 k1))] := hl
  let WW : Heap → List Loc → JFrame → Prop := fun H locs g => W p l e (headSpec [Cond.code yX2_copyFrom cX2_copyFrom 3 none] { frames := 1, cells := 0, slots := 0, locals := 60 }).room s m [.ref (ad 10 k0), .ref (ad 10 k1)].toArray below meth c H locs 0 0 (MQ below (QV z ad (GC z ad N X u9)) [.ref (ad 10 k0), .ref (ad 10 k1)].toArray s 0 0 (zA z)) g
  have hL2b : ∀ (ih2 : Int32 → St → Option (Unit × St)) (hih2 : ∀ (y2 : Int32) (u : St) (H : Heap) (locs : List Loc) (ls : Array Slot), lv_has ls 3 [(2, .int y2), (0, .ref (ad 10 k0)), (1, .ref (ad 10 k1))] → GW z ad (GC z ad N X u) H → va_S (zA z) s.heap H locs → ih2 y2 u = some (r9, u9) → WW H locs (F0 m 2 ls [])), ∀ (y2 : Int32) (u : St) (H : Heap) (locs : List Loc) (ls : Array Slot), lv_has ls 3 [(2, .int y2), (0, .ref (ad 10 k0)), (1, .ref (ad 10 k1))] → GW z ad (GC z ad N X u) H → va_S (zA z) s.heap H locs → f_X2_copyFrom_L2b N k0 k1 ih2 y2 u = some (r9, u9) → WW H locs (F0 m 2 ls []) := by
    intro ih2 hih2 y2 u H locs ls hl hW hS h
    change W p l e _ s m _ below meth c H locs 0 0 _ (F0 m 2 ls [])
    unfold f_X2_copyFrom_L2b at h
    refine lv_iload_n hx hb dX2_copyFrom_2 rfl (lv_at hl 0 rfl) ?_
    refine lv_bipush (v := 8) hx hb dX2_copyFrom_3 (by decide) ?_
    refine lv_icmp_ge (tgt := 45) hx hb dX2_copyFrom_5 (by decide) (fun c1 => ?_) (fun c1 => ?_)
    · replace h := ite_t h c1
      exact ne_vret hx hb hr hlocks hW hS dX2_copyFrom_45 h
    · replace h := ite_f h c1
      refine lv_aload_n hx hb dX2_copyFrom_8 rfl (lv_at hl 2 rfl) ?_
      refine nb_get hx hb hT hK hown hW fl_X2_11 (kr_10 hk1) (v := .ref (ad 11 k1)) rfl dX2_copyFrom_9 ?_
      refine lv_iload_n hx hb dX2_copyFrom_12 rfl (lv_at hl 0 rfl) ?_
      obtain ⟨g2, h⟩ := gd_s h
      refine nb_aald hx hb hK hW 1 (kr_11 hk1) rfl rfl (inb_in g2) (a := ad 20 (8 * k1 + (ix y2))) (qrow_at (inb_lt g2)) dX2_copyFrom_13 ?_
      refine lv_iconst (v := 0) hx hb dX2_copyFrom_14 (by decide) ?_
      refine lv_aload_n hx hb dX2_copyFrom_15 rfl (lv_at hl 1 rfl) ?_
      refine nb_get hx hb hT hK hown hW fl_X2_11 (kr_10 hk0) (v := .ref (ad 11 k0)) rfl dX2_copyFrom_16 ?_
      refine lv_iload_n hx hb dX2_copyFrom_19 rfl (lv_at hl 0 rfl) ?_
      refine nb_aald hx hb hK hW 1 (kr_11 hk0) rfl rfl (inb_in g2) (a := ad 20 (8 * k0 + (ix y2))) (qrow_at (inb_lt g2)) dX2_copyFrom_20 ?_
      refine lv_iconst (v := 0) hx hb dX2_copyFrom_21 (by decide) ?_
      refine lv_bipush (v := 8) hx hb dX2_copyFrom_22 (by decide) ?_
      obtain ⟨u3, eu3, h⟩ := nm_s h
      refine nb_copy hx hb hml hl.1 hown hT hK hW hS 0 (kr_20 (row_lt hk1 (inb_lt g2))) (kr_20 (row_lt hk0 (inb_lt g2))) rfl (N9 := 8) (by decide) ⟨by decide, by decide⟩ (by decide) lk_X2_20 mf_arraycopy ⟨Nat.le_of_ble_eq_true rfl, Nat.le_of_ble_eq_true rfl⟩ ((gy_40 (row_lt hk0 (inb_lt g2))).trans (congrArg (GC z ad N X) eu3.symm)) dX2_copyFrom_24 (fun H locs hW hS => ?_)
      refine lv_aload_n hx hb dX2_copyFrom_27 rfl (lv_at hl 1 rfl) ?_
      refine nb_get hx hb hT hK hown hW fl_X2_16 (kr_10 hk0) (v := .ref (ad 21 k0)) rfl dX2_copyFrom_28 ?_
      refine lv_iload_n hx hb dX2_copyFrom_31 rfl (lv_at hl 0 rfl) ?_
      refine lv_aload_n hx hb dX2_copyFrom_32 rfl (lv_at hl 2 rfl) ?_
      refine nb_get hx hb hT hK hown hW fl_X2_16 (kr_10 hk1) (v := .ref (ad 21 k1)) rfl dX2_copyFrom_33 ?_
      refine lv_iload_n hx hb dX2_copyFrom_36 rfl (lv_at hl 0 rfl) ?_
      refine nb_iald hx hb hK hW 0 (kr_21 hk1) rfl (inb_in g2) dX2_copyFrom_37 ?_
      obtain ⟨u4, eu4, h⟩ := nm_s h
      refine nb_iast hx hb hK hW hS 0 (kr_21 hk0) rfl (inb_in g2) ((gp_41 hk0).trans (congrArg (GC z ad N X) eu4.symm)) dX2_copyFrom_38 (fun H locs hW hS => ?_)
      obtain ⟨v5, ev5, h⟩ := nm_s h
      refine lv_iinc (v := v5) (lv' := [(2, .int v5), (0, .ref (ad 10 k0)), (1, .ref (ad 10 k1))]) hx hb dX2_copyFrom_39 hl (k := 0) rfl (by rw [ev5]; rfl) (by decide) rfl (fun ls hl => ?_)
      refine lv_goto (tgt := 2) hx hb dX2_copyFrom_42 (by decide) ?_
      exact hih2 _ _ _ _ _ (lv_sub hl [0, 1, 2] rfl) hW hS h
  have hL2 : ∀ (n : Nat), ∀ (y2 : Int32) (u : St) (H : Heap) (locs : List Loc) (ls : Array Slot), lv_has ls 3 [(2, .int y2), (0, .ref (ad 10 k0)), (1, .ref (ad 10 k1))] → GW z ad (GC z ad N X u) H → va_S (zA z) s.heap H locs → f_X2_copyFrom_L2 N k0 k1 n y2 u = some (r9, u9) → WW H locs (F0 m 2 ls []) := by
    intro n
    induction n with
    | zero => intro y2 u H locs ls hl hW hS h; exact absurd h (by intro q; cases q)
    | succ n ihn => intro y2 u H locs ls hl hW hS h; exact hL2b (f_X2_copyFrom_L2 N k0 k1 n) ihn y2 u H locs ls hl hW hS h
  unfold f_X2_copyFrom at h
  refine lv_iconst (v := 0) hx hb dX2_copyFrom_0 (by decide) ?_
  refine lv_istore_n (lv' := [(2, .int 0), (0, .ref (ad 10 k0)), (1, .ref (ad 10 k1))]) hx hb dX2_copyFrom_1 rfl hl (by decide) rfl (fun ls hl => ?_)
  exact hL2 1000000 _ _ _ _ _ (lv_sub hl [0, 1, 2] rfl) hW hS h
/-- Panyard.wouldTotal -/
def f_X7_wouldTotal_L34b (N : Nt) (ih34 : Int32 → Int32 → St → Option (Except String Int32 × St)) (y2 : Int32) (y1 : Int32) (u : St) : Option (Except String Int32 × St) :=
  if y1 ≤ y2 then
    sb (f_X7_weigh N u 1) fun r9 u11 =>
    sb (f_X7_tone N u11) fun r12 u14 =>
    sb (f_X7_heard N u14 0) fun r15 u17 =>
    some (.ok (r12 + r15), u17)
  else
    sb (f_X2_sleep N u 1 (u 1 0 0)) fun r18 u20 =>
    nm (y2 + 1) fun v21 =>
    ih34 v21 y1 u20
def f_X7_wouldTotal_L34 (N : Nt) : Nat → Int32 → Int32 → St → Option (Except String Int32 × St) := lp (fun _ _ _ => none) (f_X7_wouldTotal_L34b N)
def f_X7_wouldTotal (N : Nt) (u : St) (x1 : Int32) : Option (Except String Int32 × St) :=
  sb (f_X7_isWithin N u x1 0 60) fun r1 u3 =>
  if r1 = 0 then
    some (.error "java/lang/IllegalArgumentException", u3)
  else
    sb (f_X2_copyFrom N u3 1 0) fun r5 u7 =>
    f_X7_wouldTotal_L34 N 1000000 0 x1 u7
set_option maxRecDepth 100000 in
set_option maxHeartbeats 4000000 in
theorem c_X7_wouldTotal (l : Launch) (z : Zt) (ad : Ad) (N : Nt) (X : Gt) (u : St) (x1 : Int32) {r9 : Int32} {u9 : St} (h : f_X7_wouldTotal N u x1 = some (.ok r9, u9)) : MC l z yX7_wouldTotal cX7_wouldTotal 3 (some .int) { frames := 4, cells := 0, slots := 0, locals := 94 } 0 0 [.ref (ad 0 0), .int x1] ad (GC z ad N X u) (QI z ad (GC z ad N X u9) r9) := by
  refine Met.ofW (cc := cX7_wouldTotal) (maxL := 3) (ret := (some .int)) (by decide) rfl ?_
  intro p e s m args below meth c s₁ B hml hv
  obtain ⟨rfl, hSW, hW⟩ := hv
  have hx := B.exec; have hb := B.bytes; have hr := B.returns; have hlocks := B.notSynchronized
  have hown : s.vm.findClass RX7 = some m.cls := findClass_of_methodNamed B.named
  obtain ⟨hT, hK, hST, hB0⟩ := id hSW
  have hS : va_S (zA z) s.heap s.heap [] := va_S.rf
  have hl := lv_entry ([.ref (ad 0 0), .int x1]) (n := 3) (Nat.le_of_ble_eq_true rfl)
  rw [lg_entry_eq]
  generalize (lg_sl ([.ref (ad 0 0), .int x1]) ++ List.replicate (3 - (lg_sl ([.ref (ad 0 0), .int x1])).length) Slot.unset).toArray = ls at hl ⊢
  have hl : lv_has ls 3 [(0, .ref (ad 0 0)), (1, .int x1)] := hl
  let WW : Heap → List Loc → JFrame → Prop := fun H locs g => W p l e (headSpec [Cond.code yX7_wouldTotal cX7_wouldTotal 3 (some .int)] { frames := 4, cells := 0, slots := 0, locals := 94 }).room s m [.ref (ad 0 0), .int x1].toArray below meth c H locs 0 0 (MQ below (QI z ad (GC z ad N X u9) r9) [.ref (ad 0 0), .int x1].toArray s 0 0 (zA z)) g
  have hL34b : ∀ (ih34 : Int32 → Int32 → St → Option (Except String Int32 × St)) (hih34 : ∀ (y2 : Int32) (y1 : Int32) (u : St) (H : Heap) (locs : List Loc) (ls : Array Slot), lv_has ls 3 [(2, .int y2), (0, .ref (ad 0 0)), (1, .int y1)] → GW z ad (GC z ad N X u) H → va_S (zA z) s.heap H locs → ih34 y2 y1 u = some (.ok r9, u9) → WW H locs (F0 m 34 ls [])), ∀ (y2 : Int32) (y1 : Int32) (u : St) (H : Heap) (locs : List Loc) (ls : Array Slot), lv_has ls 3 [(2, .int y2), (0, .ref (ad 0 0)), (1, .int y1)] → GW z ad (GC z ad N X u) H → va_S (zA z) s.heap H locs → f_X7_wouldTotal_L34b N ih34 y2 y1 u = some (.ok r9, u9) → WW H locs (F0 m 34 ls []) := by
    intro ih34 hih34 y2 y1 u H locs ls hl hW hS h
    change W p l e _ s m _ below meth c H locs 0 0 _ (F0 m 34 ls [])
    unfold f_X7_wouldTotal_L34b at h
    refine lv_iload_n hx hb dX7_wouldTotal_34 rfl (lv_at hl 0 rfl) ?_
    refine lv_iload_n hx hb dX7_wouldTotal_35 rfl (lv_at hl 2 rfl) ?_
    refine lv_icmp_ge (tgt := 60) hx hb dX7_wouldTotal_36 (by decide) (fun c8 => ?_) (fun c8 => ?_)
    · replace h := ite_t h c8
      refine lv_aload_n hx hb dX7_wouldTotal_60 rfl (lv_at hl 1 rfl) ?_
      refine lv_aload_n hx hb dX7_wouldTotal_61 rfl (lv_at hl 1 rfl) ?_
      refine nb_get hx hb hT hK hown hW fl_X7_69 kr_0 (v := .ref (ad 10 1)) rfl dX7_wouldTotal_62 ?_
      obtain ⟨r9, u11, h10, h⟩ := sb_s h
      refine nb_cv (nb_runV (As := [.ref (ad 10 1)]) (rest := []) hx hb hml hown hSW hS hW (c_X7_weigh l z ad N X u 1 (by decide) h10) mf_X7_weigh lk_X7_345 kr_0 rfl rfl ⟨rfl, rfl⟩ ⟨Nat.le_of_ble_eq_true rfl, Nat.le_of_ble_eq_true rfl⟩ hl.1 (Nat.le_of_ble_eq_true rfl) dX7_wouldTotal_65 ⟨Nat.le_of_ble_eq_true rfl, Nat.le_of_ble_eq_true rfl⟩) hS (fun H locs (hW : GW z ad (GC z ad N X u11) H) hS => ?_)
      refine lv_aload_n hx hb dX7_wouldTotal_68 rfl (lv_at hl 1 rfl) ?_
      obtain ⟨r12, u14, h13, h⟩ := sb_s h
      refine nb_ci (nb_runV (As := []) (rest := []) hx hb hml hown hSW hS hW (c_X7_tone l z ad N X u11 h13) mf_X7_tone lk_X7_359 kr_0 rfl rfl ⟨rfl, rfl⟩ ⟨Nat.le_of_ble_eq_true rfl, Nat.le_of_ble_eq_true rfl⟩ hl.1 (Nat.le_of_ble_eq_true rfl) dX7_wouldTotal_69 ⟨Nat.le_of_ble_eq_true rfl, Nat.le_of_ble_eq_true rfl⟩) hS (fun H locs (hW : GW z ad (GC z ad N X u14) H) hS => ?_)
      refine lv_aload_n hx hb dX7_wouldTotal_72 rfl (lv_at hl 1 rfl) ?_
      refine lv_aload_n hx hb dX7_wouldTotal_73 rfl (lv_at hl 1 rfl) ?_
      refine nb_get hx hb hT hK hown hW fl_X7_30 kr_0 (v := .ref (ad 8 0)) rfl dX7_wouldTotal_74 ?_
      obtain ⟨r15, u17, h16, h⟩ := sb_s h
      refine nb_ci (nb_runV (As := [.ref (ad 8 0)]) (rest := [.int r12]) hx hb hml hown hSW hS hW (c_X7_heard l z ad N X u14 0 (by decide) h16) mf_X7_heard lk_X7_386 kr_0 rfl rfl ⟨rfl, rfl⟩ ⟨Nat.le_of_ble_eq_true rfl, Nat.le_of_ble_eq_true rfl⟩ hl.1 (Nat.le_of_ble_eq_true rfl) dX7_wouldTotal_77 ⟨Nat.le_of_ble_eq_true rfl, Nat.le_of_ble_eq_true rfl⟩) hS (fun H locs (hW : GW z ad (GC z ad N X u17) H) hS => ?_)
      refine lv_iadd hx hb dX7_wouldTotal_80 ?_
      exact ne_iretX hx hb hr rfl hlocks hW hS dX7_wouldTotal_81 h
    · replace h := ite_f h c8
      refine lv_aload_n hx hb dX7_wouldTotal_39 rfl (lv_at hl 1 rfl) ?_
      refine nb_get hx hb hT hK hown hW fl_X7_69 kr_0 (v := .ref (ad 10 1)) rfl dX7_wouldTotal_40 ?_
      refine lv_aload_n hx hb dX7_wouldTotal_43 rfl (lv_at hl 1 rfl) ?_
      refine nb_get hx hb hT hK hown hW fl_X7_17 kr_0 (v := .ref (ad 2 0)) rfl dX7_wouldTotal_44 ?_
      refine lv_aload_n hx hb dX7_wouldTotal_47 rfl (lv_at hl 1 rfl) ?_
      refine nb_get hx hb hT hK hown hW fl_X7_133 kr_0 (v := .int (u 1 0 0)) rfl dX7_wouldTotal_48 ?_
      obtain ⟨r18, u20, h19, h⟩ := sb_s h
      refine nb_cv (nb_runV (As := [.ref (ad 2 0), .int (u 1 0 0)]) (rest := []) hx hb hml hown hSW hS hW (c_X2_sleep l z ad N X u 1 (u 1 0 0) (by decide) h19) mf_X2_sleep lk_X7_251 (kr_10 (by decide)) rfl rfl ⟨rfl, rfl⟩ ⟨Nat.le_of_ble_eq_true rfl, Nat.le_of_ble_eq_true rfl⟩ hl.1 (Nat.le_of_ble_eq_true rfl) dX7_wouldTotal_51 ⟨Nat.le_of_ble_eq_true rfl, Nat.le_of_ble_eq_true rfl⟩) hS (fun H locs (hW : GW z ad (GC z ad N X u20) H) hS => ?_)
      obtain ⟨v21, ev21, h⟩ := nm_s h
      refine lv_iinc (v := v21) (lv' := [(2, .int v21), (0, .ref (ad 0 0)), (1, .int y1)]) hx hb dX7_wouldTotal_54 hl (k := 0) rfl (by rw [ev21]; rfl) (by decide) rfl (fun ls hl => ?_)
      refine lv_goto (tgt := 34) hx hb dX7_wouldTotal_57 (by decide) ?_
      exact hih34 _ _ _ _ _ _ (lv_sub hl [0, 1, 2] rfl) hW hS h
  have hL34 : ∀ (n : Nat), ∀ (y2 : Int32) (y1 : Int32) (u : St) (H : Heap) (locs : List Loc) (ls : Array Slot), lv_has ls 3 [(2, .int y2), (0, .ref (ad 0 0)), (1, .int y1)] → GW z ad (GC z ad N X u) H → va_S (zA z) s.heap H locs → f_X7_wouldTotal_L34 N n y2 y1 u = some (.ok r9, u9) → WW H locs (F0 m 34 ls []) := by
    intro n
    induction n with
    | zero => intro y2 y1 u H locs ls hl hW hS h; exact absurd h (by intro q; cases q)
    | succ n ihn => intro y2 y1 u H locs ls hl hW hS h; exact hL34b (f_X7_wouldTotal_L34 N n) ihn y2 y1 u H locs ls hl hW hS h
  unfold f_X7_wouldTotal at h
  refine lv_iload_n hx hb dX7_wouldTotal_0 rfl (lv_at hl 1 rfl) ?_
  refine lv_iconst (v := 0) hx hb dX7_wouldTotal_1 (by decide) ?_
  refine lv_bipush (v := 60) hx hb dX7_wouldTotal_2 (by decide) ?_
  obtain ⟨r1, u3, h2, h⟩ := sb_s h
  refine nb_ci (nb_runS (As := [.int x1, .int 0, .int 60]) (rest := []) hx hb hml hown hSW hS hW (c_X7_isWithin l z ad N X u x1 0 60 h2) mf_X7_isWithin lk_X7_96 rfl ⟨rfl, rfl⟩ ⟨Nat.le_of_ble_eq_true rfl, Nat.le_of_ble_eq_true rfl⟩ hl.1 (Nat.le_of_ble_eq_true rfl) dX7_wouldTotal_4 ⟨Nat.le_of_ble_eq_true rfl, Nat.le_of_ble_eq_true rfl⟩) hS (fun H locs (hW : GW z ad (GC z ad N X u3) H) hS => ?_)
  refine lv_if_ne (tgt := 21) hx hb dX7_wouldTotal_7 (by decide) (fun c4 => ?_) (fun c4 => ?_)
  · replace h := ite_f h c4
    refine lv_aload_n hx hb dX7_wouldTotal_21 rfl (lv_at hl 0 rfl) ?_
    refine nb_get hx hb hT hK hown hW fl_X7_69 kr_0 (v := .ref (ad 10 1)) rfl dX7_wouldTotal_22 ?_
    refine lv_aload_n hx hb dX7_wouldTotal_25 rfl (lv_at hl 0 rfl) ?_
    refine nb_get hx hb hT hK hown hW fl_X7_37 kr_0 (v := .ref (ad 10 0)) rfl dX7_wouldTotal_26 ?_
    obtain ⟨r5, u7, h6, h⟩ := sb_s h
    refine nb_cv (nb_runV (As := [.ref (ad 10 0)]) (rest := []) hx hb hml hown hSW hS hW (c_X2_copyFrom l z ad N X u3 1 0 (by decide) (by decide) h6) mf_X2_copyFrom lk_X7_383 (kr_10 (by decide)) rfl rfl ⟨rfl, rfl⟩ ⟨Nat.le_of_ble_eq_true rfl, Nat.le_of_ble_eq_true rfl⟩ hl.1 (Nat.le_of_ble_eq_true rfl) dX7_wouldTotal_29 ⟨Nat.le_of_ble_eq_true rfl, Nat.le_of_ble_eq_true rfl⟩) hS (fun H locs (hW : GW z ad (GC z ad N X u7) H) hS => ?_)
    refine lv_iconst (v := 0) hx hb dX7_wouldTotal_32 (by decide) ?_
    refine lv_istore_n (lv' := [(2, .int 0), (0, .ref (ad 0 0)), (1, .int x1)]) hx hb dX7_wouldTotal_33 rfl hl (by decide) rfl (fun ls hl => ?_)
    exact hL34 1000000 _ _ _ _ _ _ (lv_sub hl [0, 1, 2] rfl) hW hS h
  · replace h := ite_t h c4
    exact absurd h (by intro q; cases q)
/-- Panyard$Arrangement.copyFrom -/
def f_X0_copyFrom (N : Nt) (u : St) (k0 : Nat) (k1 : Nat) : Option (Unit × St) :=
  nm (scpy u 42 k1 k0 10) fun u1 =>
  nm (sset u1 43 k0 0 (u1 43 k1 0)) fun u2 =>
  some ((), u2)
set_option maxRecDepth 100000 in
set_option maxHeartbeats 4000000 in
theorem c_X0_copyFrom (l : Launch) (z : Zt) (ad : Ad) (N : Nt) (X : Gt) (u : St) (k0 : Nat) (k1 : Nat) (hk0 : k0 < 2) (hk1 : k1 < 2) {r9 : Unit} {u9 : St} (h : f_X0_copyFrom N u k0 k1 = some (r9, u9)) : MC l z yX0_copyFrom cX0_copyFrom 2 none { frames := 1, cells := 0, slots := 0, locals := 60 } 0 0 [.ref (ad 8 k0), .ref (ad 8 k1)] ad (GC z ad N X u) (QV z ad (GC z ad N X u9)) := by
  refine Met.ofW (cc := cX0_copyFrom) (maxL := 2) (ret := none) (by decide) rfl ?_
  intro p e s m args below meth c s₁ B hml hv
  obtain ⟨rfl, hSW, hW⟩ := hv
  have hx := B.exec; have hb := B.bytes; have hr := B.returns; have hlocks := B.notSynchronized
  have hown : s.vm.findClass RX0 = some m.cls := findClass_of_methodNamed B.named
  obtain ⟨hT, hK, hST, hB0⟩ := id hSW
  have hS : va_S (zA z) s.heap s.heap [] := va_S.rf
  have hl := lv_entry ([.ref (ad 8 k0), .ref (ad 8 k1)]) (n := 2) (Nat.le_of_ble_eq_true rfl)
  rw [lg_entry_eq]
  generalize (lg_sl ([.ref (ad 8 k0), .ref (ad 8 k1)]) ++ List.replicate (2 - (lg_sl ([.ref (ad 8 k0), .ref (ad 8 k1)])).length) Slot.unset).toArray = ls at hl ⊢
  have hl : lv_has ls 2 [(0, .ref (ad 8 k0)), (1, .ref (ad 8 k1))] := hl
  unfold f_X0_copyFrom at h
  refine lv_aload_n hx hb dX0_copyFrom_0 rfl (lv_at hl 1 rfl) ?_
  refine nb_get hx hb hT hK hown hW fl_X0_9 (kr_8 hk1) (v := .ref (ad 9 k1)) rfl dX0_copyFrom_1 ?_
  refine lv_iconst (v := 0) hx hb dX0_copyFrom_4 (by decide) ?_
  refine lv_aload_n hx hb dX0_copyFrom_5 rfl (lv_at hl 0 rfl) ?_
  refine nb_get hx hb hT hK hown hW fl_X0_9 (kr_8 hk0) (v := .ref (ad 9 k0)) rfl dX0_copyFrom_6 ?_
  refine lv_iconst (v := 0) hx hb dX0_copyFrom_9 (by decide) ?_
  refine lv_bipush (v := 10) hx hb dX0_copyFrom_10 (by decide) ?_
  obtain ⟨u1, eu1, h⟩ := nm_s h
  refine nb_copy hx hb hml hl.1 hown hT hK hW hS 0 (kr_9 hk1) (kr_9 hk0) rfl (N9 := 10) (by decide) ⟨by decide, by decide⟩ (by decide) lk_X0_15 mf_arraycopy ⟨Nat.le_of_ble_eq_true rfl, Nat.le_of_ble_eq_true rfl⟩ ((gy_42 hk0).trans (congrArg (GC z ad N X) eu1.symm)) dX0_copyFrom_12 (fun H locs hW hS => ?_)
  refine lv_aload_n hx hb dX0_copyFrom_15 rfl (lv_at hl 0 rfl) ?_
  refine lv_aload_n hx hb dX0_copyFrom_16 rfl (lv_at hl 1 rfl) ?_
  refine nb_get hx hb hT hK hown hW fl_X0_21 (kr_8 hk1) (v := .int (u1 43 k1 0)) rfl dX0_copyFrom_17 ?_
  obtain ⟨u2, eu2, h⟩ := nm_s h
  refine nb_put hx hb hT hK hown hW hS fl_X0_21 tyX0 tyX0_ok nmX0 (kr_8 hk0) (v := .int (u1 43 k1 0)) rfl rfl rfl (Nat.le_of_ble_eq_true rfl) ((gp_43 hk0).trans (congrArg (GC z ad N X) eu2.symm)) dX0_copyFrom_20 (fun H locs hW hS => ?_)
  exact ne_vret hx hb hr hlocks hW hS dX0_copyFrom_23 h
/-- Panyard$Arrangement.shuffle -/
def f_X0_shuffle_L4b (N : Nt) (k0 : Nat) (ih4 : Int32 → Int32 → St → Option (Unit × St)) (y3 : Int32) (y2 : Int32) (u : St) : Option (Unit × St) :=
  if (u 43 k0 0) ≤ y3 then
    some ((), u)
  else
    nm ((u 43 k0 0) - y3) fun v2 =>
    gd (¬ v2 = 0) <|
    nm (irem y2 v2) fun v4 =>
    nm (y3 + v4) fun v5 =>
    nm (y2 / v2) fun v6 =>
    gd (inb v5 10) <|
    nm (u 42 k0 (ix v5)) fun v8 =>
    gd (inb y3 10) <|
    nm (sset u 42 k0 (ix v5) (u 42 k0 (ix y3))) fun u10 =>
    nm (sset u10 42 k0 (ix y3) v8) fun u11 =>
    nm (y3 + 1) fun v12 =>
    ih4 v12 v6 u11
def f_X0_shuffle_L4 (N : Nt) (k0 : Nat) : Nat → Int32 → Int32 → St → Option (Unit × St) := lp (fun _ _ _ => none) (f_X0_shuffle_L4b N k0)
def f_X0_shuffle (N : Nt) (u : St) (k0 : Nat) (x1 : Int32) : Option (Unit × St) :=
  f_X0_shuffle_L4 N k0 1000000 0 x1 u
set_option maxRecDepth 100000 in
set_option maxHeartbeats 4000000 in
theorem c_X0_shuffle (l : Launch) (z : Zt) (ad : Ad) (N : Nt) (X : Gt) (u : St) (k0 : Nat) (x1 : Int32) (hk0 : k0 < 2) {r9 : Unit} {u9 : St} (h : f_X0_shuffle N u k0 x1 = some (r9, u9)) : MC l z yX0_shuffle cX0_shuffle 7 none { frames := 0, cells := 0, slots := 0, locals := 0 } 0 0 [.ref (ad 8 k0), .int x1] ad (GC z ad N X u) (QV z ad (GC z ad N X u9)) := by
  refine Met.ofW (cc := cX0_shuffle) (maxL := 7) (ret := none) (by decide) rfl ?_
  intro p e s m args below meth c s₁ B hml hv
  obtain ⟨rfl, hSW, hW⟩ := hv
  have hx := B.exec; have hb := B.bytes; have hr := B.returns; have hlocks := B.notSynchronized
  have hown : s.vm.findClass RX0 = some m.cls := findClass_of_methodNamed B.named
  obtain ⟨hT, hK, hST, hB0⟩ := id hSW
  have hS : va_S (zA z) s.heap s.heap [] := va_S.rf
  have hl := lv_entry ([.ref (ad 8 k0), .int x1]) (n := 7) (Nat.le_of_ble_eq_true rfl)
  rw [lg_entry_eq]
  generalize (lg_sl ([.ref (ad 8 k0), .int x1]) ++ List.replicate (7 - (lg_sl ([.ref (ad 8 k0), .int x1])).length) Slot.unset).toArray = ls at hl ⊢
  have hl : lv_has ls 7 [(0, .ref (ad 8 k0)), (1, .int x1)] := hl
  let WW : Heap → List Loc → JFrame → Prop := fun H locs g => W p l e (headSpec [Cond.code yX0_shuffle cX0_shuffle 7 none] { frames := 0, cells := 0, slots := 0, locals := 0 }).room s m [.ref (ad 8 k0), .int x1].toArray below meth c H locs 0 0 (MQ below (QV z ad (GC z ad N X u9)) [.ref (ad 8 k0), .int x1].toArray s 0 0 (zA z)) g
  have hL4b : ∀ (ih4 : Int32 → Int32 → St → Option (Unit × St)) (hih4 : ∀ (y3 : Int32) (y2 : Int32) (u : St) (H : Heap) (locs : List Loc) (ls : Array Slot), lv_has ls 7 [(3, .int y3), (2, .int y2), (0, .ref (ad 8 k0))] → GW z ad (GC z ad N X u) H → va_S (zA z) s.heap H locs → ih4 y3 y2 u = some (r9, u9) → WW H locs (F0 m 4 ls [])), ∀ (y3 : Int32) (y2 : Int32) (u : St) (H : Heap) (locs : List Loc) (ls : Array Slot), lv_has ls 7 [(3, .int y3), (2, .int y2), (0, .ref (ad 8 k0))] → GW z ad (GC z ad N X u) H → va_S (zA z) s.heap H locs → f_X0_shuffle_L4b N k0 ih4 y3 y2 u = some (r9, u9) → WW H locs (F0 m 4 ls []) := by
    intro ih4 hih4 y3 y2 u H locs ls hl hW hS h
    change W p l e _ s m _ below meth c H locs 0 0 _ (F0 m 4 ls [])
    unfold f_X0_shuffle_L4b at h
    refine lv_iload_n hx hb dX0_shuffle_4 rfl (lv_at hl 0 rfl) ?_
    refine lv_aload_n hx hb dX0_shuffle_5 rfl (lv_at hl 2 rfl) ?_
    refine nb_get hx hb hT hK hown hW fl_X0_21 (kr_8 hk0) (v := .int (u 43 k0 0)) rfl dX0_shuffle_6 ?_
    refine lv_icmp_ge (tgt := 69) hx hb dX0_shuffle_9 (by decide) (fun c1 => ?_) (fun c1 => ?_)
    · replace h := ite_t h c1
      exact ne_vret hx hb hr hlocks hW hS dX0_shuffle_69 h
    · replace h := ite_f h c1
      refine lv_aload_n hx hb dX0_shuffle_12 rfl (lv_at hl 2 rfl) ?_
      refine nb_get hx hb hT hK hown hW fl_X0_21 (kr_8 hk0) (v := .int (u 43 k0 0)) rfl dX0_shuffle_13 ?_
      refine lv_iload_n hx hb dX0_shuffle_16 rfl (lv_at hl 0 rfl) ?_
      refine lv_isub hx hb dX0_shuffle_17 ?_
      refine lv_topi (fun v2 ev2 => ?_)
      replace h := nm_at ev2 h
      refine lv_istore (lv' := [(4, .int v2), (3, .int y3), (2, .int y2), (0, .ref (ad 8 k0))]) hx hb dX0_shuffle_18 hl (by decide) rfl (fun ls hl => ?_)
      refine lv_iload_n hx hb dX0_shuffle_20 rfl (lv_at hl 1 rfl) ?_
      refine lv_iload_n hx hb dX0_shuffle_21 rfl (lv_at hl 2 rfl) ?_
      refine lv_iload hx hb dX0_shuffle_22 (lv_at hl 0 rfl) ?_
      obtain ⟨g3, h⟩ := gd_s h
      refine lv_irem hx hb dX0_shuffle_24 g3 ?_
      refine lv_topi (fun v4 ev4 => ?_)
      replace h := nm_at ev4 h
      refine lv_iadd hx hb dX0_shuffle_25 ?_
      refine lv_topi (fun v5 ev5 => ?_)
      replace h := nm_at ev5 h
      refine lv_istore (lv' := [(5, .int v5), (4, .int v2), (3, .int y3), (2, .int y2), (0, .ref (ad 8 k0))]) hx hb dX0_shuffle_26 hl (by decide) rfl (fun ls hl => ?_)
      refine lv_iload_n hx hb dX0_shuffle_28 rfl (lv_at hl 3 rfl) ?_
      refine lv_iload hx hb dX0_shuffle_29 (lv_at hl 1 rfl) ?_
      refine lv_idiv hx hb dX0_shuffle_31 g3 ?_
      refine lv_topi (fun v6 ev6 => ?_)
      replace h := nm_at ev6 h
      refine lv_istore_n (lv' := [(2, .int v6), (5, .int v5), (4, .int v2), (3, .int y3), (0, .ref (ad 8 k0))]) hx hb dX0_shuffle_32 rfl hl (by decide) rfl (fun ls hl => ?_)
      refine lv_aload_n hx hb dX0_shuffle_33 rfl (lv_at hl 4 rfl) ?_
      refine nb_get hx hb hT hK hown hW fl_X0_9 (kr_8 hk0) (v := .ref (ad 9 k0)) rfl dX0_shuffle_34 ?_
      refine lv_iload hx hb dX0_shuffle_37 (lv_at hl 1 rfl) ?_
      obtain ⟨g7, h⟩ := gd_s h
      refine nb_iald hx hb hK hW 0 (kr_9 hk0) rfl (inb_in g7) dX0_shuffle_39 ?_
      refine lv_topi (fun v8 ev8 => ?_)
      replace h := nm_at ev8 h
      refine lv_istore (lv' := [(6, .int v8), (2, .int v6), (5, .int v5), (4, .int v2), (3, .int y3), (0, .ref (ad 8 k0))]) hx hb dX0_shuffle_40 hl (by decide) rfl (fun ls hl => ?_)
      refine lv_aload_n hx hb dX0_shuffle_42 rfl (lv_at hl 5 rfl) ?_
      refine nb_get hx hb hT hK hown hW fl_X0_9 (kr_8 hk0) (v := .ref (ad 9 k0)) rfl dX0_shuffle_43 ?_
      refine lv_iload hx hb dX0_shuffle_46 (lv_at hl 2 rfl) ?_
      refine lv_aload_n hx hb dX0_shuffle_48 rfl (lv_at hl 5 rfl) ?_
      refine nb_get hx hb hT hK hown hW fl_X0_9 (kr_8 hk0) (v := .ref (ad 9 k0)) rfl dX0_shuffle_49 ?_
      refine lv_iload_n hx hb dX0_shuffle_52 rfl (lv_at hl 4 rfl) ?_
      obtain ⟨g9, h⟩ := gd_s h
      refine nb_iald hx hb hK hW 0 (kr_9 hk0) rfl (inb_in g9) dX0_shuffle_53 ?_
      obtain ⟨u10, eu10, h⟩ := nm_s h
      refine nb_iast hx hb hK hW hS 0 (kr_9 hk0) rfl (inb_in g7) ((gp_42 hk0).trans (congrArg (GC z ad N X) eu10.symm)) dX0_shuffle_54 (fun H locs hW hS => ?_)
      refine lv_aload_n hx hb dX0_shuffle_55 rfl (lv_at hl 5 rfl) ?_
      refine nb_get hx hb hT hK hown hW fl_X0_9 (kr_8 hk0) (v := .ref (ad 9 k0)) rfl dX0_shuffle_56 ?_
      refine lv_iload_n hx hb dX0_shuffle_59 rfl (lv_at hl 4 rfl) ?_
      refine lv_iload hx hb dX0_shuffle_60 (lv_at hl 0 rfl) ?_
      obtain ⟨u11, eu11, h⟩ := nm_s h
      refine nb_iast hx hb hK hW hS 0 (kr_9 hk0) rfl (inb_in g9) ((gp_42 hk0).trans (congrArg (GC z ad N X) eu11.symm)) dX0_shuffle_62 (fun H locs hW hS => ?_)
      obtain ⟨v12, ev12, h⟩ := nm_s h
      refine lv_iinc (v := v12) (lv' := [(3, .int v12), (6, .int v8), (2, .int v6), (5, .int v5), (4, .int v2), (0, .ref (ad 8 k0))]) hx hb dX0_shuffle_63 hl (k := 4) rfl (by rw [ev12]; rfl) (by decide) rfl (fun ls hl => ?_)
      refine lv_goto (tgt := 4) hx hb dX0_shuffle_66 (by decide) ?_
      exact hih4 _ _ _ _ _ _ (lv_sub hl [0, 2, 5] rfl) hW hS h
  have hL4 : ∀ (n : Nat), ∀ (y3 : Int32) (y2 : Int32) (u : St) (H : Heap) (locs : List Loc) (ls : Array Slot), lv_has ls 7 [(3, .int y3), (2, .int y2), (0, .ref (ad 8 k0))] → GW z ad (GC z ad N X u) H → va_S (zA z) s.heap H locs → f_X0_shuffle_L4 N k0 n y3 y2 u = some (r9, u9) → WW H locs (F0 m 4 ls []) := by
    intro n
    induction n with
    | zero => intro y3 y2 u H locs ls hl hW hS h; exact absurd h (by intro q; cases q)
    | succ n ihn => intro y3 y2 u H locs ls hl hW hS h; exact hL4b (f_X0_shuffle_L4 N k0 n) ihn y3 y2 u H locs ls hl hW hS h
  unfold f_X0_shuffle at h
  refine lv_iload_n hx hb dX0_shuffle_0 rfl (lv_at hl 1 rfl) ?_
  refine lv_istore_n (lv' := [(2, .int x1), (0, .ref (ad 8 k0)), (1, .int x1)]) hx hb dX0_shuffle_1 rfl hl (by decide) rfl (fun ls hl => ?_)
  refine lv_iconst (v := 0) hx hb dX0_shuffle_2 (by decide) ?_
  refine lv_istore_n (lv' := [(3, .int 0), (2, .int x1), (0, .ref (ad 8 k0)), (1, .int x1)]) hx hb dX0_shuffle_3 rfl hl (by decide) rfl (fun ls hl => ?_)
  exact hL4 1000000 _ _ _ _ _ _ (lv_sub hl [0, 1, 2] rfl) hW hS h
/-- Panyard.bestOrder -/
def f_X7_bestOrder_L56b (N : Nt) (ih56 : Int32 → Int32 → Int32 → St → Option (Except String Int32 × St)) (y4 : Int32) (y3 : Int32) (y2 : Int32) (u : St) : Option (Except String Int32 × St) :=
  if y2 ≤ y4 then
    sb (f_X7_tone N u) fun r8 u10 =>
    some (.ok (r8 + y3), u10)
  else
    sb (f_X0_copyFrom N u 1 0) fun r11 u13 =>
    sb (f_X0_shuffle N u13 1 y4) fun r14 u16 =>
    sb (f_X7_heard N u16 1) fun r17 u19 =>
    nm (mmax y3 r17) fun v20 =>
    nm (y4 + 1) fun v21 =>
    ih56 v21 v20 y2 u19
def f_X7_bestOrder_L56 (N : Nt) : Nat → Int32 → Int32 → Int32 → St → Option (Except String Int32 × St) := lp (fun _ _ _ _ => none) (f_X7_bestOrder_L56b N)
def f_X7_bestOrder_L28b (N : Nt) (ih28 : Int32 → Int32 → Int32 → St → Option (Except String Int32 × St)) (y3 : Int32) (y2 : Int32) (y1 : Int32) (u : St) : Option (Except String Int32 × St) :=
  if y1 < y3 then
    sb (f_X7_weigh N u 0) fun r4 u6 =>
    f_X7_bestOrder_L56 N 1000000 0 0 y2 u6
  else
    nm (y2 * y3) fun v22 =>
    nm (y3 + 1) fun v23 =>
    ih28 v23 v22 y1 u
def f_X7_bestOrder_L28 (N : Nt) : Nat → Int32 → Int32 → Int32 → St → Option (Except String Int32 × St) := lp (fun _ _ _ _ => none) (f_X7_bestOrder_L28b N)
def f_X7_bestOrder (N : Nt) (u : St) : Option (Except String Int32 × St) :=
  nm (u 43 0 0) fun v1 =>
  if v1 ≤ 5 then
    f_X7_bestOrder_L28 N 1000000 2 1 v1 u
  else
    some (.error "java/lang/IllegalStateException", u)
set_option maxRecDepth 100000 in
set_option maxHeartbeats 4000000 in
theorem c_X7_bestOrder (l : Launch) (z : Zt) (ad : Ad) (N : Nt) (X : Gt) (u : St) {r9 : Int32} {u9 : St} (h : f_X7_bestOrder N u = some (.ok r9, u9)) : MC l z yX7_bestOrder cX7_bestOrder 5 (some .int) { frames := 4, cells := 0, slots := 0, locals := 94 } 0 0 [.ref (ad 0 0)] ad (GC z ad N X u) (QI z ad (GC z ad N X u9) r9) := by
  refine Met.ofW (cc := cX7_bestOrder) (maxL := 5) (ret := (some .int)) (by decide) rfl ?_
  intro p e s m args below meth c s₁ B hml hv
  obtain ⟨rfl, hSW, hW⟩ := hv
  have hx := B.exec; have hb := B.bytes; have hr := B.returns; have hlocks := B.notSynchronized
  have hown : s.vm.findClass RX7 = some m.cls := findClass_of_methodNamed B.named
  obtain ⟨hT, hK, hST, hB0⟩ := id hSW
  have hS : va_S (zA z) s.heap s.heap [] := va_S.rf
  have hl := lv_entry ([.ref (ad 0 0)]) (n := 5) (Nat.le_of_ble_eq_true rfl)
  rw [lg_entry_eq]
  generalize (lg_sl ([.ref (ad 0 0)]) ++ List.replicate (5 - (lg_sl ([.ref (ad 0 0)])).length) Slot.unset).toArray = ls at hl ⊢
  have hl : lv_has ls 5 [(0, .ref (ad 0 0))] := hl
  let WW : Heap → List Loc → JFrame → Prop := fun H locs g => W p l e (headSpec [Cond.code yX7_bestOrder cX7_bestOrder 5 (some .int)] { frames := 4, cells := 0, slots := 0, locals := 94 }).room s m [.ref (ad 0 0)].toArray below meth c H locs 0 0 (MQ below (QI z ad (GC z ad N X u9) r9) [.ref (ad 0 0)].toArray s 0 0 (zA z)) g
  have hL56b : ∀ (ih56 : Int32 → Int32 → Int32 → St → Option (Except String Int32 × St)) (hih56 : ∀ (y4 : Int32) (y3 : Int32) (y2 : Int32) (u : St) (H : Heap) (locs : List Loc) (ls : Array Slot), lv_has ls 5 [(4, .int y4), (3, .int y3), (2, .int y2), (0, .ref (ad 0 0))] → GW z ad (GC z ad N X u) H → va_S (zA z) s.heap H locs → ih56 y4 y3 y2 u = some (.ok r9, u9) → WW H locs (F0 m 56 ls [])), ∀ (y4 : Int32) (y3 : Int32) (y2 : Int32) (u : St) (H : Heap) (locs : List Loc) (ls : Array Slot), lv_has ls 5 [(4, .int y4), (3, .int y3), (2, .int y2), (0, .ref (ad 0 0))] → GW z ad (GC z ad N X u) H → va_S (zA z) s.heap H locs → f_X7_bestOrder_L56b N ih56 y4 y3 y2 u = some (.ok r9, u9) → WW H locs (F0 m 56 ls []) := by
    intro ih56 hih56 y4 y3 y2 u H locs ls hl hW hS h
    change W p l e _ s m _ below meth c H locs 0 0 _ (F0 m 56 ls [])
    unfold f_X7_bestOrder_L56b at h
    refine lv_iload hx hb dX7_bestOrder_56 (lv_at hl 0 rfl) ?_
    refine lv_iload_n hx hb dX7_bestOrder_58 rfl (lv_at hl 2 rfl) ?_
    refine lv_icmp_ge (tgt := 101) hx hb dX7_bestOrder_59 (by decide) (fun c7 => ?_) (fun c7 => ?_)
    · replace h := ite_t h c7
      refine lv_aload_n hx hb dX7_bestOrder_101 rfl (lv_at hl 3 rfl) ?_
      obtain ⟨r8, u10, h9, h⟩ := sb_s h
      refine nb_ci (nb_runV (As := []) (rest := []) hx hb hml hown hSW hS hW (c_X7_tone l z ad N X u h9) mf_X7_tone lk_X7_359 kr_0 rfl rfl ⟨rfl, rfl⟩ ⟨Nat.le_of_ble_eq_true rfl, Nat.le_of_ble_eq_true rfl⟩ hl.1 (Nat.le_of_ble_eq_true rfl) dX7_bestOrder_102 ⟨Nat.le_of_ble_eq_true rfl, Nat.le_of_ble_eq_true rfl⟩) hS (fun H locs (hW : GW z ad (GC z ad N X u10) H) hS => ?_)
      refine lv_iload_n hx hb dX7_bestOrder_105 rfl (lv_at hl 1 rfl) ?_
      refine lv_iadd hx hb dX7_bestOrder_106 ?_
      exact ne_iretX hx hb hr rfl hlocks hW hS dX7_bestOrder_107 h
    · replace h := ite_f h c7
      refine lv_aload_n hx hb dX7_bestOrder_62 rfl (lv_at hl 3 rfl) ?_
      refine nb_get hx hb hT hK hown hW fl_X7_66 kr_0 (v := .ref (ad 8 1)) rfl dX7_bestOrder_63 ?_
      refine lv_aload_n hx hb dX7_bestOrder_66 rfl (lv_at hl 3 rfl) ?_
      refine nb_get hx hb hT hK hown hW fl_X7_30 kr_0 (v := .ref (ad 8 0)) rfl dX7_bestOrder_67 ?_
      obtain ⟨r11, u13, h12, h⟩ := sb_s h
      refine nb_cv (nb_runV (As := [.ref (ad 8 0)]) (rest := []) hx hb hml hown hSW hS hW (c_X0_copyFrom l z ad N X u 1 0 (by decide) (by decide) h12) mf_X0_copyFrom lk_X7_391 (kr_8 (by decide)) rfl rfl ⟨rfl, rfl⟩ ⟨Nat.le_of_ble_eq_true rfl, Nat.le_of_ble_eq_true rfl⟩ hl.1 (Nat.le_of_ble_eq_true rfl) dX7_bestOrder_70 ⟨Nat.le_of_ble_eq_true rfl, Nat.le_of_ble_eq_true rfl⟩) hS (fun H locs (hW : GW z ad (GC z ad N X u13) H) hS => ?_)
      refine lv_aload_n hx hb dX7_bestOrder_73 rfl (lv_at hl 3 rfl) ?_
      refine nb_get hx hb hT hK hown hW fl_X7_66 kr_0 (v := .ref (ad 8 1)) rfl dX7_bestOrder_74 ?_
      refine lv_iload hx hb dX7_bestOrder_77 (lv_at hl 0 rfl) ?_
      obtain ⟨r14, u16, h15, h⟩ := sb_s h
      refine nb_cv (nb_runV (As := [.int y4]) (rest := []) hx hb hml hown hSW hS hW (c_X0_shuffle l z ad N X u13 1 y4 (by decide) h15) mf_X0_shuffle lk_X7_394 (kr_8 (by decide)) rfl rfl ⟨rfl, rfl⟩ ⟨Nat.le_of_ble_eq_true rfl, Nat.le_of_ble_eq_true rfl⟩ hl.1 (Nat.le_of_ble_eq_true rfl) dX7_bestOrder_79 ⟨Nat.le_of_ble_eq_true rfl, Nat.le_of_ble_eq_true rfl⟩) hS (fun H locs (hW : GW z ad (GC z ad N X u16) H) hS => ?_)
      refine lv_iload_n hx hb dX7_bestOrder_82 rfl (lv_at hl 1 rfl) ?_
      refine lv_aload_n hx hb dX7_bestOrder_83 rfl (lv_at hl 3 rfl) ?_
      refine lv_aload_n hx hb dX7_bestOrder_84 rfl (lv_at hl 3 rfl) ?_
      refine nb_get hx hb hT hK hown hW fl_X7_66 kr_0 (v := .ref (ad 8 1)) rfl dX7_bestOrder_85 ?_
      obtain ⟨r17, u19, h18, h⟩ := sb_s h
      refine nb_ci (nb_runV (As := [.ref (ad 8 1)]) (rest := [.int y3]) hx hb hml hown hSW hS hW (c_X7_heard l z ad N X u16 1 (by decide) h18) mf_X7_heard lk_X7_386 kr_0 rfl rfl ⟨rfl, rfl⟩ ⟨Nat.le_of_ble_eq_true rfl, Nat.le_of_ble_eq_true rfl⟩ hl.1 (Nat.le_of_ble_eq_true rfl) dX7_bestOrder_88 ⟨Nat.le_of_ble_eq_true rfl, Nat.le_of_ble_eq_true rfl⟩) hS (fun H locs (hW : GW z ad (GC z ad N X u19) H) hS => ?_)
      refine nb_mmax hx hb hml hl.1 hown hT lm_X7_397 mf_Math_max ⟨Nat.le_of_ble_eq_true rfl, Nat.le_of_ble_eq_true rfl⟩ ⟨Nat.le_of_ble_eq_true rfl, Nat.le_of_ble_eq_true rfl⟩ dX7_bestOrder_91 ?_
      refine lv_topi (fun v20 ev20 => ?_)
      replace h := nm_at ev20 h
      refine lv_istore_n (lv' := [(3, .int v20), (4, .int y4), (2, .int y2), (0, .ref (ad 0 0))]) hx hb dX7_bestOrder_94 rfl hl (by decide) rfl (fun ls hl => ?_)
      obtain ⟨v21, ev21, h⟩ := nm_s h
      refine lv_iinc (v := v21) (lv' := [(4, .int v21), (3, .int v20), (2, .int y2), (0, .ref (ad 0 0))]) hx hb dX7_bestOrder_95 hl (k := 1) rfl (by rw [ev21]; rfl) (by decide) rfl (fun ls hl => ?_)
      refine lv_goto (tgt := 56) hx hb dX7_bestOrder_98 (by decide) ?_
      exact hih56 _ _ _ _ _ _ _ (lv_sub hl [0, 1, 2, 3] rfl) hW hS h
  have hL56 : ∀ (n : Nat), ∀ (y4 : Int32) (y3 : Int32) (y2 : Int32) (u : St) (H : Heap) (locs : List Loc) (ls : Array Slot), lv_has ls 5 [(4, .int y4), (3, .int y3), (2, .int y2), (0, .ref (ad 0 0))] → GW z ad (GC z ad N X u) H → va_S (zA z) s.heap H locs → f_X7_bestOrder_L56 N n y4 y3 y2 u = some (.ok r9, u9) → WW H locs (F0 m 56 ls []) := by
    intro n
    induction n with
    | zero => intro y4 y3 y2 u H locs ls hl hW hS h; exact absurd h (by intro q; cases q)
    | succ n ihn => intro y4 y3 y2 u H locs ls hl hW hS h; exact hL56b (f_X7_bestOrder_L56 N n) ihn y4 y3 y2 u H locs ls hl hW hS h
  have hL28b : ∀ (ih28 : Int32 → Int32 → Int32 → St → Option (Except String Int32 × St)) (hih28 : ∀ (y3 : Int32) (y2 : Int32) (y1 : Int32) (u : St) (H : Heap) (locs : List Loc) (ls : Array Slot), lv_has ls 5 [(3, .int y3), (2, .int y2), (1, .int y1), (0, .ref (ad 0 0))] → GW z ad (GC z ad N X u) H → va_S (zA z) s.heap H locs → ih28 y3 y2 y1 u = some (.ok r9, u9) → WW H locs (F0 m 28 ls [])), ∀ (y3 : Int32) (y2 : Int32) (y1 : Int32) (u : St) (H : Heap) (locs : List Loc) (ls : Array Slot), lv_has ls 5 [(3, .int y3), (2, .int y2), (1, .int y1), (0, .ref (ad 0 0))] → GW z ad (GC z ad N X u) H → va_S (zA z) s.heap H locs → f_X7_bestOrder_L28b N ih28 y3 y2 y1 u = some (.ok r9, u9) → WW H locs (F0 m 28 ls []) := by
    intro ih28 hih28 y3 y2 y1 u H locs ls hl hW hS h
    change W p l e _ s m _ below meth c H locs 0 0 _ (F0 m 28 ls [])
    unfold f_X7_bestOrder_L28b at h
    refine lv_iload_n hx hb dX7_bestOrder_28 rfl (lv_at hl 0 rfl) ?_
    refine lv_iload_n hx hb dX7_bestOrder_29 rfl (lv_at hl 2 rfl) ?_
    refine lv_icmp_gt (tgt := 43) hx hb dX7_bestOrder_30 (by decide) (fun c3 => ?_) (fun c3 => ?_)
    · replace h := ite_t h c3
      refine lv_aload_n hx hb dX7_bestOrder_43 rfl (lv_at hl 3 rfl) ?_
      refine lv_aload_n hx hb dX7_bestOrder_44 rfl (lv_at hl 3 rfl) ?_
      refine nb_get hx hb hT hK hown hW fl_X7_37 kr_0 (v := .ref (ad 10 0)) rfl dX7_bestOrder_45 ?_
      obtain ⟨r4, u6, h5, h⟩ := sb_s h
      refine nb_cv (nb_runV (As := [.ref (ad 10 0)]) (rest := []) hx hb hml hown hSW hS hW (c_X7_weigh l z ad N X u 0 (by decide) h5) mf_X7_weigh lk_X7_345 kr_0 rfl rfl ⟨rfl, rfl⟩ ⟨Nat.le_of_ble_eq_true rfl, Nat.le_of_ble_eq_true rfl⟩ hl.1 (Nat.le_of_ble_eq_true rfl) dX7_bestOrder_48 ⟨Nat.le_of_ble_eq_true rfl, Nat.le_of_ble_eq_true rfl⟩) hS (fun H locs (hW : GW z ad (GC z ad N X u6) H) hS => ?_)
      refine lv_iconst (v := 0) hx hb dX7_bestOrder_51 (by decide) ?_
      refine lv_istore_n (lv' := [(3, .int 0), (2, .int y2), (1, .int y1), (0, .ref (ad 0 0))]) hx hb dX7_bestOrder_52 rfl hl (by decide) rfl (fun ls hl => ?_)
      refine lv_iconst (v := 0) hx hb dX7_bestOrder_53 (by decide) ?_
      refine lv_istore (lv' := [(4, .int 0), (3, .int 0), (2, .int y2), (1, .int y1), (0, .ref (ad 0 0))]) hx hb dX7_bestOrder_54 hl (by decide) rfl (fun ls hl => ?_)
      exact hL56 1000000 _ _ _ _ _ _ _ (lv_sub hl [0, 1, 2, 4] rfl) hW hS h
    · replace h := ite_f h c3
      refine lv_iload_n hx hb dX7_bestOrder_33 rfl (lv_at hl 1 rfl) ?_
      refine lv_iload_n hx hb dX7_bestOrder_34 rfl (lv_at hl 0 rfl) ?_
      refine lv_imul hx hb dX7_bestOrder_35 ?_
      refine lv_topi (fun v22 ev22 => ?_)
      replace h := nm_at ev22 h
      refine lv_istore_n (lv' := [(2, .int v22), (3, .int y3), (1, .int y1), (0, .ref (ad 0 0))]) hx hb dX7_bestOrder_36 rfl hl (by decide) rfl (fun ls hl => ?_)
      obtain ⟨v23, ev23, h⟩ := nm_s h
      refine lv_iinc (v := v23) (lv' := [(3, .int v23), (2, .int v22), (1, .int y1), (0, .ref (ad 0 0))]) hx hb dX7_bestOrder_37 hl (k := 1) rfl (by rw [ev23]; rfl) (by decide) rfl (fun ls hl => ?_)
      refine lv_goto (tgt := 28) hx hb dX7_bestOrder_40 (by decide) ?_
      exact hih28 _ _ _ _ _ _ _ (lv_sub hl [0, 1, 2, 3] rfl) hW hS h
  have hL28 : ∀ (n : Nat), ∀ (y3 : Int32) (y2 : Int32) (y1 : Int32) (u : St) (H : Heap) (locs : List Loc) (ls : Array Slot), lv_has ls 5 [(3, .int y3), (2, .int y2), (1, .int y1), (0, .ref (ad 0 0))] → GW z ad (GC z ad N X u) H → va_S (zA z) s.heap H locs → f_X7_bestOrder_L28 N n y3 y2 y1 u = some (.ok r9, u9) → WW H locs (F0 m 28 ls []) := by
    intro n
    induction n with
    | zero => intro y3 y2 y1 u H locs ls hl hW hS h; exact absurd h (by intro q; cases q)
    | succ n ihn => intro y3 y2 y1 u H locs ls hl hW hS h; exact hL28b (f_X7_bestOrder_L28 N n) ihn y3 y2 y1 u H locs ls hl hW hS h
  unfold f_X7_bestOrder at h
  refine lv_aload_n hx hb dX7_bestOrder_0 rfl (lv_at hl 0 rfl) ?_
  refine nb_get hx hb hT hK hown hW fl_X7_30 kr_0 (v := .ref (ad 8 0)) rfl dX7_bestOrder_1 ?_
  refine nb_get hx hb hT hK hown hW fl_X7_160 (kr_8 (by decide)) (v := .int (u 43 0 0)) rfl dX7_bestOrder_4 ?_
  refine lv_topi (fun v1 ev1 => ?_)
  replace h := nm_at ev1 h
  refine lv_istore_n (lv' := [(1, .int v1), (0, .ref (ad 0 0))]) hx hb dX7_bestOrder_7 rfl hl (by decide) rfl (fun ls hl => ?_)
  refine lv_iload_n hx hb dX7_bestOrder_8 rfl (lv_at hl 0 rfl) ?_
  refine lv_iconst (v := 5) hx hb dX7_bestOrder_9 (by decide) ?_
  refine lv_icmp_le (tgt := 24) hx hb dX7_bestOrder_10 (by decide) (fun c2 => ?_) (fun c2 => ?_)
  · replace h := ite_t h c2
    refine lv_iconst (v := 1) hx hb dX7_bestOrder_24 (by decide) ?_
    refine lv_istore_n (lv' := [(2, .int 1), (1, .int v1), (0, .ref (ad 0 0))]) hx hb dX7_bestOrder_25 rfl hl (by decide) rfl (fun ls hl => ?_)
    refine lv_iconst (v := 2) hx hb dX7_bestOrder_26 (by decide) ?_
    refine lv_istore_n (lv' := [(3, .int 2), (2, .int 1), (1, .int v1), (0, .ref (ad 0 0))]) hx hb dX7_bestOrder_27 rfl hl (by decide) rfl (fun ls hl => ?_)
    exact hL28 1000000 _ _ _ _ _ _ _ (lv_sub hl [0, 1, 2, 3] rfl) hW hS h
  · replace h := ite_f h c2
    exact absurd h (by intro q; cases q)
/-- Panyard.heardIfTaught -/
def f_X7_heardIfTaught (N : Nt) (u : St) (x1 : Int32) (x2 : Int32) (x3 : Int32) : Option (Int32 × St) :=
  gd (inb x2 8) <|
  nm (u 70 0 (ix x2)) fun v2 =>
  sb (f_X7_giveLesson N u 1 x1 x2 x3) fun r3 u5 =>
  sb (f_X7_levelOf N u5 x2 1) fun r6 u8 =>
  nm (sset u8 70 0 (ix x2) r6) fun u9 =>
  sb (f_X7_heard N u9 0) fun r10 u12 =>
  nm (sset u12 70 0 (ix x2) v2) fun u13 =>
  some (r10, u13)
set_option maxRecDepth 100000 in
set_option maxHeartbeats 4000000 in
theorem c_X7_heardIfTaught (l : Launch) (z : Zt) (ad : Ad) (N : Nt) (X : Gt) (u : St) (x1 : Int32) (x2 : Int32) (x3 : Int32) {r9 : Int32} {u9 : St} (h : f_X7_heardIfTaught N u x1 x2 x3 = some (r9, u9)) : MC l z yX7_heardIfTaught cX7_heardIfTaught 6 (some .int) { frames := 4, cells := 0, slots := 0, locals := 88 } 0 0 [.ref (ad 0 0), .int x1, .int x2, .int x3] ad (GC z ad N X u) (QI z ad (GC z ad N X u9) r9) := by
  refine Met.ofW (cc := cX7_heardIfTaught) (maxL := 6) (ret := (some .int)) (by decide) rfl ?_
  intro p e s m args below meth c s₁ B hml hv
  obtain ⟨rfl, hSW, hW⟩ := hv
  have hx := B.exec; have hb := B.bytes; have hr := B.returns; have hlocks := B.notSynchronized
  have hown : s.vm.findClass RX7 = some m.cls := findClass_of_methodNamed B.named
  obtain ⟨hT, hK, hST, hB0⟩ := id hSW
  have hS : va_S (zA z) s.heap s.heap [] := va_S.rf
  have hl := lv_entry ([.ref (ad 0 0), .int x1, .int x2, .int x3]) (n := 6) (Nat.le_of_ble_eq_true rfl)
  rw [lg_entry_eq]
  generalize (lg_sl ([.ref (ad 0 0), .int x1, .int x2, .int x3]) ++ List.replicate (6 - (lg_sl ([.ref (ad 0 0), .int x1, .int x2, .int x3])).length) Slot.unset).toArray = ls at hl ⊢
  have hl : lv_has ls 6 [(0, .ref (ad 0 0)), (1, .int x1), (2, .int x2), (3, .int x3)] := hl
  unfold f_X7_heardIfTaught at h
  refine lv_aload_n hx hb dX7_heardIfTaught_0 rfl (lv_at hl 0 rfl) ?_
  refine nb_get hx hb hT hK hown hW fl_X7_72 kr_0 (v := .ref (ad 4 0)) rfl dX7_heardIfTaught_1 ?_
  refine lv_iload_n hx hb dX7_heardIfTaught_4 rfl (lv_at hl 2 rfl) ?_
  obtain ⟨g1, h⟩ := gd_s h
  refine nb_iald hx hb hK hW 0 kr_4 rfl (inb_in g1) dX7_heardIfTaught_5 ?_
  refine lv_topi (fun v2 ev2 => ?_)
  replace h := nm_at ev2 h
  refine lv_istore (lv' := [(4, .int v2), (0, .ref (ad 0 0)), (1, .int x1), (2, .int x2), (3, .int x3)]) hx hb dX7_heardIfTaught_6 hl (by decide) rfl (fun ls hl => ?_)
  refine lv_aload_n hx hb dX7_heardIfTaught_8 rfl (lv_at hl 1 rfl) ?_
  refine lv_aload_n hx hb dX7_heardIfTaught_9 rfl (lv_at hl 1 rfl) ?_
  refine nb_get hx hb hT hK hown hW fl_X7_69 kr_0 (v := .ref (ad 10 1)) rfl dX7_heardIfTaught_10 ?_
  refine lv_iload_n hx hb dX7_heardIfTaught_13 rfl (lv_at hl 2 rfl) ?_
  refine lv_iload_n hx hb dX7_heardIfTaught_14 rfl (lv_at hl 3 rfl) ?_
  refine lv_iload_n hx hb dX7_heardIfTaught_15 rfl (lv_at hl 4 rfl) ?_
  obtain ⟨r3, u5, h4, h⟩ := sb_s h
  refine nb_cv (nb_runV (As := [.ref (ad 10 1), .int x1, .int x2, .int x3]) (rest := []) hx hb hml hown hSW hS hW (c_X7_giveLesson l z ad N X u 1 x1 x2 x3 (by decide) h4) mf_X7_giveLesson lk_X7_221 kr_0 rfl rfl ⟨rfl, rfl⟩ ⟨Nat.le_of_ble_eq_true rfl, Nat.le_of_ble_eq_true rfl⟩ hl.1 (Nat.le_of_ble_eq_true rfl) dX7_heardIfTaught_16 ⟨Nat.le_of_ble_eq_true rfl, Nat.le_of_ble_eq_true rfl⟩) hS (fun H locs (hW : GW z ad (GC z ad N X u5) H) hS => ?_)
  refine lv_aload_n hx hb dX7_heardIfTaught_19 rfl (lv_at hl 1 rfl) ?_
  refine nb_get hx hb hT hK hown hW fl_X7_72 kr_0 (v := .ref (ad 4 0)) rfl dX7_heardIfTaught_20 ?_
  refine lv_iload_n hx hb dX7_heardIfTaught_23 rfl (lv_at hl 3 rfl) ?_
  refine lv_aload_n hx hb dX7_heardIfTaught_24 rfl (lv_at hl 1 rfl) ?_
  refine lv_iload_n hx hb dX7_heardIfTaught_25 rfl (lv_at hl 3 rfl) ?_
  refine lv_aload_n hx hb dX7_heardIfTaught_26 rfl (lv_at hl 1 rfl) ?_
  refine nb_get hx hb hT hK hown hW fl_X7_69 kr_0 (v := .ref (ad 10 1)) rfl dX7_heardIfTaught_27 ?_
  obtain ⟨r6, u8, h7, h⟩ := sb_s h
  refine nb_ci (nb_runV (As := [.int x2, .ref (ad 10 1)]) (rest := [.int x2, .ref (ad 4 0)]) hx hb hml hown hSW hS hW (c_X7_levelOf l z ad N X u5 x2 1 (by decide) h7) mf_X7_levelOf lk_X7_498 kr_0 rfl rfl ⟨rfl, rfl⟩ ⟨Nat.le_of_ble_eq_true rfl, Nat.le_of_ble_eq_true rfl⟩ hl.1 (Nat.le_of_ble_eq_true rfl) dX7_heardIfTaught_30 ⟨Nat.le_of_ble_eq_true rfl, Nat.le_of_ble_eq_true rfl⟩) hS (fun H locs (hW : GW z ad (GC z ad N X u8) H) hS => ?_)
  obtain ⟨u9, eu9, h⟩ := nm_s h
  refine nb_iast hx hb hK hW hS 0 kr_4 rfl (inb_in g1) ((gp_70).trans (congrArg (GC z ad N X) eu9.symm)) dX7_heardIfTaught_33 (fun H locs hW hS => ?_)
  refine lv_aload_n hx hb dX7_heardIfTaught_34 rfl (lv_at hl 1 rfl) ?_
  refine lv_aload_n hx hb dX7_heardIfTaught_35 rfl (lv_at hl 1 rfl) ?_
  refine nb_get hx hb hT hK hown hW fl_X7_30 kr_0 (v := .ref (ad 8 0)) rfl dX7_heardIfTaught_36 ?_
  obtain ⟨r10, u12, h11, h⟩ := sb_s h
  refine nb_ci (nb_runV (As := [.ref (ad 8 0)]) (rest := []) hx hb hml hown hSW hS hW (c_X7_heard l z ad N X u9 0 (by decide) h11) mf_X7_heard lk_X7_386 kr_0 rfl rfl ⟨rfl, rfl⟩ ⟨Nat.le_of_ble_eq_true rfl, Nat.le_of_ble_eq_true rfl⟩ hl.1 (Nat.le_of_ble_eq_true rfl) dX7_heardIfTaught_39 ⟨Nat.le_of_ble_eq_true rfl, Nat.le_of_ble_eq_true rfl⟩) hS (fun H locs (hW : GW z ad (GC z ad N X u12) H) hS => ?_)
  refine lv_istore (lv' := [(5, .int r10), (4, .int v2), (0, .ref (ad 0 0)), (1, .int x1), (2, .int x2), (3, .int x3)]) hx hb dX7_heardIfTaught_42 hl (by decide) rfl (fun ls hl => ?_)
  refine lv_aload_n hx hb dX7_heardIfTaught_44 rfl (lv_at hl 2 rfl) ?_
  refine nb_get hx hb hT hK hown hW fl_X7_72 kr_0 (v := .ref (ad 4 0)) rfl dX7_heardIfTaught_45 ?_
  refine lv_iload_n hx hb dX7_heardIfTaught_48 rfl (lv_at hl 4 rfl) ?_
  refine lv_iload hx hb dX7_heardIfTaught_49 (lv_at hl 1 rfl) ?_
  obtain ⟨u13, eu13, h⟩ := nm_s h
  refine nb_iast hx hb hK hW hS 0 kr_4 rfl (inb_in g1) ((gp_70).trans (congrArg (GC z ad N X) eu13.symm)) dX7_heardIfTaught_51 (fun H locs hW hS => ?_)
  refine lv_iload hx hb dX7_heardIfTaught_52 (lv_at hl 0 rfl) ?_
  exact ne_iret hx hb hr rfl hlocks hW hS dX7_heardIfTaught_54 h
/-- Panyard.bestTeach -/
def f_X7_bestTeach_L36b (N : Nt) (ih36 : Int32 → Int32 → Int32 → Int32 → Int32 → St → Option (Except String Int32 × St)) (y5 : Int32) (y4 : Int32) (y3 : Int32) (y1 : Int32) (y2 : Int32) (u : St) : Option (Except String Int32 × St) :=
  if (u 1 0 0) ≤ y5 then
    some (.ok y3, u)
  else
    gd (inb y5 8) <|
    gd ((ix y5) < N 14) <|
    gd (inb y1 8) <|
    gd ((ix y1) < N 15) <|
    if (u 20 (ix y5) 0) = (u 30 (ix y1) 0) then
      sb (f_X7_heardIfTaught N u y1 y5 y2) fun r20 u22 =>
      if r20 ≤ y4 then
        nm (y5 + 1) fun v24 =>
        ih36 v24 y4 y3 y1 y2 u22
      else
        nm (y5 + 1) fun v25 =>
        ih36 v25 r20 y5 y1 y2 u22
    else
      nm (y5 + 1) fun v19 =>
      ih36 v19 y4 y3 y1 y2 u
def f_X7_bestTeach_L36 (N : Nt) : Nat → Int32 → Int32 → Int32 → Int32 → Int32 → St → Option (Except String Int32 × St) := lp (fun _ _ _ _ _ _ => none) (f_X7_bestTeach_L36b N)
def f_X7_bestTeach (N : Nt) (u : St) (x1 : Int32) (x2 : Int32) : Option (Except String Int32 × St) :=
  xb (f_X7_requirePlayer N u x1) fun r1 u3 =>
  xb (f_X7_requireLesson N u3 x2) fun r4 u6 =>
  sb (f_X7_weigh N u6 0) fun r7 u9 =>
  sb (f_X2_copyFrom N u9 1 0) fun r10 u12 =>
  f_X7_bestTeach_L36 N 1000000 0 (-1) (-1) x1 x2 u12
set_option maxRecDepth 100000 in
set_option maxHeartbeats 4000000 in
theorem c_X7_bestTeach (l : Launch) (z : Zt) (ad : Ad) (N : Nt) (X : Gt) (u : St) (x1 : Int32) (x2 : Int32) {r9 : Int32} {u9 : St} (h : f_X7_bestTeach N u x1 x2 = some (.ok r9, u9)) : MC l z yX7_bestTeach cX7_bestTeach 7 (some .int) { frames := 5, cells := 0, slots := 0, locals := 113 } 0 0 [.ref (ad 0 0), .int x1, .int x2] ad (GC z ad N X u) (QI z ad (GC z ad N X u9) r9) := by
  refine Met.ofW (cc := cX7_bestTeach) (maxL := 7) (ret := (some .int)) (by decide) rfl ?_
  intro p e s m args below meth c s₁ B hml hv
  obtain ⟨rfl, hSW, hW⟩ := hv
  have hx := B.exec; have hb := B.bytes; have hr := B.returns; have hlocks := B.notSynchronized
  have hown : s.vm.findClass RX7 = some m.cls := findClass_of_methodNamed B.named
  obtain ⟨hT, hK, hST, hB0⟩ := id hSW
  have hS : va_S (zA z) s.heap s.heap [] := va_S.rf
  have hl := lv_entry ([.ref (ad 0 0), .int x1, .int x2]) (n := 7) (Nat.le_of_ble_eq_true rfl)
  rw [lg_entry_eq]
  generalize (lg_sl ([.ref (ad 0 0), .int x1, .int x2]) ++ List.replicate (7 - (lg_sl ([.ref (ad 0 0), .int x1, .int x2])).length) Slot.unset).toArray = ls at hl ⊢
  have hl : lv_has ls 7 [(0, .ref (ad 0 0)), (1, .int x1), (2, .int x2)] := hl
  let WW : Heap → List Loc → JFrame → Prop := fun H locs g => W p l e (headSpec [Cond.code yX7_bestTeach cX7_bestTeach 7 (some .int)] { frames := 5, cells := 0, slots := 0, locals := 113 }).room s m [.ref (ad 0 0), .int x1, .int x2].toArray below meth c H locs 0 0 (MQ below (QI z ad (GC z ad N X u9) r9) [.ref (ad 0 0), .int x1, .int x2].toArray s 0 0 (zA z)) g
  have hL36b : ∀ (ih36 : Int32 → Int32 → Int32 → Int32 → Int32 → St → Option (Except String Int32 × St)) (hih36 : ∀ (y5 : Int32) (y4 : Int32) (y3 : Int32) (y1 : Int32) (y2 : Int32) (u : St) (H : Heap) (locs : List Loc) (ls : Array Slot), lv_has ls 7 [(5, .int y5), (4, .int y4), (3, .int y3), (0, .ref (ad 0 0)), (1, .int y1), (2, .int y2)] → GW z ad (GC z ad N X u) H → va_S (zA z) s.heap H locs → ih36 y5 y4 y3 y1 y2 u = some (.ok r9, u9) → WW H locs (F0 m 36 ls [])), ∀ (y5 : Int32) (y4 : Int32) (y3 : Int32) (y1 : Int32) (y2 : Int32) (u : St) (H : Heap) (locs : List Loc) (ls : Array Slot), lv_has ls 7 [(5, .int y5), (4, .int y4), (3, .int y3), (0, .ref (ad 0 0)), (1, .int y1), (2, .int y2)] → GW z ad (GC z ad N X u) H → va_S (zA z) s.heap H locs → f_X7_bestTeach_L36b N ih36 y5 y4 y3 y1 y2 u = some (.ok r9, u9) → WW H locs (F0 m 36 ls []) := by
    intro ih36 hih36 y5 y4 y3 y1 y2 u H locs ls hl hW hS h
    change W p l e _ s m _ below meth c H locs 0 0 _ (F0 m 36 ls [])
    unfold f_X7_bestTeach_L36b at h
    refine lv_iload hx hb dX7_bestTeach_36 (lv_at hl 0 rfl) ?_
    refine lv_aload_n hx hb dX7_bestTeach_38 rfl (lv_at hl 3 rfl) ?_
    refine nb_get hx hb hT hK hown hW fl_X7_133 kr_0 (v := .int (u 1 0 0)) rfl dX7_bestTeach_39 ?_
    refine lv_icmp_ge (tgt := 97) hx hb dX7_bestTeach_42 (by decide) (fun c13 => ?_) (fun c13 => ?_)
    · replace h := ite_t h c13
      refine lv_iload_n hx hb dX7_bestTeach_97 rfl (lv_at hl 2 rfl) ?_
      exact ne_iretX hx hb hr rfl hlocks hW hS dX7_bestTeach_98 h
    · replace h := ite_f h c13
      refine lv_aload_n hx hb dX7_bestTeach_45 rfl (lv_at hl 3 rfl) ?_
      refine nb_get hx hb hT hK hown hW fl_X7_17 kr_0 (v := .ref (ad 2 0)) rfl dX7_bestTeach_46 ?_
      refine lv_iload hx hb dX7_bestTeach_49 (lv_at hl 0 rfl) ?_
      obtain ⟨g14, h⟩ := gd_s h
      obtain ⟨g15, h⟩ := gd_s h
      refine nb_aald hx hb hK hW 3 kr_2 rfl rfl (inb_in g14) (a := ad 14 (ix y5)) (qrow_at g15) dX7_bestTeach_51 ?_
      refine nb_get hx hb hT hK hown hW fl_X7_208 (kr_14 g15) (v := .int (u 20 (ix y5) 0)) rfl dX7_bestTeach_52 ?_
      refine lv_aload_n hx hb dX7_bestTeach_55 rfl (lv_at hl 3 rfl) ?_
      refine nb_get hx hb hT hK hown hW fl_X7_23 kr_0 (v := .ref (ad 3 0)) rfl dX7_bestTeach_56 ?_
      refine lv_iload_n hx hb dX7_bestTeach_59 rfl (lv_at hl 4 rfl) ?_
      obtain ⟨g16, h⟩ := gd_s h
      obtain ⟨g17, h⟩ := gd_s h
      refine nb_aald hx hb hK hW 4 kr_3 rfl rfl (inb_in g16) (a := ad 15 (ix y1)) (qrow_at g17) dX7_bestTeach_60 ?_
      refine nb_get hx hb hT hK hown hW fl_X7_190 (kr_15 g17) (v := .int (u 30 (ix y1) 0)) rfl dX7_bestTeach_61 ?_
      refine lv_icmp_ne (tgt := 91) hx hb dX7_bestTeach_64 (by decide) (fun c18 => ?_) (fun c18 => ?_)
      · replace h := ite_f h c18
        obtain ⟨v19, ev19, h⟩ := nm_s h
        refine lv_iinc (v := v19) (lv' := [(5, .int v19), (4, .int y4), (3, .int y3), (0, .ref (ad 0 0)), (1, .int y1), (2, .int y2)]) hx hb dX7_bestTeach_91 hl (k := 0) rfl (by rw [ev19]; rfl) (by decide) rfl (fun ls hl => ?_)
        refine lv_goto (tgt := 36) hx hb dX7_bestTeach_94 (by decide) ?_
        exact hih36 _ _ _ _ _ _ _ _ _ (lv_sub hl [0, 1, 2, 3, 4, 5] rfl) hW hS h
      · replace h := ite_t h c18
        refine lv_aload_n hx hb dX7_bestTeach_67 rfl (lv_at hl 3 rfl) ?_
        refine lv_iload_n hx hb dX7_bestTeach_68 rfl (lv_at hl 4 rfl) ?_
        refine lv_iload hx hb dX7_bestTeach_69 (lv_at hl 0 rfl) ?_
        refine lv_iload_n hx hb dX7_bestTeach_71 rfl (lv_at hl 5 rfl) ?_
        obtain ⟨r20, u22, h21, h⟩ := sb_s h
        refine nb_ci (nb_runV (As := [.int y1, .int y5, .int y2]) (rest := []) hx hb hml hown hSW hS hW (c_X7_heardIfTaught l z ad N X u y1 y5 y2 h21) mf_X7_heardIfTaught lk_X7_402 kr_0 rfl rfl ⟨rfl, rfl⟩ ⟨Nat.le_of_ble_eq_true rfl, Nat.le_of_ble_eq_true rfl⟩ hl.1 (Nat.le_of_ble_eq_true rfl) dX7_bestTeach_72 ⟨Nat.le_of_ble_eq_true rfl, Nat.le_of_ble_eq_true rfl⟩) hS (fun H locs (hW : GW z ad (GC z ad N X u22) H) hS => ?_)
        refine lv_istore (lv' := [(6, .int r20), (5, .int y5), (4, .int y4), (3, .int y3), (0, .ref (ad 0 0)), (1, .int y1), (2, .int y2)]) hx hb dX7_bestTeach_75 hl (by decide) rfl (fun ls hl => ?_)
        refine lv_iload hx hb dX7_bestTeach_77 (lv_at hl 0 rfl) ?_
        refine lv_iload hx hb dX7_bestTeach_79 (lv_at hl 2 rfl) ?_
        refine lv_icmp_le (tgt := 91) hx hb dX7_bestTeach_81 (by decide) (fun c23 => ?_) (fun c23 => ?_)
        · replace h := ite_t h c23
          obtain ⟨v24, ev24, h⟩ := nm_s h
          refine lv_iinc (v := v24) (lv' := [(5, .int v24), (6, .int r20), (4, .int y4), (3, .int y3), (0, .ref (ad 0 0)), (1, .int y1), (2, .int y2)]) hx hb dX7_bestTeach_91 hl (k := 1) rfl (by rw [ev24]; rfl) (by decide) rfl (fun ls hl => ?_)
          refine lv_goto (tgt := 36) hx hb dX7_bestTeach_94 (by decide) ?_
          exact hih36 _ _ _ _ _ _ _ _ _ (lv_sub hl [0, 2, 3, 4, 5, 6] rfl) hW hS h
        · replace h := ite_f h c23
          refine lv_iload hx hb dX7_bestTeach_84 (lv_at hl 1 rfl) ?_
          refine lv_istore_n (lv' := [(3, .int y5), (6, .int r20), (5, .int y5), (4, .int y4), (0, .ref (ad 0 0)), (1, .int y1), (2, .int y2)]) hx hb dX7_bestTeach_86 rfl hl (by decide) rfl (fun ls hl => ?_)
          refine lv_iload hx hb dX7_bestTeach_87 (lv_at hl 1 rfl) ?_
          refine lv_istore (lv' := [(4, .int r20), (3, .int y5), (6, .int r20), (5, .int y5), (0, .ref (ad 0 0)), (1, .int y1), (2, .int y2)]) hx hb dX7_bestTeach_89 hl (by decide) rfl (fun ls hl => ?_)
          obtain ⟨v25, ev25, h⟩ := nm_s h
          refine lv_iinc (v := v25) (lv' := [(5, .int v25), (4, .int r20), (3, .int y5), (6, .int r20), (0, .ref (ad 0 0)), (1, .int y1), (2, .int y2)]) hx hb dX7_bestTeach_91 hl (k := 3) rfl (by rw [ev25]; rfl) (by decide) rfl (fun ls hl => ?_)
          refine lv_goto (tgt := 36) hx hb dX7_bestTeach_94 (by decide) ?_
          exact hih36 _ _ _ _ _ _ _ _ _ (lv_sub hl [0, 1, 2, 4, 5, 6] rfl) hW hS h
  have hL36 : ∀ (n : Nat), ∀ (y5 : Int32) (y4 : Int32) (y3 : Int32) (y1 : Int32) (y2 : Int32) (u : St) (H : Heap) (locs : List Loc) (ls : Array Slot), lv_has ls 7 [(5, .int y5), (4, .int y4), (3, .int y3), (0, .ref (ad 0 0)), (1, .int y1), (2, .int y2)] → GW z ad (GC z ad N X u) H → va_S (zA z) s.heap H locs → f_X7_bestTeach_L36 N n y5 y4 y3 y1 y2 u = some (.ok r9, u9) → WW H locs (F0 m 36 ls []) := by
    intro n
    induction n with
    | zero => intro y5 y4 y3 y1 y2 u H locs ls hl hW hS h; exact absurd h (by intro q; cases q)
    | succ n ihn => intro y5 y4 y3 y1 y2 u H locs ls hl hW hS h; exact hL36b (f_X7_bestTeach_L36 N n) ihn y5 y4 y3 y1 y2 u H locs ls hl hW hS h
  unfold f_X7_bestTeach at h
  refine lv_aload_n hx hb dX7_bestTeach_0 rfl (lv_at hl 0 rfl) ?_
  refine lv_iload_n hx hb dX7_bestTeach_1 rfl (lv_at hl 1 rfl) ?_
  obtain ⟨r1, u3, h2, h⟩ := xb_s h
  refine nb_cv (nb_runV (As := [.int x1]) (rest := []) hx hb hml hown hSW hS hW (c_X7_requirePlayer l z ad N X u x1 h2) mf_X7_requirePlayer lk_X7_184 kr_0 rfl rfl ⟨rfl, rfl⟩ ⟨Nat.le_of_ble_eq_true rfl, Nat.le_of_ble_eq_true rfl⟩ hl.1 (Nat.le_of_ble_eq_true rfl) dX7_bestTeach_2 ⟨Nat.le_of_ble_eq_true rfl, Nat.le_of_ble_eq_true rfl⟩) hS (fun H locs (hW : GW z ad (GC z ad N X u3) H) hS => ?_)
  refine lv_iload_n hx hb dX7_bestTeach_5 rfl (lv_at hl 2 rfl) ?_
  obtain ⟨r4, u6, h5, h⟩ := xb_s h
  refine nb_cv (nb_runS (As := [.int x2]) (rest := []) hx hb hml hown hSW hS hW (c_X7_requireLesson l z ad N X u3 x2 h5) mf_X7_requireLesson lk_X7_205 rfl ⟨rfl, rfl⟩ ⟨Nat.le_of_ble_eq_true rfl, Nat.le_of_ble_eq_true rfl⟩ hl.1 (Nat.le_of_ble_eq_true rfl) dX7_bestTeach_6 ⟨Nat.le_of_ble_eq_true rfl, Nat.le_of_ble_eq_true rfl⟩) hS (fun H locs (hW : GW z ad (GC z ad N X u6) H) hS => ?_)
  refine lv_aload_n hx hb dX7_bestTeach_9 rfl (lv_at hl 0 rfl) ?_
  refine lv_aload_n hx hb dX7_bestTeach_10 rfl (lv_at hl 0 rfl) ?_
  refine nb_get hx hb hT hK hown hW fl_X7_37 kr_0 (v := .ref (ad 10 0)) rfl dX7_bestTeach_11 ?_
  obtain ⟨r7, u9, h8, h⟩ := sb_s h
  refine nb_cv (nb_runV (As := [.ref (ad 10 0)]) (rest := []) hx hb hml hown hSW hS hW (c_X7_weigh l z ad N X u6 0 (by decide) h8) mf_X7_weigh lk_X7_345 kr_0 rfl rfl ⟨rfl, rfl⟩ ⟨Nat.le_of_ble_eq_true rfl, Nat.le_of_ble_eq_true rfl⟩ hl.1 (Nat.le_of_ble_eq_true rfl) dX7_bestTeach_14 ⟨Nat.le_of_ble_eq_true rfl, Nat.le_of_ble_eq_true rfl⟩) hS (fun H locs (hW : GW z ad (GC z ad N X u9) H) hS => ?_)
  refine lv_aload_n hx hb dX7_bestTeach_17 rfl (lv_at hl 0 rfl) ?_
  refine nb_get hx hb hT hK hown hW fl_X7_69 kr_0 (v := .ref (ad 10 1)) rfl dX7_bestTeach_18 ?_
  refine lv_aload_n hx hb dX7_bestTeach_21 rfl (lv_at hl 0 rfl) ?_
  refine nb_get hx hb hT hK hown hW fl_X7_37 kr_0 (v := .ref (ad 10 0)) rfl dX7_bestTeach_22 ?_
  obtain ⟨r10, u12, h11, h⟩ := sb_s h
  refine nb_cv (nb_runV (As := [.ref (ad 10 0)]) (rest := []) hx hb hml hown hSW hS hW (c_X2_copyFrom l z ad N X u9 1 0 (by decide) (by decide) h11) mf_X2_copyFrom lk_X7_383 (kr_10 (by decide)) rfl rfl ⟨rfl, rfl⟩ ⟨Nat.le_of_ble_eq_true rfl, Nat.le_of_ble_eq_true rfl⟩ hl.1 (Nat.le_of_ble_eq_true rfl) dX7_bestTeach_25 ⟨Nat.le_of_ble_eq_true rfl, Nat.le_of_ble_eq_true rfl⟩) hS (fun H locs (hW : GW z ad (GC z ad N X u12) H) hS => ?_)
  refine lv_iconst (v := (-1)) hx hb dX7_bestTeach_28 (by decide) ?_
  refine lv_istore_n (lv' := [(3, .int (-1)), (0, .ref (ad 0 0)), (1, .int x1), (2, .int x2)]) hx hb dX7_bestTeach_29 rfl hl (by decide) rfl (fun ls hl => ?_)
  refine lv_iconst (v := (-1)) hx hb dX7_bestTeach_30 (by decide) ?_
  refine lv_istore (lv' := [(4, .int (-1)), (3, .int (-1)), (0, .ref (ad 0 0)), (1, .int x1), (2, .int x2)]) hx hb dX7_bestTeach_31 hl (by decide) rfl (fun ls hl => ?_)
  refine lv_iconst (v := 0) hx hb dX7_bestTeach_33 (by decide) ?_
  refine lv_istore (lv' := [(5, .int 0), (4, .int (-1)), (3, .int (-1)), (0, .ref (ad 0 0)), (1, .int x1), (2, .int x2)]) hx hb dX7_bestTeach_34 hl (by decide) rfl (fun ls hl => ?_)
  exact hL36 1000000 _ _ _ _ _ _ _ _ _ (lv_sub hl [0, 1, 2, 3, 4, 5] rfl) hW hS h
/-- Panyard$Pan.copyFrom -/
def f_X3_copyFrom (N : Nt) (u : St) (k0 : Nat) (k1 : Nat) : Option (Unit × St) :=
  nm (sset u 11 k0 0 (u 11 k1 0)) fun u1 =>
  nm (sset u1 12 k0 0 (u1 12 k1 0)) fun u2 =>
  nm (sset u2 13 k0 0 (u2 13 k1 0)) fun u3 =>
  nm (scpy u3 14 k1 k0 8) fun u4 =>
  some ((), u4)
set_option maxRecDepth 100000 in
set_option maxHeartbeats 4000000 in
theorem c_X3_copyFrom (l : Launch) (z : Zt) (ad : Ad) (N : Nt) (X : Gt) (u : St) (k0 : Nat) (k1 : Nat) (hk0 : vPan N k0) (hk1 : vPan N k1) {r9 : Unit} {u9 : St} (h : f_X3_copyFrom N u k0 k1 = some (r9, u9)) : MC l z yX3_copyFrom cX3_copyFrom 2 none { frames := 1, cells := 0, slots := 0, locals := 60 } 0 0 [.ref (ad 12 k0), .ref (ad 12 k1)] ad (GC z ad N X u) (QV z ad (GC z ad N X u9)) := by
  refine Met.ofW (cc := cX3_copyFrom) (maxL := 2) (ret := none) (by decide) rfl ?_
  intro p e s m args below meth c s₁ B hml hv
  obtain ⟨rfl, hSW, hW⟩ := hv
  have hx := B.exec; have hb := B.bytes; have hr := B.returns; have hlocks := B.notSynchronized
  have hown : s.vm.findClass RX3 = some m.cls := findClass_of_methodNamed B.named
  obtain ⟨hT, hK, hST, hB0⟩ := id hSW
  have hS : va_S (zA z) s.heap s.heap [] := va_S.rf
  have hl := lv_entry ([.ref (ad 12 k0), .ref (ad 12 k1)]) (n := 2) (Nat.le_of_ble_eq_true rfl)
  rw [lg_entry_eq]
  generalize (lg_sl ([.ref (ad 12 k0), .ref (ad 12 k1)]) ++ List.replicate (2 - (lg_sl ([.ref (ad 12 k0), .ref (ad 12 k1)])).length) Slot.unset).toArray = ls at hl ⊢
  have hl : lv_has ls 2 [(0, .ref (ad 12 k0)), (1, .ref (ad 12 k1))] := hl
  unfold f_X3_copyFrom at h
  refine lv_aload_n hx hb dX3_copyFrom_0 rfl (lv_at hl 0 rfl) ?_
  refine lv_aload_n hx hb dX3_copyFrom_1 rfl (lv_at hl 1 rfl) ?_
  refine nb_get hx hb hT hK hown hW fl_X3_19 (kr_12 hk1) (v := .int (u 11 k1 0)) rfl dX3_copyFrom_2 ?_
  obtain ⟨u1, eu1, h⟩ := nm_s h
  refine nb_put hx hb hT hK hown hW hS fl_X3_19 tyX3 tyX3_ok nmX3 (kr_12 hk0) (v := .int (u 11 k1 0)) rfl rfl rfl (Nat.le_of_ble_eq_true rfl) ((gp_11 hk0).trans (congrArg (GC z ad N X) eu1.symm)) dX3_copyFrom_5 (fun H locs hW hS => ?_)
  refine lv_aload_n hx hb dX3_copyFrom_8 rfl (lv_at hl 0 rfl) ?_
  refine lv_aload_n hx hb dX3_copyFrom_9 rfl (lv_at hl 1 rfl) ?_
  refine nb_get hx hb hT hK hown hW fl_X3_22 (kr_12 hk1) (v := .int (u1 12 k1 0)) rfl dX3_copyFrom_10 ?_
  obtain ⟨u2, eu2, h⟩ := nm_s h
  refine nb_put hx hb hT hK hown hW hS fl_X3_22 tyX3 tyX3_ok nmX3 (kr_12 hk0) (v := .int (u1 12 k1 0)) rfl rfl rfl (Nat.le_of_ble_eq_true rfl) ((gp_12 hk0).trans (congrArg (GC z ad N X) eu2.symm)) dX3_copyFrom_13 (fun H locs hW hS => ?_)
  refine lv_aload_n hx hb dX3_copyFrom_16 rfl (lv_at hl 0 rfl) ?_
  refine lv_aload_n hx hb dX3_copyFrom_17 rfl (lv_at hl 1 rfl) ?_
  refine nb_get hx hb hT hK hown hW fl_X3_25 (kr_12 hk1) (v := .int (u2 13 k1 0)) rfl dX3_copyFrom_18 ?_
  obtain ⟨u3, eu3, h⟩ := nm_s h
  refine nb_put hx hb hT hK hown hW hS fl_X3_25 tyX3 tyX3_ok nmX3 (kr_12 hk0) (v := .int (u2 13 k1 0)) rfl rfl rfl (Nat.le_of_ble_eq_true rfl) ((gp_13 hk0).trans (congrArg (GC z ad N X) eu3.symm)) dX3_copyFrom_21 (fun H locs hW hS => ?_)
  refine lv_aload_n hx hb dX3_copyFrom_24 rfl (lv_at hl 1 rfl) ?_
  refine nb_get hx hb hT hK hown hW fl_X3_9 (kr_12 hk1) (v := .ref (ad 13 k1)) rfl dX3_copyFrom_25 ?_
  refine lv_iconst (v := 0) hx hb dX3_copyFrom_28 (by decide) ?_
  refine lv_aload_n hx hb dX3_copyFrom_29 rfl (lv_at hl 0 rfl) ?_
  refine nb_get hx hb hT hK hown hW fl_X3_9 (kr_12 hk0) (v := .ref (ad 13 k0)) rfl dX3_copyFrom_30 ?_
  refine lv_iconst (v := 0) hx hb dX3_copyFrom_33 (by decide) ?_
  refine lv_bipush (v := 8) hx hb dX3_copyFrom_34 (by decide) ?_
  obtain ⟨u4, eu4, h⟩ := nm_s h
  refine nb_copy hx hb hml hl.1 hown hT hK hW hS 0 (kr_13 hk1) (kr_13 hk0) rfl (N9 := 8) (by decide) ⟨by decide, by decide⟩ (by decide) lk_X3_28 mf_arraycopy ⟨Nat.le_of_ble_eq_true rfl, Nat.le_of_ble_eq_true rfl⟩ ((gy_14 hk0).trans (congrArg (GC z ad N X) eu4.symm)) dX3_copyFrom_36 (fun H locs hW hS => ?_)
  exact ne_vret hx hb hr hlocks hW hS dX3_copyFrom_39 h
/-- Panyard.blowsFor -/
def f_X7_blowsFor (N : Nt) (u : St) (x1 : Int32) : Option (Except String Int32 × St) :=
  xb (f_X7_requirePan N u x1) fun r1 u3 =>
  gd (inb x1 6) <|
  gd ((ix x1) < N 12) <|
  sb (f_X3_copyFrom N u3 6 (ix x1)) fun r6 u8 =>
  sb (f_X3_tuneUpTo N u8 6 40) fun r9 u11 =>
  sb (f_X3_isCracked N u11 6) fun r12 u14 =>
  if r12 = 0 then
    sb (f_X3_needsTuner N u14 6) fun r16 u18 =>
    if r16 = 0 then
      some (.ok r9, u18)
    else
      some (.ok (-1), u18)
  else
    some (.ok (-1), u14)
set_option maxRecDepth 100000 in
set_option maxHeartbeats 4000000 in
theorem c_X7_blowsFor (l : Launch) (z : Zt) (ad : Ad) (N : Nt) (X : Gt) (u : St) (x1 : Int32) {r9 : Int32} {u9 : St} (h : f_X7_blowsFor N u x1 = some (.ok r9, u9)) : MC l z yX7_blowsFor cX7_blowsFor 3 (some .int) { frames := 5, cells := 0, slots := 0, locals := 110 } 0 0 [.ref (ad 0 0), .int x1] ad (GC z ad N X u) (QI z ad (GC z ad N X u9) r9) := by
  refine Met.ofW (cc := cX7_blowsFor) (maxL := 3) (ret := (some .int)) (by decide) rfl ?_
  intro p e s m args below meth c s₁ B hml hv
  obtain ⟨rfl, hSW, hW⟩ := hv
  have hx := B.exec; have hb := B.bytes; have hr := B.returns; have hlocks := B.notSynchronized
  have hown : s.vm.findClass RX7 = some m.cls := findClass_of_methodNamed B.named
  obtain ⟨hT, hK, hST, hB0⟩ := id hSW
  have hS : va_S (zA z) s.heap s.heap [] := va_S.rf
  have hl := lv_entry ([.ref (ad 0 0), .int x1]) (n := 3) (Nat.le_of_ble_eq_true rfl)
  rw [lg_entry_eq]
  generalize (lg_sl ([.ref (ad 0 0), .int x1]) ++ List.replicate (3 - (lg_sl ([.ref (ad 0 0), .int x1])).length) Slot.unset).toArray = ls at hl ⊢
  have hl : lv_has ls 3 [(0, .ref (ad 0 0)), (1, .int x1)] := hl
  unfold f_X7_blowsFor at h
  refine lv_aload_n hx hb dX7_blowsFor_0 rfl (lv_at hl 0 rfl) ?_
  refine lv_iload_n hx hb dX7_blowsFor_1 rfl (lv_at hl 1 rfl) ?_
  obtain ⟨r1, u3, h2, h⟩ := xb_s h
  refine nb_cv (nb_runV (As := [.int x1]) (rest := []) hx hb hml hown hSW hS hW (c_X7_requirePan l z ad N X u x1 h2) mf_X7_requirePan lk_X7_90 kr_0 rfl rfl ⟨rfl, rfl⟩ ⟨Nat.le_of_ble_eq_true rfl, Nat.le_of_ble_eq_true rfl⟩ hl.1 (Nat.le_of_ble_eq_true rfl) dX7_blowsFor_2 ⟨Nat.le_of_ble_eq_true rfl, Nat.le_of_ble_eq_true rfl⟩) hS (fun H locs (hW : GW z ad (GC z ad N X u3) H) hS => ?_)
  refine lv_aload_n hx hb dX7_blowsFor_5 rfl (lv_at hl 0 rfl) ?_
  refine nb_get hx hb hT hK hown hW fl_X7_62 kr_0 (v := .ref (ad 12 6)) rfl dX7_blowsFor_6 ?_
  refine lv_aload_n hx hb dX7_blowsFor_9 rfl (lv_at hl 0 rfl) ?_
  refine nb_get hx hb hT hK hown hW fl_X7_11 kr_0 (v := .ref (ad 1 0)) rfl dX7_blowsFor_10 ?_
  refine lv_iload_n hx hb dX7_blowsFor_13 rfl (lv_at hl 1 rfl) ?_
  obtain ⟨g4, h⟩ := gd_s h
  obtain ⟨g5, h⟩ := gd_s h
  refine nb_aald hx hb hK hW 2 kr_1 rfl rfl (inb_in g4) (a := ad 12 (ix x1)) (qrow_at g5) dX7_blowsFor_14 ?_
  obtain ⟨r6, u8, h7, h⟩ := sb_s h
  refine nb_cv (nb_runV (As := [.ref (ad 12 (ix x1))]) (rest := []) hx hb hml hown hSW hS hW (c_X3_copyFrom l z ad N X u3 6 (ix x1) (Or.inr rfl) (Or.inl g5) h7) mf_X3_copyFrom lk_X7_406 (kr_12 (Or.inr rfl)) rfl rfl ⟨rfl, rfl⟩ ⟨Nat.le_of_ble_eq_true rfl, Nat.le_of_ble_eq_true rfl⟩ hl.1 (Nat.le_of_ble_eq_true rfl) dX7_blowsFor_15 ⟨Nat.le_of_ble_eq_true rfl, Nat.le_of_ble_eq_true rfl⟩) hS (fun H locs (hW : GW z ad (GC z ad N X u8) H) hS => ?_)
  refine lv_aload_n hx hb dX7_blowsFor_18 rfl (lv_at hl 0 rfl) ?_
  refine nb_get hx hb hT hK hown hW fl_X7_62 kr_0 (v := .ref (ad 12 6)) rfl dX7_blowsFor_19 ?_
  refine lv_bipush (v := 40) hx hb dX7_blowsFor_22 (by decide) ?_
  obtain ⟨r9, u11, h10, h⟩ := sb_s h
  refine nb_ci (nb_runV (As := [.int 40]) (rest := []) hx hb hml hown hSW hS hW (c_X3_tuneUpTo l z ad N X u8 6 40 (Or.inr rfl) h10) mf_X3_tuneUpTo lk_X7_122 (kr_12 (Or.inr rfl)) rfl rfl ⟨rfl, rfl⟩ ⟨Nat.le_of_ble_eq_true rfl, Nat.le_of_ble_eq_true rfl⟩ hl.1 (Nat.le_of_ble_eq_true rfl) dX7_blowsFor_24 ⟨Nat.le_of_ble_eq_true rfl, Nat.le_of_ble_eq_true rfl⟩) hS (fun H locs (hW : GW z ad (GC z ad N X u11) H) hS => ?_)
  refine lv_istore_n (lv' := [(2, .int r9), (0, .ref (ad 0 0)), (1, .int x1)]) hx hb dX7_blowsFor_27 rfl hl (by decide) rfl (fun ls hl => ?_)
  refine lv_aload_n hx hb dX7_blowsFor_28 rfl (lv_at hl 1 rfl) ?_
  refine nb_get hx hb hT hK hown hW fl_X7_62 kr_0 (v := .ref (ad 12 6)) rfl dX7_blowsFor_29 ?_
  obtain ⟨r12, u14, h13, h⟩ := sb_s h
  refine nb_ci (nb_runV (As := []) (rest := []) hx hb hml hown hSW hS hW (c_X3_isCracked l z ad N X u11 6 (Or.inr rfl) h13) mf_X3_isCracked lk_X7_315 (kr_12 (Or.inr rfl)) rfl rfl ⟨rfl, rfl⟩ ⟨Nat.le_of_ble_eq_true rfl, Nat.le_of_ble_eq_true rfl⟩ hl.1 (Nat.le_of_ble_eq_true rfl) dX7_blowsFor_32 ⟨Nat.le_of_ble_eq_true rfl, Nat.le_of_ble_eq_true rfl⟩) hS (fun H locs (hW : GW z ad (GC z ad N X u14) H) hS => ?_)
  refine lv_if_ne (tgt := 48) hx hb dX7_blowsFor_35 (by decide) (fun c15 => ?_) (fun c15 => ?_)
  · replace h := ite_f h c15
    refine lv_iconst (v := (-1)) hx hb dX7_blowsFor_48 (by decide) ?_
    refine lv_goto (tgt := 53) hx hb dX7_blowsFor_49 (by decide) ?_
    exact ne_iretX hx hb hr rfl hlocks hW hS dX7_blowsFor_53 h
  · replace h := ite_t h c15
    refine lv_aload_n hx hb dX7_blowsFor_38 rfl (lv_at hl 1 rfl) ?_
    refine nb_get hx hb hT hK hown hW fl_X7_62 kr_0 (v := .ref (ad 12 6)) rfl dX7_blowsFor_39 ?_
    obtain ⟨r16, u18, h17, h⟩ := sb_s h
    refine nb_ci (nb_runV (As := []) (rest := []) hx hb hml hown hSW hS hW (c_X3_needsTuner l z ad N X u14 6 (Or.inr rfl) h17) mf_X3_needsTuner lk_X7_409 (kr_12 (Or.inr rfl)) rfl rfl ⟨rfl, rfl⟩ ⟨Nat.le_of_ble_eq_true rfl, Nat.le_of_ble_eq_true rfl⟩ hl.1 (Nat.le_of_ble_eq_true rfl) dX7_blowsFor_42 ⟨Nat.le_of_ble_eq_true rfl, Nat.le_of_ble_eq_true rfl⟩) hS (fun H locs (hW : GW z ad (GC z ad N X u18) H) hS => ?_)
    refine lv_if_eq (tgt := 52) hx hb dX7_blowsFor_45 (by decide) (fun c19 => ?_) (fun c19 => ?_)
    · replace h := ite_t h c19
      refine lv_iload_n hx hb dX7_blowsFor_52 rfl (lv_at hl 0 rfl) ?_
      exact ne_iretX hx hb hr rfl hlocks hW hS dX7_blowsFor_53 h
    · replace h := ite_f h c19
      refine lv_iconst (v := (-1)) hx hb dX7_blowsFor_48 (by decide) ?_
      refine lv_goto (tgt := 53) hx hb dX7_blowsFor_49 (by decide) ?_
      exact ne_iretX hx hb hr rfl hlocks hW hS dX7_blowsFor_53 h
/-- Panyard.digestPans -/
def f_X7_digestPans_L48b (N : Nt) (ih5 : Int32 → Int64 → St → Option (Except String Int64 × St)) (ih48 : Int32 → Int32 → Int64 → St → Option (Except String Int64 × St)) (y6 : Int32) (y5 : Int32) (y3 : Int64) (u : St) : Option (Except String Int64 × St) :=
  if 8 ≤ y6 then
    xb (f_X7_blowsFor N u y5) fun r4 u6 =>
    nm ((y3 * 31) + r4.toInt64) fun v7 =>
    nm (y5 + 1) fun v8 =>
    ih5 v8 v7 u6
  else
    xb (f_X7_off N u y5 y6) fun r9 u11 =>
    nm ((y3 * 31) + r9.toInt64) fun v12 =>
    nm (y6 + 1) fun v13 =>
    ih48 v13 y5 v12 u11
def f_X7_digestPans_L48 (N : Nt) (ih5 : Int32 → Int64 → St → Option (Except String Int64 × St)) : Nat → Int32 → Int32 → Int64 → St → Option (Except String Int64 × St) := lp (fun _ _ _ _ => none) (f_X7_digestPans_L48b N ih5)
def f_X7_digestPans_L17b (N : Nt) (ih5 : Int32 → Int64 → St → Option (Except String Int64 × St)) (ih17 : Int32 → Int32 → Int64 → St → Option (Except String Int64 × St)) (y6 : Int32) (y5 : Int32) (y3 : Int64) (u : St) : Option (Except String Int64 × St) :=
  if 4 < y6 then
    f_X7_digestPans_L48 N ih5 1000000 0 y5 y3 u
  else
    xb (f_X7_ofPan N u y5 y6) fun r14 u16 =>
    nm ((y3 * 31) + r14.toInt64) fun v17 =>
    nm (y6 + 1) fun v18 =>
    ih17 v18 y5 v17 u16
def f_X7_digestPans_L17 (N : Nt) (ih5 : Int32 → Int64 → St → Option (Except String Int64 × St)) : Nat → Int32 → Int32 → Int64 → St → Option (Except String Int64 × St) := lp (fun _ _ _ _ => none) (f_X7_digestPans_L17b N ih5)
def f_X7_digestPans_L5b (N : Nt) (ih5 : Int32 → Int64 → St → Option (Except String Int64 × St)) (y5 : Int32) (y3 : Int64) (u : St) : Option (Except String Int64 × St) :=
  if (u 0 0 0) ≤ y5 then
    some (.ok y3, u)
  else
    f_X7_digestPans_L17 N ih5 1000000 0 y5 y3 u
def f_X7_digestPans_L5 (N : Nt) : Nat → Int32 → Int64 → St → Option (Except String Int64 × St) := lp (fun _ _ _ => none) (f_X7_digestPans_L5b N)
def f_X7_digestPans (N : Nt) (u : St) (x1 : Int64) : Option (Except String Int64 × St) :=
  f_X7_digestPans_L5 N 1000000 0 x1 u
set_option maxRecDepth 100000 in
set_option maxHeartbeats 4000000 in
theorem c_X7_digestPans (l : Launch) (z : Zt) (ad : Ad) (N : Nt) (X : Gt) (u : St) (x1 : Int64) {r9 : Int64} {u9 : St} (h : f_X7_digestPans N u x1 = some (.ok r9, u9)) : MC l z yX7_digestPans cX7_digestPans 7 (some .long) { frames := 6, cells := 0, slots := 0, locals := 132 } 0 0 [.ref (ad 0 0), .long x1] ad (GC z ad N X u) (QL z ad (GC z ad N X u9) r9) := by
  refine Met.ofW (cc := cX7_digestPans) (maxL := 7) (ret := (some .long)) (by decide) rfl ?_
  intro p e s m args below meth c s₁ B hml hv
  obtain ⟨rfl, hSW, hW⟩ := hv
  have hx := B.exec; have hb := B.bytes; have hr := B.returns; have hlocks := B.notSynchronized
  have hown : s.vm.findClass RX7 = some m.cls := findClass_of_methodNamed B.named
  obtain ⟨hT, hK, hST, hB0⟩ := id hSW
  have hS : va_S (zA z) s.heap s.heap [] := va_S.rf
  have hl := lv_entry ([.ref (ad 0 0), .long x1]) (n := 7) (Nat.le_of_ble_eq_true rfl)
  rw [lg_entry_eq]
  generalize (lg_sl ([.ref (ad 0 0), .long x1]) ++ List.replicate (7 - (lg_sl ([.ref (ad 0 0), .long x1])).length) Slot.unset).toArray = ls at hl ⊢
  have hl : lv_has ls 7 [(0, .ref (ad 0 0)), (1, .long x1)] := hl
  let WW : Heap → List Loc → JFrame → Prop := fun H locs g => W p l e (headSpec [Cond.code yX7_digestPans cX7_digestPans 7 (some .long)] { frames := 6, cells := 0, slots := 0, locals := 132 }).room s m [.ref (ad 0 0), .long x1].toArray below meth c H locs 0 0 (MQ below (QL z ad (GC z ad N X u9) r9) [.ref (ad 0 0), .long x1].toArray s 0 0 (zA z)) g
  have hL48b : ∀ (ih5 : Int32 → Int64 → St → Option (Except String Int64 × St)) (hih5 : ∀ (y5 : Int32) (y3 : Int64) (u : St) (H : Heap) (locs : List Loc) (ls : Array Slot), lv_has ls 7 [(5, .int y5), (3, .long y3), (0, .ref (ad 0 0))] → GW z ad (GC z ad N X u) H → va_S (zA z) s.heap H locs → ih5 y5 y3 u = some (.ok r9, u9) → WW H locs (F0 m 5 ls [])), ∀ (ih48 : Int32 → Int32 → Int64 → St → Option (Except String Int64 × St)) (hih48 : ∀ (y6 : Int32) (y5 : Int32) (y3 : Int64) (u : St) (H : Heap) (locs : List Loc) (ls : Array Slot), lv_has ls 7 [(6, .int y6), (5, .int y5), (3, .long y3), (0, .ref (ad 0 0))] → GW z ad (GC z ad N X u) H → va_S (zA z) s.heap H locs → ih48 y6 y5 y3 u = some (.ok r9, u9) → WW H locs (F0 m 48 ls [])), ∀ (y6 : Int32) (y5 : Int32) (y3 : Int64) (u : St) (H : Heap) (locs : List Loc) (ls : Array Slot), lv_has ls 7 [(6, .int y6), (5, .int y5), (3, .long y3), (0, .ref (ad 0 0))] → GW z ad (GC z ad N X u) H → va_S (zA z) s.heap H locs → f_X7_digestPans_L48b N ih5 ih48 y6 y5 y3 u = some (.ok r9, u9) → WW H locs (F0 m 48 ls []) := by
    intro ih5 hih5 ih48 hih48 y6 y5 y3 u H locs ls hl hW hS h
    change W p l e _ s m _ below meth c H locs 0 0 _ (F0 m 48 ls [])
    unfold f_X7_digestPans_L48b at h
    refine lv_iload hx hb dX7_digestPans_48 (lv_at hl 0 rfl) ?_
    refine lv_bipush (v := 8) hx hb dX7_digestPans_50 (by decide) ?_
    refine lv_icmp_ge (tgt := 77) hx hb dX7_digestPans_52 (by decide) (fun c3 => ?_) (fun c3 => ?_)
    · replace h := ite_t h c3
      refine lv_lload_n hx hb dX7_digestPans_77 rfl (lv_at hl 2 rfl) ?_
      refine lv_ldc2 (v := 31) hx hb hown (hT.use (List.mem_of_getElem? (i := 283) (by decide +kernel)) rfl) dX7_digestPans_78 ?_
      refine lv_lmul hx hb dX7_digestPans_81 ?_
      refine lv_aload_n hx hb dX7_digestPans_82 rfl (lv_at hl 3 rfl) ?_
      refine lv_iload hx hb dX7_digestPans_83 (lv_at hl 1 rfl) ?_
      obtain ⟨r4, u6, h5, h⟩ := xb_s h
      refine nb_ci (nb_runV (As := [.int y5]) (rest := [.long (y3 * 31)]) hx hb hml hown hSW hS hW (c_X7_blowsFor l z ad N X u y5 h5) mf_X7_blowsFor lk_X7_447 kr_0 rfl rfl ⟨rfl, rfl⟩ ⟨Nat.le_of_ble_eq_true rfl, Nat.le_of_ble_eq_true rfl⟩ hl.1 (Nat.le_of_ble_eq_true rfl) dX7_digestPans_85 ⟨Nat.le_of_ble_eq_true rfl, Nat.le_of_ble_eq_true rfl⟩) hS (fun H locs (hW : GW z ad (GC z ad N X u6) H) hS => ?_)
      refine lv_i2l hx hb dX7_digestPans_88 rfl ?_
      refine lv_ladd hx hb dX7_digestPans_89 ?_
      refine lv_topl (fun v7 ev7 => ?_)
      replace h := nm_at ev7 h
      refine lv_lstore_n (lv' := [(3, .long v7), (6, .int y6), (5, .int y5), (0, .ref (ad 0 0))]) hx hb dX7_digestPans_90 rfl hl (by decide) rfl (fun ls hl => ?_)
      obtain ⟨v8, ev8, h⟩ := nm_s h
      refine lv_iinc (v := v8) (lv' := [(5, .int v8), (3, .long v7), (6, .int y6), (0, .ref (ad 0 0))]) hx hb dX7_digestPans_91 hl (k := 2) rfl (by rw [ev8]; rfl) (by decide) rfl (fun ls hl => ?_)
      refine lv_goto (tgt := 5) hx hb dX7_digestPans_94 (by decide) ?_
      exact hih5 _ _ _ _ _ _ (lv_sub hl [0, 1, 3] rfl) hW hS h
    · replace h := ite_f h c3
      refine lv_lload_n hx hb dX7_digestPans_55 rfl (lv_at hl 2 rfl) ?_
      refine lv_ldc2 (v := 31) hx hb hown (hT.use (List.mem_of_getElem? (i := 283) (by decide +kernel)) rfl) dX7_digestPans_56 ?_
      refine lv_lmul hx hb dX7_digestPans_59 ?_
      refine lv_aload_n hx hb dX7_digestPans_60 rfl (lv_at hl 3 rfl) ?_
      refine lv_iload hx hb dX7_digestPans_61 (lv_at hl 1 rfl) ?_
      refine lv_iload hx hb dX7_digestPans_63 (lv_at hl 0 rfl) ?_
      obtain ⟨r9, u11, h10, h⟩ := xb_s h
      refine nb_ci (nb_runV (As := [.int y5, .int y6]) (rest := [.long (y3 * 31)]) hx hb hml hown hSW hS hW (c_X7_off l z ad N X u y5 y6 h10) mf_X7_off lk_X7_444 kr_0 rfl rfl ⟨rfl, rfl⟩ ⟨Nat.le_of_ble_eq_true rfl, Nat.le_of_ble_eq_true rfl⟩ hl.1 (Nat.le_of_ble_eq_true rfl) dX7_digestPans_65 ⟨Nat.le_of_ble_eq_true rfl, Nat.le_of_ble_eq_true rfl⟩) hS (fun H locs (hW : GW z ad (GC z ad N X u11) H) hS => ?_)
      refine lv_i2l hx hb dX7_digestPans_68 rfl ?_
      refine lv_ladd hx hb dX7_digestPans_69 ?_
      refine lv_topl (fun v12 ev12 => ?_)
      replace h := nm_at ev12 h
      refine lv_lstore_n (lv' := [(3, .long v12), (6, .int y6), (5, .int y5), (0, .ref (ad 0 0))]) hx hb dX7_digestPans_70 rfl hl (by decide) rfl (fun ls hl => ?_)
      obtain ⟨v13, ev13, h⟩ := nm_s h
      refine lv_iinc (v := v13) (lv' := [(6, .int v13), (3, .long v12), (5, .int y5), (0, .ref (ad 0 0))]) hx hb dX7_digestPans_71 hl (k := 1) rfl (by rw [ev13]; rfl) (by decide) rfl (fun ls hl => ?_)
      refine lv_goto (tgt := 48) hx hb dX7_digestPans_74 (by decide) ?_
      exact hih48 _ _ _ _ _ _ _ (lv_sub hl [0, 2, 1, 3] rfl) hW hS h
  have hL48 : ∀ (ih5 : Int32 → Int64 → St → Option (Except String Int64 × St)) (hih5 : ∀ (y5 : Int32) (y3 : Int64) (u : St) (H : Heap) (locs : List Loc) (ls : Array Slot), lv_has ls 7 [(5, .int y5), (3, .long y3), (0, .ref (ad 0 0))] → GW z ad (GC z ad N X u) H → va_S (zA z) s.heap H locs → ih5 y5 y3 u = some (.ok r9, u9) → WW H locs (F0 m 5 ls [])), ∀ (n : Nat), ∀ (y6 : Int32) (y5 : Int32) (y3 : Int64) (u : St) (H : Heap) (locs : List Loc) (ls : Array Slot), lv_has ls 7 [(6, .int y6), (5, .int y5), (3, .long y3), (0, .ref (ad 0 0))] → GW z ad (GC z ad N X u) H → va_S (zA z) s.heap H locs → f_X7_digestPans_L48 N ih5 n y6 y5 y3 u = some (.ok r9, u9) → WW H locs (F0 m 48 ls []) := by
    intro ih5 hih5 n
    induction n with
    | zero => intro y6 y5 y3 u H locs ls hl hW hS h; exact absurd h (by intro q; cases q)
    | succ n ihn => intro y6 y5 y3 u H locs ls hl hW hS h; exact hL48b ih5 hih5 (f_X7_digestPans_L48 N ih5 n) ihn y6 y5 y3 u H locs ls hl hW hS h
  have hL17b : ∀ (ih5 : Int32 → Int64 → St → Option (Except String Int64 × St)) (hih5 : ∀ (y5 : Int32) (y3 : Int64) (u : St) (H : Heap) (locs : List Loc) (ls : Array Slot), lv_has ls 7 [(5, .int y5), (3, .long y3), (0, .ref (ad 0 0))] → GW z ad (GC z ad N X u) H → va_S (zA z) s.heap H locs → ih5 y5 y3 u = some (.ok r9, u9) → WW H locs (F0 m 5 ls [])), ∀ (ih17 : Int32 → Int32 → Int64 → St → Option (Except String Int64 × St)) (hih17 : ∀ (y6 : Int32) (y5 : Int32) (y3 : Int64) (u : St) (H : Heap) (locs : List Loc) (ls : Array Slot), lv_has ls 7 [(6, .int y6), (5, .int y5), (3, .long y3), (0, .ref (ad 0 0))] → GW z ad (GC z ad N X u) H → va_S (zA z) s.heap H locs → ih17 y6 y5 y3 u = some (.ok r9, u9) → WW H locs (F0 m 17 ls [])), ∀ (y6 : Int32) (y5 : Int32) (y3 : Int64) (u : St) (H : Heap) (locs : List Loc) (ls : Array Slot), lv_has ls 7 [(6, .int y6), (5, .int y5), (3, .long y3), (0, .ref (ad 0 0))] → GW z ad (GC z ad N X u) H → va_S (zA z) s.heap H locs → f_X7_digestPans_L17b N ih5 ih17 y6 y5 y3 u = some (.ok r9, u9) → WW H locs (F0 m 17 ls []) := by
    intro ih5 hih5 ih17 hih17 y6 y5 y3 u H locs ls hl hW hS h
    change W p l e _ s m _ below meth c H locs 0 0 _ (F0 m 17 ls [])
    unfold f_X7_digestPans_L17b at h
    refine lv_iload hx hb dX7_digestPans_17 (lv_at hl 0 rfl) ?_
    refine lv_iconst (v := 4) hx hb dX7_digestPans_19 (by decide) ?_
    refine lv_icmp_gt (tgt := 45) hx hb dX7_digestPans_20 (by decide) (fun c2 => ?_) (fun c2 => ?_)
    · replace h := ite_t h c2
      refine lv_iconst (v := 0) hx hb dX7_digestPans_45 (by decide) ?_
      refine lv_istore (lv' := [(6, .int 0), (5, .int y5), (3, .long y3), (0, .ref (ad 0 0))]) hx hb dX7_digestPans_46 hl (by decide) rfl (fun ls hl => ?_)
      exact hL48 ih5 hih5 1000000 _ _ _ _ _ _ _ (lv_sub hl [0, 1, 2, 3] rfl) hW hS h
    · replace h := ite_f h c2
      refine lv_lload_n hx hb dX7_digestPans_23 rfl (lv_at hl 2 rfl) ?_
      refine lv_ldc2 (v := 31) hx hb hown (hT.use (List.mem_of_getElem? (i := 283) (by decide +kernel)) rfl) dX7_digestPans_24 ?_
      refine lv_lmul hx hb dX7_digestPans_27 ?_
      refine lv_aload_n hx hb dX7_digestPans_28 rfl (lv_at hl 3 rfl) ?_
      refine lv_iload hx hb dX7_digestPans_29 (lv_at hl 1 rfl) ?_
      refine lv_iload hx hb dX7_digestPans_31 (lv_at hl 0 rfl) ?_
      obtain ⟨r14, u16, h15, h⟩ := xb_s h
      refine nb_ci (nb_runV (As := [.int y5, .int y6]) (rest := [.long (y3 * 31)]) hx hb hml hown hSW hS hW (c_X7_ofPan l z ad N X u y5 y6 h15) mf_X7_ofPan lk_X7_441 kr_0 rfl rfl ⟨rfl, rfl⟩ ⟨Nat.le_of_ble_eq_true rfl, Nat.le_of_ble_eq_true rfl⟩ hl.1 (Nat.le_of_ble_eq_true rfl) dX7_digestPans_33 ⟨Nat.le_of_ble_eq_true rfl, Nat.le_of_ble_eq_true rfl⟩) hS (fun H locs (hW : GW z ad (GC z ad N X u16) H) hS => ?_)
      refine lv_i2l hx hb dX7_digestPans_36 rfl ?_
      refine lv_ladd hx hb dX7_digestPans_37 ?_
      refine lv_topl (fun v17 ev17 => ?_)
      replace h := nm_at ev17 h
      refine lv_lstore_n (lv' := [(3, .long v17), (6, .int y6), (5, .int y5), (0, .ref (ad 0 0))]) hx hb dX7_digestPans_38 rfl hl (by decide) rfl (fun ls hl => ?_)
      obtain ⟨v18, ev18, h⟩ := nm_s h
      refine lv_iinc (v := v18) (lv' := [(6, .int v18), (3, .long v17), (5, .int y5), (0, .ref (ad 0 0))]) hx hb dX7_digestPans_39 hl (k := 1) rfl (by rw [ev18]; rfl) (by decide) rfl (fun ls hl => ?_)
      refine lv_goto (tgt := 17) hx hb dX7_digestPans_42 (by decide) ?_
      exact hih17 _ _ _ _ _ _ _ (lv_sub hl [0, 2, 1, 3] rfl) hW hS h
  have hL17 : ∀ (ih5 : Int32 → Int64 → St → Option (Except String Int64 × St)) (hih5 : ∀ (y5 : Int32) (y3 : Int64) (u : St) (H : Heap) (locs : List Loc) (ls : Array Slot), lv_has ls 7 [(5, .int y5), (3, .long y3), (0, .ref (ad 0 0))] → GW z ad (GC z ad N X u) H → va_S (zA z) s.heap H locs → ih5 y5 y3 u = some (.ok r9, u9) → WW H locs (F0 m 5 ls [])), ∀ (n : Nat), ∀ (y6 : Int32) (y5 : Int32) (y3 : Int64) (u : St) (H : Heap) (locs : List Loc) (ls : Array Slot), lv_has ls 7 [(6, .int y6), (5, .int y5), (3, .long y3), (0, .ref (ad 0 0))] → GW z ad (GC z ad N X u) H → va_S (zA z) s.heap H locs → f_X7_digestPans_L17 N ih5 n y6 y5 y3 u = some (.ok r9, u9) → WW H locs (F0 m 17 ls []) := by
    intro ih5 hih5 n
    induction n with
    | zero => intro y6 y5 y3 u H locs ls hl hW hS h; exact absurd h (by intro q; cases q)
    | succ n ihn => intro y6 y5 y3 u H locs ls hl hW hS h; exact hL17b ih5 hih5 (f_X7_digestPans_L17 N ih5 n) ihn y6 y5 y3 u H locs ls hl hW hS h
  have hL5b : ∀ (ih5 : Int32 → Int64 → St → Option (Except String Int64 × St)) (hih5 : ∀ (y5 : Int32) (y3 : Int64) (u : St) (H : Heap) (locs : List Loc) (ls : Array Slot), lv_has ls 7 [(5, .int y5), (3, .long y3), (0, .ref (ad 0 0))] → GW z ad (GC z ad N X u) H → va_S (zA z) s.heap H locs → ih5 y5 y3 u = some (.ok r9, u9) → WW H locs (F0 m 5 ls [])), ∀ (y5 : Int32) (y3 : Int64) (u : St) (H : Heap) (locs : List Loc) (ls : Array Slot), lv_has ls 7 [(5, .int y5), (3, .long y3), (0, .ref (ad 0 0))] → GW z ad (GC z ad N X u) H → va_S (zA z) s.heap H locs → f_X7_digestPans_L5b N ih5 y5 y3 u = some (.ok r9, u9) → WW H locs (F0 m 5 ls []) := by
    intro ih5 hih5 y5 y3 u H locs ls hl hW hS h
    change W p l e _ s m _ below meth c H locs 0 0 _ (F0 m 5 ls [])
    unfold f_X7_digestPans_L5b at h
    refine lv_iload hx hb dX7_digestPans_5 (lv_at hl 0 rfl) ?_
    refine lv_aload_n hx hb dX7_digestPans_7 rfl (lv_at hl 2 rfl) ?_
    refine nb_get hx hb hT hK hown hW fl_X7_80 kr_0 (v := .int (u 0 0 0)) rfl dX7_digestPans_8 ?_
    refine lv_icmp_ge (tgt := 97) hx hb dX7_digestPans_11 (by decide) (fun c1 => ?_) (fun c1 => ?_)
    · replace h := ite_t h c1
      refine lv_lload_n hx hb dX7_digestPans_97 rfl (lv_at hl 1 rfl) ?_
      exact ne_lretX hx hb hr hlocks hW hS dX7_digestPans_98 h
    · replace h := ite_f h c1
      refine lv_iconst (v := 0) hx hb dX7_digestPans_14 (by decide) ?_
      refine lv_istore (lv' := [(6, .int 0), (5, .int y5), (3, .long y3), (0, .ref (ad 0 0))]) hx hb dX7_digestPans_15 hl (by decide) rfl (fun ls hl => ?_)
      exact hL17 ih5 hih5 1000000 _ _ _ _ _ _ _ (lv_sub hl [0, 1, 2, 3] rfl) hW hS h
  have hL5 : ∀ (n : Nat), ∀ (y5 : Int32) (y3 : Int64) (u : St) (H : Heap) (locs : List Loc) (ls : Array Slot), lv_has ls 7 [(5, .int y5), (3, .long y3), (0, .ref (ad 0 0))] → GW z ad (GC z ad N X u) H → va_S (zA z) s.heap H locs → f_X7_digestPans_L5 N n y5 y3 u = some (.ok r9, u9) → WW H locs (F0 m 5 ls []) := by
    intro n
    induction n with
    | zero => intro y5 y3 u H locs ls hl hW hS h; exact absurd h (by intro q; cases q)
    | succ n ihn => intro y5 y3 u H locs ls hl hW hS h; exact hL5b (f_X7_digestPans_L5 N n) ihn y5 y3 u H locs ls hl hW hS h
  unfold f_X7_digestPans at h
  refine lv_lload_n hx hb dX7_digestPans_0 rfl (lv_at hl 1 rfl) ?_
  refine lv_lstore_n (lv' := [(3, .long x1), (0, .ref (ad 0 0)), (1, .long x1)]) hx hb dX7_digestPans_1 rfl hl (by decide) rfl (fun ls hl => ?_)
  refine lv_iconst (v := 0) hx hb dX7_digestPans_2 (by decide) ?_
  refine lv_istore (lv' := [(5, .int 0), (3, .long x1), (0, .ref (ad 0 0)), (1, .long x1)]) hx hb dX7_digestPans_3 hl (by decide) rfl (fun ls hl => ?_)
  exact hL5 1000000 _ _ _ _ _ _ (lv_sub hl [0, 1, 2] rfl) hW hS h
