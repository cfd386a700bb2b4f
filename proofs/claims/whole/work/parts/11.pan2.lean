theorem lk_X3_40 : LK RX3 40 yX3_isCracked := Or.inl (List.mem_of_getElem? (i := 342) (by decide +kernel))
theorem mf_X3_isCracked : MFv yX3_isCracked cX3_isCracked 1 (some .boolean) 0 := ⟨List.mem_of_getElem? (i := 297) (by decide +kernel), List.mem_of_getElem? (i := 298) (by decide +kernel), List.mem_of_getElem? (i := 66) (by decide +kernel), List.mem_of_getElem? (i := 299) (by decide +kernel), by decide +kernel, by decide +kernel, by decide +kernel⟩
theorem lk_X3_44 : LK RX3 44 yX3_notesInTune := Or.inl (List.mem_of_getElem? (i := 343) (by decide +kernel))
theorem mf_X3_notesInTune : MFv yX3_notesInTune cX3_notesInTune 4 (some .int) 0 := ⟨List.mem_of_getElem? (i := 317) (by decide +kernel), List.mem_of_getElem? (i := 318) (by decide +kernel), List.mem_of_getElem? (i := 66) (by decide +kernel), List.mem_of_getElem? (i := 319) (by decide +kernel), by decide +kernel, by decide +kernel, by decide +kernel⟩
theorem lk_X3_67 : LK RX3 67 yX3_strike := Or.inl (List.mem_of_getElem? (i := 525) (by decide +kernel))
theorem mf_X3_strike : MFv yX3_strike cX3_strike 3 none 2 := ⟨List.mem_of_getElem? (i := 526) (by decide +kernel), List.mem_of_getElem? (i := 527) (by decide +kernel), List.mem_of_getElem? (i := 66) (by decide +kernel), List.mem_of_getElem? (i := 528) (by decide +kernel), by decide +kernel, by decide +kernel, by decide +kernel⟩
theorem lk_X3_61 : LK RX3 61 yX3_needsTuner := Or.inl (List.mem_of_getElem? (i := 516) (by decide +kernel))
theorem mf_X3_needsTuner : MFv yX3_needsTuner cX3_needsTuner 1 (some .boolean) 0 := ⟨List.mem_of_getElem? (i := 517) (by decide +kernel), List.mem_of_getElem? (i := 518) (by decide +kernel), List.mem_of_getElem? (i := 66) (by decide +kernel), List.mem_of_getElem? (i := 519) (by decide +kernel), by decide +kernel, by decide +kernel, by decide +kernel⟩
theorem lk_X3_64 : LK RX3 64 yX3_tuneOnce := Or.inl (List.mem_of_getElem? (i := 520) (by decide +kernel))
theorem mf_X3_tuneOnce : MFv yX3_tuneOnce cX3_tuneOnce 3 none 0 := ⟨List.mem_of_getElem? (i := 522) (by decide +kernel), List.mem_of_getElem? (i := 14) (by decide +kernel), List.mem_of_getElem? (i := 66) (by decide +kernel), List.mem_of_getElem? (i := 523) (by decide +kernel), by decide +kernel, by decide +kernel, by decide +kernel⟩
theorem lk_X3_28 : Cond.methodLink RX3 28 arraycopyName ∈ lw_tbl := List.mem_of_getElem? (i := 509) (by decide +kernel)
theorem mf_arraycopy : Cond.native arraycopyName ∈ lw_tbl ∧ Cond.static arraycopyName ∈ lw_tbl ∧ Cond.initialized "java/lang/System" ∈ lw_tbl := ⟨List.mem_of_getElem? (i := 511) (by decide +kernel), List.mem_of_getElem? (i := 510) (by decide +kernel), List.mem_of_getElem? (i := 80) (by decide +kernel)⟩
/-- Panyard$Pan.needsTuner -/
def f_X3_needsTuner (N : Nt) (u : St) (k0 : Nat) : Option (Int32 × St) :=
  sb (f_X3_isCracked N u k0) fun r1 u3 =>
  if r1 = 0 then
    sb (f_X3_notesInTune N u3 k0) fun r5 u7 =>
    if r5 = 255 then
      some (0, u7)
    else
      some (1, u7)
  else
    some (0, u3)
set_option maxRecDepth 100000 in
set_option maxHeartbeats 4000000 in
theorem c_X3_needsTuner (l : Launch) (z : Zt) (ad : Ad) (N : Nt) (u : St) (k0 : Nat) (hk0 : vPan N k0) {r9 : Int32} {u9 : St} (h : f_X3_needsTuner N u k0 = some (r9, u9)) : MC l z yX3_needsTuner cX3_needsTuner 1 (some .boolean) { frames := 2, cells := 0, slots := 0, locals := 44 } 0 0 [.ref (ad 12 k0)] ad (GC z ad N u) (QI z ad (GC z ad N u9) r9) := by
  refine Met.ofW (cc := cX3_needsTuner) (maxL := 1) (ret := (some .boolean)) (by decide) rfl ?_
  intro p e s m args below meth c s₁ B hml hv
  obtain ⟨rfl, hSW, hW⟩ := hv
  have hx := B.exec; have hb := B.bytes; have hr := B.returns; have hlocks := B.notSynchronized
  have hown : s.vm.findClass RX3 = some m.cls := findClass_of_methodNamed B.named
  obtain ⟨hT, hK, hST⟩ := id hSW
  have hS : va_S (zA z) s.heap s.heap [] := va_S.rf
  have hl := lv_entry ([.ref (ad 12 k0)]) (n := 1) (Nat.le_of_ble_eq_true rfl)
  rw [lg_entry_eq]
  generalize (lg_sl ([.ref (ad 12 k0)]) ++ List.replicate (1 - (lg_sl ([.ref (ad 12 k0)])).length) Slot.unset).toArray = ls at hl ⊢
  have hl : lv_has ls 1 [(0, .ref (ad 12 k0))] := hl
  unfold f_X3_needsTuner at h
  refine lv_aload_n hx hb dX3_needsTuner_0 rfl (lv_at hl 0 rfl) ?_
  obtain ⟨r1, u3, h2, h⟩ := sb_s h
  refine nb_ci (nb_runV (As := []) (rest := []) hx hb hml hown hSW hS hW (c_X3_isCracked l z ad N u k0 hk0 h2) mf_X3_isCracked lk_X3_40 (kr_12 hk0) rfl rfl ⟨rfl, rfl⟩ ⟨Nat.le_of_ble_eq_true rfl, Nat.le_of_ble_eq_true rfl⟩ hl.1 (Nat.le_of_ble_eq_true rfl) dX3_needsTuner_1 ⟨Nat.le_of_ble_eq_true rfl, Nat.le_of_ble_eq_true rfl⟩) hS (fun H locs (hW : GW z ad (GC z ad N u3) H) hS => ?_)
  refine lv_if_ne (tgt := 21) hx hb dX3_needsTuner_4 (by decide) (fun c4 => ?_) (fun c4 => ?_)
  · replace h := ite_f h c4
    refine lv_iconst (v := 0) hx hb dX3_needsTuner_21 (by decide) ?_
    exact ne_iret hx hb hr rfl hlocks hW hS dX3_needsTuner_22 h
  · replace h := ite_t h c4
    refine lv_aload_n hx hb dX3_needsTuner_7 rfl (lv_at hl 0 rfl) ?_
    obtain ⟨r5, u7, h6, h⟩ := sb_s h
    refine nb_ci (nb_runV (As := []) (rest := []) hx hb hml hown hSW hS hW (c_X3_notesInTune l z ad N u3 k0 hk0 h6) mf_X3_notesInTune lk_X3_44 (kr_12 hk0) rfl rfl ⟨rfl, rfl⟩ ⟨Nat.le_of_ble_eq_true rfl, Nat.le_of_ble_eq_true rfl⟩ hl.1 (Nat.le_of_ble_eq_true rfl) dX3_needsTuner_8 ⟨Nat.le_of_ble_eq_true rfl, Nat.le_of_ble_eq_true rfl⟩) hS (fun H locs (hW : GW z ad (GC z ad N u7) H) hS => ?_)
    refine lv_sipush (v := 255) hx hb dX3_needsTuner_11 (by decide) ?_
    refine lv_icmp_eq (tgt := 21) hx hb dX3_needsTuner_14 (by decide) (fun c8 => ?_) (fun c8 => ?_)
    · replace h := ite_t h c8
      refine lv_iconst (v := 0) hx hb dX3_needsTuner_21 (by decide) ?_
      exact ne_iret hx hb hr rfl hlocks hW hS dX3_needsTuner_22 h
    · replace h := ite_f h c8
      refine lv_iconst (v := 1) hx hb dX3_needsTuner_17 (by decide) ?_
      refine lv_goto (tgt := 22) hx hb dX3_needsTuner_18 (by decide) ?_
      exact ne_iret hx hb hr rfl hlocks hW hS dX3_needsTuner_22 h
/-- Panyard$Pan.tuneOnce -/
def f_X3_tuneOnce_L4b (N : Nt) (k0 : Nat) (ih4 : Int32 → Int32 → St → Option (Unit × St)) (y2 : Int32) (y1 : Int32) (u : St) : Option (Unit × St) :=
  if 8 ≤ y2 then
    gd (inb y1 8) <|
    sb (f_X7_held N u (-(u 14 k0 (ix y1))) (-20) 20) fun r3 u5 =>
    sb (f_X3_strike N u5 k0 y1 r3) fun r6 u8 =>
    some ((), u8)
  else
    gd (inb y2 8) <|
    nm (mabs (u 14 k0 (ix y2))) fun v10 =>
    gd (inb y1 8) <|
    nm (mabs (u 14 k0 (ix y1))) fun v12 =>
    if v10 ≤ v12 then
      nm (y2 + 1) fun v14 =>
      ih4 v14 y1 u
    else
      nm (y2 + 1) fun v15 =>
      ih4 v15 y2 u
def f_X3_tuneOnce_L4 (N : Nt) (k0 : Nat) : Nat → Int32 → Int32 → St → Option (Unit × St) := lp (fun _ _ _ => none) (f_X3_tuneOnce_L4b N k0)
def f_X3_tuneOnce (N : Nt) (u : St) (k0 : Nat) : Option (Unit × St) :=
  f_X3_tuneOnce_L4 N k0 1000000 1 0 u
set_option maxRecDepth 100000 in
set_option maxHeartbeats 4000000 in
theorem c_X3_tuneOnce (l : Launch) (z : Zt) (ad : Ad) (N : Nt) (u : St) (k0 : Nat) (hk0 : vPan N k0) {r9 : Unit} {u9 : St} (h : f_X3_tuneOnce N u k0 = some (r9, u9)) : MC l z yX3_tuneOnce cX3_tuneOnce 3 none { frames := 3, cells := 0, slots := 0, locals := 66 } 0 0 [.ref (ad 12 k0)] ad (GC z ad N u) (QV z ad (GC z ad N u9)) := by
  refine Met.ofW (cc := cX3_tuneOnce) (maxL := 3) (ret := none) (by decide) rfl ?_
  intro p e s m args below meth c s₁ B hml hv
  obtain ⟨rfl, hSW, hW⟩ := hv
  have hx := B.exec; have hb := B.bytes; have hr := B.returns; have hlocks := B.notSynchronized
  have hown : s.vm.findClass RX3 = some m.cls := findClass_of_methodNamed B.named
  obtain ⟨hT, hK, hST⟩ := id hSW
  have hS : va_S (zA z) s.heap s.heap [] := va_S.rf
  have hl := lv_entry ([.ref (ad 12 k0)]) (n := 3) (Nat.le_of_ble_eq_true rfl)
  rw [lg_entry_eq]
  generalize (lg_sl ([.ref (ad 12 k0)]) ++ List.replicate (3 - (lg_sl ([.ref (ad 12 k0)])).length) Slot.unset).toArray = ls at hl ⊢
  have hl : lv_has ls 3 [(0, .ref (ad 12 k0))] := hl
  let WW : Heap → List Loc → JFrame → Prop := fun H locs g => W p l e (headSpec [Cond.code yX3_tuneOnce cX3_tuneOnce 3 none] { frames := 3, cells := 0, slots := 0, locals := 66 }).room s m [.ref (ad 12 k0)].toArray below meth c H locs 0 0 (MQ below (QV z ad (GC z ad N u9)) [.ref (ad 12 k0)].toArray s 0 0 (zA z)) g
  have hL4b : ∀ (ih4 : Int32 → Int32 → St → Option (Unit × St)) (hih4 : ∀ (y2 : Int32) (y1 : Int32) (u : St) (H : Heap) (locs : List Loc) (ls : Array Slot), lv_has ls 3 [(2, .int y2), (1, .int y1), (0, .ref (ad 12 k0))] → GW z ad (GC z ad N u) H → va_S (zA z) s.heap H locs → ih4 y2 y1 u = some (r9, u9) → WW H locs (F0 m 4 ls [])), ∀ (y2 : Int32) (y1 : Int32) (u : St) (H : Heap) (locs : List Loc) (ls : Array Slot), lv_has ls 3 [(2, .int y2), (1, .int y1), (0, .ref (ad 12 k0))] → GW z ad (GC z ad N u) H → va_S (zA z) s.heap H locs → f_X3_tuneOnce_L4b N k0 ih4 y2 y1 u = some (r9, u9) → WW H locs (F0 m 4 ls []) := by
    intro ih4 hih4 y2 y1 u H locs ls hl hW hS h
    change W p l e _ s m _ below meth c H locs 0 0 _ (F0 m 4 ls [])
    unfold f_X3_tuneOnce_L4b at h
    refine lv_iload_n hx hb dX3_tuneOnce_4 rfl (lv_at hl 0 rfl) ?_
    refine lv_bipush (v := 8) hx hb dX3_tuneOnce_5 (by decide) ?_
    refine lv_icmp_ge (tgt := 39) hx hb dX3_tuneOnce_7 (by decide) (fun c1 => ?_) (fun c1 => ?_)
    · replace h := ite_t h c1
      refine lv_aload_n hx hb dX3_tuneOnce_39 rfl (lv_at hl 2 rfl) ?_
      refine lv_iload_n hx hb dX3_tuneOnce_40 rfl (lv_at hl 1 rfl) ?_
      refine lv_aload_n hx hb dX3_tuneOnce_41 rfl (lv_at hl 2 rfl) ?_
      refine nb_get hx hb hT hK hown hW fl_X3_9 (kr_12 hk0) (v := .ref (ad 13 k0)) rfl dX3_tuneOnce_42 ?_
      refine lv_iload_n hx hb dX3_tuneOnce_45 rfl (lv_at hl 1 rfl) ?_
      obtain ⟨g2, h⟩ := gd_s h
      refine nb_iald hx hb hK hW 0 (kr_13 hk0) rfl (inb_in g2) dX3_tuneOnce_46 ?_
      refine lv_ineg hx hb dX3_tuneOnce_47 ?_
      refine lv_bipush (v := (-20)) hx hb dX3_tuneOnce_48 (by decide) ?_
      refine lv_bipush (v := 20) hx hb dX3_tuneOnce_50 (by decide) ?_
      obtain ⟨r3, u5, h4, h⟩ := sb_s h
      refine nb_ci (nb_runS (As := [.int (-(u 14 k0 (ix y1))), .int (-20), .int 20]) (rest := [.int y1, .ref (ad 12 k0)]) hx hb hml hown hSW hS hW (c_X7_held l z ad N u (-(u 14 k0 (ix y1))) (-20) 20 h4) mf_X7_held lk_X3_53 rfl ⟨rfl, rfl⟩ ⟨Nat.le_of_ble_eq_true rfl, Nat.le_of_ble_eq_true rfl⟩ hl.1 (Nat.le_of_ble_eq_true rfl) dX3_tuneOnce_52 ⟨Nat.le_of_ble_eq_true rfl, Nat.le_of_ble_eq_true rfl⟩) hS (fun H locs (hW : GW z ad (GC z ad N u5) H) hS => ?_)
      obtain ⟨r6, u8, h7, h⟩ := sb_s h
      refine nb_cv (nb_runV (As := [.int y1, .int r3]) (rest := []) hx hb hml hown hSW hS hW (c_X3_strike l z ad N u5 k0 y1 r3 hk0 h7) mf_X3_strike lk_X3_67 (kr_12 hk0) rfl rfl ⟨rfl, rfl⟩ ⟨Nat.le_of_ble_eq_true rfl, Nat.le_of_ble_eq_true rfl⟩ hl.1 (Nat.le_of_ble_eq_true rfl) dX3_tuneOnce_55 ⟨Nat.le_of_ble_eq_true rfl, Nat.le_of_ble_eq_true rfl⟩) hS (fun H locs (hW : GW z ad (GC z ad N u8) H) hS => ?_)
      exact ne_vret hx hb hr hlocks hW hS dX3_tuneOnce_58 h
    · replace h := ite_f h c1
      refine lv_aload_n hx hb dX3_tuneOnce_10 rfl (lv_at hl 2 rfl) ?_
      refine nb_get hx hb hT hK hown hW fl_X3_9 (kr_12 hk0) (v := .ref (ad 13 k0)) rfl dX3_tuneOnce_11 ?_
      refine lv_iload_n hx hb dX3_tuneOnce_14 rfl (lv_at hl 0 rfl) ?_
      obtain ⟨g9, h⟩ := gd_s h
      refine nb_iald hx hb hK hW 0 (kr_13 hk0) rfl (inb_in g9) dX3_tuneOnce_15 ?_
      refine nb_mabs hx hb hml hl.1 hown hT lm_X3_34 mf_Math_abs ⟨Nat.le_of_ble_eq_true rfl, Nat.le_of_ble_eq_true rfl⟩ ⟨Nat.le_of_ble_eq_true rfl, Nat.le_of_ble_eq_true rfl⟩ dX3_tuneOnce_16 ?_
      refine lv_topi (fun v10 ev10 => ?_)
      replace h := nm_at ev10 h
      refine lv_aload_n hx hb dX3_tuneOnce_19 rfl (lv_at hl 2 rfl) ?_
      refine nb_get hx hb hT hK hown hW fl_X3_9 (kr_12 hk0) (v := .ref (ad 13 k0)) rfl dX3_tuneOnce_20 ?_
      refine lv_iload_n hx hb dX3_tuneOnce_23 rfl (lv_at hl 1 rfl) ?_
      obtain ⟨g11, h⟩ := gd_s h
      refine nb_iald hx hb hK hW 0 (kr_13 hk0) rfl (inb_in g11) dX3_tuneOnce_24 ?_
      refine nb_mabs hx hb hml hl.1 hown hT lm_X3_34 mf_Math_abs ⟨Nat.le_of_ble_eq_true rfl, Nat.le_of_ble_eq_true rfl⟩ ⟨Nat.le_of_ble_eq_true rfl, Nat.le_of_ble_eq_true rfl⟩ dX3_tuneOnce_25 ?_
      refine lv_topi (fun v12 ev12 => ?_)
      replace h := nm_at ev12 h
      refine lv_icmp_le (tgt := 33) hx hb dX3_tuneOnce_28 (by decide) (fun c13 => ?_) (fun c13 => ?_)
      · replace h := ite_t h c13
        obtain ⟨v14, ev14, h⟩ := nm_s h
        refine lv_iinc (v := v14) (lv' := [(2, .int v14), (1, .int y1), (0, .ref (ad 12 k0))]) hx hb dX3_tuneOnce_33 hl (k := 0) rfl (by rw [ev14]; rfl) (by decide) rfl (fun ls hl => ?_)
        refine lv_goto (tgt := 4) hx hb dX3_tuneOnce_36 (by decide) ?_
        exact hih4 _ _ _ _ _ _ (lv_sub hl [0, 1, 2] rfl) hW hS h
      · replace h := ite_f h c13
        refine lv_iload_n hx hb dX3_tuneOnce_31 rfl (lv_at hl 0 rfl) ?_
        refine lv_istore_n (lv' := [(1, .int y2), (2, .int y2), (0, .ref (ad 12 k0))]) hx hb dX3_tuneOnce_32 rfl hl (by decide) rfl (fun ls hl => ?_)
        obtain ⟨v15, ev15, h⟩ := nm_s h
        refine lv_iinc (v := v15) (lv' := [(2, .int v15), (1, .int y2), (0, .ref (ad 12 k0))]) hx hb dX3_tuneOnce_33 hl (k := 1) rfl (by rw [ev15]; rfl) (by decide) rfl (fun ls hl => ?_)
        refine lv_goto (tgt := 4) hx hb dX3_tuneOnce_36 (by decide) ?_
        exact hih4 _ _ _ _ _ _ (lv_sub hl [0, 1, 2] rfl) hW hS h
  have hL4 : ∀ (n : Nat), ∀ (y2 : Int32) (y1 : Int32) (u : St) (H : Heap) (locs : List Loc) (ls : Array Slot), lv_has ls 3 [(2, .int y2), (1, .int y1), (0, .ref (ad 12 k0))] → GW z ad (GC z ad N u) H → va_S (zA z) s.heap H locs → f_X3_tuneOnce_L4 N k0 n y2 y1 u = some (r9, u9) → WW H locs (F0 m 4 ls []) := by
    intro n
    induction n with
    | zero => intro y2 y1 u H locs ls hl hW hS h; exact absurd h (by intro q; cases q)
    | succ n ihn => intro y2 y1 u H locs ls hl hW hS h; exact hL4b (f_X3_tuneOnce_L4 N k0 n) ihn y2 y1 u H locs ls hl hW hS h
  unfold f_X3_tuneOnce at h
  refine lv_iconst (v := 0) hx hb dX3_tuneOnce_0 (by decide) ?_
  refine lv_istore_n (lv' := [(1, .int 0), (0, .ref (ad 12 k0))]) hx hb dX3_tuneOnce_1 rfl hl (by decide) rfl (fun ls hl => ?_)
  refine lv_iconst (v := 1) hx hb dX3_tuneOnce_2 (by decide) ?_
  refine lv_istore_n (lv' := [(2, .int 1), (1, .int 0), (0, .ref (ad 12 k0))]) hx hb dX3_tuneOnce_3 rfl hl (by decide) rfl (fun ls hl => ?_)
  exact hL4 1000000 _ _ _ _ _ _ (lv_sub hl [0, 1, 2] rfl) hW hS h
/-- Panyard$Pan.tuneUpTo -/
def f_X3_tuneUpTo_L2b (N : Nt) (k0 : Nat) (ih2 : Int32 → Int32 → St → Option (Int32 × St)) (y2 : Int32) (y1 : Int32) (u : St) : Option (Int32 × St) :=
  if y1 ≤ y2 then
    some (y2, u)
  else
    sb (f_X3_needsTuner N u k0) fun r2 u4 =>
    if r2 = 0 then
      some (y2, u4)
    else
      sb (f_X3_tuneOnce N u4 k0) fun r6 u8 =>
      nm (y2 + 1) fun v9 =>
      ih2 v9 y1 u8
def f_X3_tuneUpTo_L2 (N : Nt) (k0 : Nat) : Nat → Int32 → Int32 → St → Option (Int32 × St) := lp (fun _ _ _ => none) (f_X3_tuneUpTo_L2b N k0)
def f_X3_tuneUpTo (N : Nt) (u : St) (k0 : Nat) (x1 : Int32) : Option (Int32 × St) :=
  f_X3_tuneUpTo_L2 N k0 1000000 0 x1 u
set_option maxRecDepth 100000 in
set_option maxHeartbeats 4000000 in
theorem c_X3_tuneUpTo (l : Launch) (z : Zt) (ad : Ad) (N : Nt) (u : St) (k0 : Nat) (x1 : Int32) (hk0 : vPan N k0) {r9 : Int32} {u9 : St} (h : f_X3_tuneUpTo N u k0 x1 = some (r9, u9)) : MC l z yX3_tuneUpTo cX3_tuneUpTo 3 (some .int) { frames := 4, cells := 0, slots := 0, locals := 88 } 0 0 [.ref (ad 12 k0), .int x1] ad (GC z ad N u) (QI z ad (GC z ad N u9) r9) := by
  refine Met.ofW (cc := cX3_tuneUpTo) (maxL := 3) (ret := (some .int)) (by decide) rfl ?_
  intro p e s m args below meth c s₁ B hml hv
  obtain ⟨rfl, hSW, hW⟩ := hv
  have hx := B.exec; have hb := B.bytes; have hr := B.returns; have hlocks := B.notSynchronized
  have hown : s.vm.findClass RX3 = some m.cls := findClass_of_methodNamed B.named
  obtain ⟨hT, hK, hST⟩ := id hSW
  have hS : va_S (zA z) s.heap s.heap [] := va_S.rf
  have hl := lv_entry ([.ref (ad 12 k0), .int x1]) (n := 3) (Nat.le_of_ble_eq_true rfl)
  rw [lg_entry_eq]
  generalize (lg_sl ([.ref (ad 12 k0), .int x1]) ++ List.replicate (3 - (lg_sl ([.ref (ad 12 k0), .int x1])).length) Slot.unset).toArray = ls at hl ⊢
  have hl : lv_has ls 3 [(0, .ref (ad 12 k0)), (1, .int x1)] := hl
  let WW : Heap → List Loc → JFrame → Prop := fun H locs g => W p l e (headSpec [Cond.code yX3_tuneUpTo cX3_tuneUpTo 3 (some .int)] { frames := 4, cells := 0, slots := 0, locals := 88 }).room s m [.ref (ad 12 k0), .int x1].toArray below meth c H locs 0 0 (MQ below (QI z ad (GC z ad N u9) r9) [.ref (ad 12 k0), .int x1].toArray s 0 0 (zA z)) g
  have hL2b : ∀ (ih2 : Int32 → Int32 → St → Option (Int32 × St)) (hih2 : ∀ (y2 : Int32) (y1 : Int32) (u : St) (H : Heap) (locs : List Loc) (ls : Array Slot), lv_has ls 3 [(2, .int y2), (0, .ref (ad 12 k0)), (1, .int y1)] → GW z ad (GC z ad N u) H → va_S (zA z) s.heap H locs → ih2 y2 y1 u = some (r9, u9) → WW H locs (F0 m 2 ls [])), ∀ (y2 : Int32) (y1 : Int32) (u : St) (H : Heap) (locs : List Loc) (ls : Array Slot), lv_has ls 3 [(2, .int y2), (0, .ref (ad 12 k0)), (1, .int y1)] → GW z ad (GC z ad N u) H → va_S (zA z) s.heap H locs → f_X3_tuneUpTo_L2b N k0 ih2 y2 y1 u = some (r9, u9) → WW H locs (F0 m 2 ls []) := by
    intro ih2 hih2 y2 y1 u H locs ls hl hW hS h
    change W p l e _ s m _ below meth c H locs 0 0 _ (F0 m 2 ls [])
    unfold f_X3_tuneUpTo_L2b at h
    refine lv_iload_n hx hb dX3_tuneUpTo_2 rfl (lv_at hl 0 rfl) ?_
    refine lv_iload_n hx hb dX3_tuneUpTo_3 rfl (lv_at hl 2 rfl) ?_
    refine lv_icmp_ge (tgt := 24) hx hb dX3_tuneUpTo_4 (by decide) (fun c1 => ?_) (fun c1 => ?_)
    · replace h := ite_t h c1
      refine lv_iload_n hx hb dX3_tuneUpTo_24 rfl (lv_at hl 0 rfl) ?_
      exact ne_iret hx hb hr rfl hlocks hW hS dX3_tuneUpTo_25 h
    · replace h := ite_f h c1
      refine lv_aload_n hx hb dX3_tuneUpTo_7 rfl (lv_at hl 1 rfl) ?_
      obtain ⟨r2, u4, h3, h⟩ := sb_s h
      refine nb_ci (nb_runV (As := []) (rest := []) hx hb hml hown hSW hS hW (c_X3_needsTuner l z ad N u k0 hk0 h3) mf_X3_needsTuner lk_X3_61 (kr_12 hk0) rfl rfl ⟨rfl, rfl⟩ ⟨Nat.le_of_ble_eq_true rfl, Nat.le_of_ble_eq_true rfl⟩ hl.1 (Nat.le_of_ble_eq_true rfl) dX3_tuneUpTo_8 ⟨Nat.le_of_ble_eq_true rfl, Nat.le_of_ble_eq_true rfl⟩) hS (fun H locs (hW : GW z ad (GC z ad N u4) H) hS => ?_)
      refine lv_if_eq (tgt := 24) hx hb dX3_tuneUpTo_11 (by decide) (fun c5 => ?_) (fun c5 => ?_)
      · replace h := ite_t h c5
        refine lv_iload_n hx hb dX3_tuneUpTo_24 rfl (lv_at hl 0 rfl) ?_
        exact ne_iret hx hb hr rfl hlocks hW hS dX3_tuneUpTo_25 h
      · replace h := ite_f h c5
        refine lv_aload_n hx hb dX3_tuneUpTo_14 rfl (lv_at hl 1 rfl) ?_
        obtain ⟨r6, u8, h7, h⟩ := sb_s h
        refine nb_cv (nb_runV (As := []) (rest := []) hx hb hml hown hSW hS hW (c_X3_tuneOnce l z ad N u4 k0 hk0 h7) mf_X3_tuneOnce lk_X3_64 (kr_12 hk0) rfl rfl ⟨rfl, rfl⟩ ⟨Nat.le_of_ble_eq_true rfl, Nat.le_of_ble_eq_true rfl⟩ hl.1 (Nat.le_of_ble_eq_true rfl) dX3_tuneUpTo_15 ⟨Nat.le_of_ble_eq_true rfl, Nat.le_of_ble_eq_true rfl⟩) hS (fun H locs (hW : GW z ad (GC z ad N u8) H) hS => ?_)
        obtain ⟨v9, ev9, h⟩ := nm_s h
        refine lv_iinc (v := v9) (lv' := [(2, .int v9), (0, .ref (ad 12 k0)), (1, .int y1)]) hx hb dX3_tuneUpTo_18 hl (k := 0) rfl (by rw [ev9]; rfl) (by decide) rfl (fun ls hl => ?_)
        refine lv_goto (tgt := 2) hx hb dX3_tuneUpTo_21 (by decide) ?_
        exact hih2 _ _ _ _ _ _ (lv_sub hl [0, 1, 2] rfl) hW hS h
  have hL2 : ∀ (n : Nat), ∀ (y2 : Int32) (y1 : Int32) (u : St) (H : Heap) (locs : List Loc) (ls : Array Slot), lv_has ls 3 [(2, .int y2), (0, .ref (ad 12 k0)), (1, .int y1)] → GW z ad (GC z ad N u) H → va_S (zA z) s.heap H locs → f_X3_tuneUpTo_L2 N k0 n y2 y1 u = some (r9, u9) → WW H locs (F0 m 2 ls []) := by
    intro n
    induction n with
    | zero => intro y2 y1 u H locs ls hl hW hS h; exact absurd h (by intro q; cases q)
    | succ n ihn => intro y2 y1 u H locs ls hl hW hS h; exact hL2b (f_X3_tuneUpTo_L2 N k0 n) ihn y2 y1 u H locs ls hl hW hS h
  unfold f_X3_tuneUpTo at h
  refine lv_iconst (v := 0) hx hb dX3_tuneUpTo_0 (by decide) ?_
  refine lv_istore_n (lv' := [(2, .int 0), (0, .ref (ad 12 k0)), (1, .int x1)]) hx hb dX3_tuneUpTo_1 rfl hl (by decide) rfl (fun ls hl => ?_)
  exact hL2 1000000 _ _ _ _ _ _ (lv_sub hl [0, 1, 2] rfl) hW hS h
/-- Panyard$Pan.copyFrom -/
def f_X3_copyFrom (N : Nt) (u : St) (k0 : Nat) (k1 : Nat) : Option (Unit × St) :=
  nm (sset u 11 k0 0 (u 11 k1 0)) fun u1 =>
  nm (sset u1 12 k0 0 (u1 12 k1 0)) fun u2 =>
  nm (sset u2 13 k0 0 (u2 13 k1 0)) fun u3 =>
  nm (scpy u3 14 k1 k0 8) fun u4 =>
  some ((), u4)
set_option maxRecDepth 100000 in
set_option maxHeartbeats 4000000 in
theorem c_X3_copyFrom (l : Launch) (z : Zt) (ad : Ad) (N : Nt) (u : St) (k0 : Nat) (k1 : Nat) (hk0 : vPan N k0) (hk1 : vPan N k1) {r9 : Unit} {u9 : St} (h : f_X3_copyFrom N u k0 k1 = some (r9, u9)) : MC l z yX3_copyFrom cX3_copyFrom 2 none { frames := 1, cells := 0, slots := 0, locals := 60 } 0 0 [.ref (ad 12 k0), .ref (ad 12 k1)] ad (GC z ad N u) (QV z ad (GC z ad N u9)) := by
  refine Met.ofW (cc := cX3_copyFrom) (maxL := 2) (ret := none) (by decide) rfl ?_
  intro p e s m args below meth c s₁ B hml hv
  obtain ⟨rfl, hSW, hW⟩ := hv
  have hx := B.exec; have hb := B.bytes; have hr := B.returns; have hlocks := B.notSynchronized
  have hown : s.vm.findClass RX3 = some m.cls := findClass_of_methodNamed B.named
  obtain ⟨hT, hK, hST⟩ := id hSW
  have hS : va_S (zA z) s.heap s.heap [] := va_S.rf
  have hl := lv_entry ([.ref (ad 12 k0), .ref (ad 12 k1)]) (n := 2) (Nat.le_of_ble_eq_true rfl)
  rw [lg_entry_eq]
  generalize (lg_sl ([.ref (ad 12 k0), .ref (ad 12 k1)]) ++ List.replicate (2 - (lg_sl ([.ref (ad 12 k0), .ref (ad 12 k1)])).length) Slot.unset).toArray = ls at hl ⊢
  have hl : lv_has ls 2 [(0, .ref (ad 12 k0)), (1, .ref (ad 12 k1))] := hl
  unfold f_X3_copyFrom at h
  refine lv_aload_n hx hb dX3_copyFrom_0 rfl (lv_at hl 0 rfl) ?_
  refine lv_aload_n hx hb dX3_copyFrom_1 rfl (lv_at hl 1 rfl) ?_
  refine nb_get hx hb hT hK hown hW fl_X3_19 (kr_12 hk1) (v := .int (u 11 k1 0)) rfl dX3_copyFrom_2 ?_
  obtain ⟨u1, eu1, h⟩ := nm_s h
  refine nb_put hx hb hT hK hown hW hS fl_X3_19 tyX3 tyX3_ok nmX3 (kr_12 hk0) (v := .int (u 11 k1 0)) rfl rfl rfl (Nat.le_of_ble_eq_true rfl) ((gp_11 hk0).trans (congrArg (GC z ad N) eu1.symm)) dX3_copyFrom_5 (fun H locs hW hS => ?_)
  refine lv_aload_n hx hb dX3_copyFrom_8 rfl (lv_at hl 0 rfl) ?_
  refine lv_aload_n hx hb dX3_copyFrom_9 rfl (lv_at hl 1 rfl) ?_
  refine nb_get hx hb hT hK hown hW fl_X3_22 (kr_12 hk1) (v := .int (u1 12 k1 0)) rfl dX3_copyFrom_10 ?_
  obtain ⟨u2, eu2, h⟩ := nm_s h
  refine nb_put hx hb hT hK hown hW hS fl_X3_22 tyX3 tyX3_ok nmX3 (kr_12 hk0) (v := .int (u1 12 k1 0)) rfl rfl rfl (Nat.le_of_ble_eq_true rfl) ((gp_12 hk0).trans (congrArg (GC z ad N) eu2.symm)) dX3_copyFrom_13 (fun H locs hW hS => ?_)
  refine lv_aload_n hx hb dX3_copyFrom_16 rfl (lv_at hl 0 rfl) ?_
  refine lv_aload_n hx hb dX3_copyFrom_17 rfl (lv_at hl 1 rfl) ?_
  refine nb_get hx hb hT hK hown hW fl_X3_25 (kr_12 hk1) (v := .int (u2 13 k1 0)) rfl dX3_copyFrom_18 ?_
  obtain ⟨u3, eu3, h⟩ := nm_s h
  refine nb_put hx hb hT hK hown hW hS fl_X3_25 tyX3 tyX3_ok nmX3 (kr_12 hk0) (v := .int (u2 13 k1 0)) rfl rfl rfl (Nat.le_of_ble_eq_true rfl) ((gp_13 hk0).trans (congrArg (GC z ad N) eu3.symm)) dX3_copyFrom_21 (fun H locs hW hS => ?_)
  refine lv_aload_n hx hb dX3_copyFrom_24 rfl (lv_at hl 1 rfl) ?_
  refine nb_get hx hb hT hK hown hW fl_X3_9 (kr_12 hk1) (v := .ref (ad 13 k1)) rfl dX3_copyFrom_25 ?_
  refine lv_iconst (v := 0) hx hb dX3_copyFrom_28 (by decide) ?_
  refine lv_aload_n hx hb dX3_copyFrom_29 rfl (lv_at hl 0 rfl) ?_
  refine nb_get hx hb hT hK hown hW fl_X3_9 (kr_12 hk0) (v := .ref (ad 13 k0)) rfl dX3_copyFrom_30 ?_
  refine lv_iconst (v := 0) hx hb dX3_copyFrom_33 (by decide) ?_
  refine lv_bipush (v := 8) hx hb dX3_copyFrom_34 (by decide) ?_
  obtain ⟨u4, eu4, h⟩ := nm_s h
  refine nb_copy hx hb hml hl.1 hown hT hK hW hS 0 (kr_13 hk1) (kr_13 hk0) rfl (N9 := 8) (by decide) ⟨by decide, by decide⟩ (by decide) lk_X3_28 mf_arraycopy ⟨Nat.le_of_ble_eq_true rfl, Nat.le_of_ble_eq_true rfl⟩ ((gy_14 hk0).trans (congrArg (GC z ad N) eu4.symm)) dX3_copyFrom_36 (fun H locs hW hS => ?_)
  exact ne_vret hx hb hr hlocks hW hS dX3_copyFrom_39 h
