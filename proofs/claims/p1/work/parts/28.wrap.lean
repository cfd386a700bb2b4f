/-! 28: the wrappers of the law -/
theorem mf_X7_pan : MFv yX7_pan cX7_pan 3 (some .int) 1 := ⟨List.mem_of_getElem? (i := 669) (by decide +kernel), List.mem_of_getElem? (i := 670) (by decide +kernel), List.mem_of_getElem? (i := 61) (by decide +kernel), List.mem_of_getElem? (i := 671) (by decide +kernel), by decide +kernel, by decide +kernel, by decide +kernel⟩
theorem mf_X7_blow : MFv yX7_blow cX7_blow 5 (some .int) 3 := ⟨List.mem_of_getElem? (i := 682) (by decide +kernel), List.mem_of_getElem? (i := 683) (by decide +kernel), List.mem_of_getElem? (i := 61) (by decide +kernel), List.mem_of_getElem? (i := 684) (by decide +kernel), by decide +kernel, by decide +kernel, by decide +kernel⟩
theorem mf_X7_burn : MFv yX7_burn cX7_burn 2 (some .int) 1 := ⟨List.mem_of_getElem? (i := 696) (by decide +kernel), List.mem_of_getElem? (i := 697) (by decide +kernel), List.mem_of_getElem? (i := 61) (by decide +kernel), List.mem_of_getElem? (i := 698) (by decide +kernel), by decide +kernel, by decide +kernel, by decide +kernel⟩
theorem mf_X7_tuner : MFv yX7_tuner cX7_tuner 4 (some .int) 2 := ⟨List.mem_of_getElem? (i := 707) (by decide +kernel), List.mem_of_getElem? (i := 708) (by decide +kernel), List.mem_of_getElem? (i := 61) (by decide +kernel), List.mem_of_getElem? (i := 709) (by decide +kernel), by decide +kernel, by decide +kernel, by decide +kernel⟩
theorem mf_X7_phrase : MFv yX7_phrase cX7_phrase 5 (some .int) 3 := ⟨List.mem_of_getElem? (i := 715) (by decide +kernel), List.mem_of_getElem? (i := 716) (by decide +kernel), List.mem_of_getElem? (i := 61) (by decide +kernel), List.mem_of_getElem? (i := 717) (by decide +kernel), by decide +kernel, by decide +kernel, by decide +kernel⟩
theorem mf_X7_change : MFv yX7_change cX7_change 6 (some .int) 3 := ⟨List.mem_of_getElem? (i := 751) (by decide +kernel), List.mem_of_getElem? (i := 752) (by decide +kernel), List.mem_of_getElem? (i := 61) (by decide +kernel), List.mem_of_getElem? (i := 753) (by decide +kernel), by decide +kernel, by decide +kernel, by decide +kernel⟩
theorem mf_X7_put : MFv yX7_put cX7_put 3 (some .int) 1 := ⟨List.mem_of_getElem? (i := 766) (by decide +kernel), List.mem_of_getElem? (i := 767) (by decide +kernel), List.mem_of_getElem? (i := 61) (by decide +kernel), List.mem_of_getElem? (i := 768) (by decide +kernel), by decide +kernel, by decide +kernel, by decide +kernel⟩
theorem mf_X7_cut : MFv yX7_cut cX7_cut 3 (some .int) 1 := ⟨List.mem_of_getElem? (i := 778) (by decide +kernel), List.mem_of_getElem? (i := 779) (by decide +kernel), List.mem_of_getElem? (i := 61) (by decide +kernel), List.mem_of_getElem? (i := 780) (by decide +kernel), by decide +kernel, by decide +kernel, by decide +kernel⟩
theorem mf_X7_player : MFv yX7_player cX7_player 5 (some .int) 3 := ⟨List.mem_of_getElem? (i := 789) (by decide +kernel), List.mem_of_getElem? (i := 790) (by decide +kernel), List.mem_of_getElem? (i := 61) (by decide +kernel), List.mem_of_getElem? (i := 791) (by decide +kernel), by decide +kernel, by decide +kernel, by decide +kernel⟩
theorem mf_X7_give : MFv yX7_give cX7_give 6 (some .int) 2 := ⟨List.mem_of_getElem? (i := 828) (by decide +kernel), List.mem_of_getElem? (i := 829) (by decide +kernel), List.mem_of_getElem? (i := 61) (by decide +kernel), List.mem_of_getElem? (i := 830) (by decide +kernel), by decide +kernel, by decide +kernel, by decide +kernel⟩
theorem mf_X7_absent : MFv yX7_absent cX7_absent 4 (some .boolean) 2 := ⟨List.mem_of_getElem? (i := 836) (by decide +kernel), List.mem_of_getElem? (i := 837) (by decide +kernel), List.mem_of_getElem? (i := 61) (by decide +kernel), List.mem_of_getElem? (i := 838) (by decide +kernel), by decide +kernel, by decide +kernel, by decide +kernel⟩
theorem mf_X7_teach : MFv yX7_teach cX7_teach 5 (some .int) 3 := ⟨List.mem_of_getElem? (i := 843) (by decide +kernel), List.mem_of_getElem? (i := 844) (by decide +kernel), List.mem_of_getElem? (i := 61) (by decide +kernel), List.mem_of_getElem? (i := 845) (by decide +kernel), by decide +kernel, by decide +kernel, by decide +kernel⟩
theorem mf_X7_rehearse : MFv yX7_rehearse cX7_rehearse 4 (some .int) 1 := ⟨List.mem_of_getElem? (i := 853) (by decide +kernel), List.mem_of_getElem? (i := 854) (by decide +kernel), List.mem_of_getElem? (i := 61) (by decide +kernel), List.mem_of_getElem? (i := 855) (by decide +kernel), by decide +kernel, by decide +kernel, by decide +kernel⟩
theorem mf_X7_pass : MFv yX7_pass cX7_pass 5 (some .int) 3 := ⟨List.mem_of_getElem? (i := 870) (by decide +kernel), List.mem_of_getElem? (i := 871) (by decide +kernel), List.mem_of_getElem? (i := 61) (by decide +kernel), List.mem_of_getElem? (i := 872) (by decide +kernel), by decide +kernel, by decide +kernel, by decide +kernel⟩
theorem mf_X7_sponsor : MFv yX7_sponsor cX7_sponsor 2 (some .int) 1 := ⟨List.mem_of_getElem? (i := 891) (by decide +kernel), List.mem_of_getElem? (i := 892) (by decide +kernel), List.mem_of_getElem? (i := 61) (by decide +kernel), List.mem_of_getElem? (i := 893) (by decide +kernel), by decide +kernel, by decide +kernel, by decide +kernel⟩
theorem mf_X7_rival : MFv yX7_rival cX7_rival 3 (some .int) 1 := ⟨List.mem_of_getElem? (i := 899) (by decide +kernel), List.mem_of_getElem? (i := 900) (by decide +kernel), List.mem_of_getElem? (i := 61) (by decide +kernel), List.mem_of_getElem? (i := 901) (by decide +kernel), by decide +kernel, by decide +kernel, by decide +kernel⟩
theorem mf_X7_lean : MFv yX7_lean cX7_lean 4 (some .int) 2 := ⟨List.mem_of_getElem? (i := 908) (by decide +kernel), List.mem_of_getElem? (i := 909) (by decide +kernel), List.mem_of_getElem? (i := 61) (by decide +kernel), List.mem_of_getElem? (i := 910) (by decide +kernel), by decide +kernel, by decide +kernel, by decide +kernel⟩
theorem mf_X7_play : MFv yX7_play cX7_play 3 (some .int) 0 := ⟨List.mem_of_getElem? (i := 917) (by decide +kernel), List.mem_of_getElem? (i := 918) (by decide +kernel), List.mem_of_getElem? (i := 61) (by decide +kernel), List.mem_of_getElem? (i := 919) (by decide +kernel), by decide +kernel, by decide +kernel, by decide +kernel⟩
def R_pan (x1 k w9 w : Int32) : Prop := (∃ u9, f_X7_pan N0 u00 x1 = some (.ok w9, u9) ∧ k = 0) ∨ (∃ u9, f_X7_pan N0 u00 x1 = some (.error "java/lang/IndexOutOfBoundsException", u9) ∧ k = 1 ∧ w9 = w) ∨ (∃ u9, f_X7_pan N0 u00 x1 = some (.error "java/lang/IllegalStateException", u9) ∧ k = 2 ∧ w9 = w)
theorem mfw_pan : MFw yL_pan cL_pan 4 [(0, 9, 12, 13), (0, 9, 15, 15)] 3 := ⟨List.mem_of_getElem? (i := 664) (by decide +kernel), List.mem_of_getElem? (i := 60) (by decide +kernel), List.mem_of_getElem? (i := 665) (by decide +kernel), by decide +kernel, by decide +kernel, by decide +kernel⟩
set_option maxRecDepth 100000 in
set_option maxHeartbeats 4000000 in
theorem w_pan (l : Launch) (hfl : l.stackTraces = false) (z : Zt) (o : Ot) (ad : Ad) (X : Gt) (hA : Raw ad) (A : Nat → Nat) (w : Int32) (hF : FM z (GC z ad N0 X u00) A (mW w)) (x1 : Int32) {k w9 : Int32} (h : R_pan x1 k w9 w) : MW l z o yL_pan cL_pan 4 [(0, 9, 12, 13), (0, 9, 15, 15)] { frames := 8, cells := 2, slots := 13, locals := 124 } 2 13 [.ref (ad 0 0), .int x1, .ref (A 13)] ad (GC z ad N0 X u00) (MQw z A k w9) := by
  refine va_MetW (hh := [(0, 9, 12, 13), (0, 9, 15, 15)]) (cc := cL_pan) (maxL := 4) (ret := some .int) (by decide) rfl ?_
  intro p e s m args below meth c s₁ B hml hv
  obtain ⟨rfl, hSW, hSO, hW⟩ := hv
  have hx := B.exec; have hb := B.bytes; have hr := B.returns; have hlocks := B.notSynchronized
  have hown : s.vm.findClass RL = some m.cls := findClass_of_methodNamed B.named
  have htab : c.exceptionTable.toList = tableOf [(0, 9, 12, 13), (0, 9, 15, 15)] := vx_table (x := yL_pan) B (atoms_spec (ws := [Cond.codeWith yL_pan cL_pan 4 (some .int) [(0, 9, 12, 13), (0, 9, 15, 15)]]) B.pre _ List.mem_cons_self)
  obtain ⟨hT, hK, hST, hB0⟩ := id hSW
  have hS : va_S (zA z) s.heap s.heap [] := va_S.rf
  have hl := lv_entry ([.ref (ad 0 0), .int x1, .ref (A 13)]) (n := 4) (Nat.le_of_ble_eq_true rfl)
  rw [lg_entry_eq]
  generalize (lg_sl ([.ref (ad 0 0), .int x1, .ref (A 13)]) ++ List.replicate (4 - (lg_sl ([.ref (ad 0 0), .int x1, .ref (A 13)])).length) Slot.unset).toArray = ls at hl ⊢
  have hl : lv_has ls 4 [(0, .ref (ad 0 0)), (1, .int x1), (2, .ref (A 13))] := hl
  rcases h with ⟨u9, h, rfl⟩ | ⟨u9, h, rfl, rfl⟩ | ⟨u9, h, rfl, rfl⟩
  · refine lv_aload_n hx hb dL_pan_0 rfl (lv_at hl 2 rfl) ?_
    refine lv_iconst (v := 0) hx hb dL_pan_1 (by decide) ?_
    refine lv_aload_n hx hb dL_pan_2 rfl (lv_at hl 0 rfl) ?_
    refine lv_iload_n hx hb dL_pan_3 rfl (lv_at hl 1 rfl) ?_
    refine va_calli (nb_runV (As := [.int x1]) (rest := [.int 0, .ref (A 13)]) (kd := 0) (k := 0) hx hb hml hown hSW hS hW (c_X7_pan l z ad N0 X u00 x1 hA h) mf_X7_pan (Or.inl (List.mem_of_getElem? (i := 668) (by decide +kernel))) (by rfl) rfl rfl ⟨rfl, rfl⟩ ⟨Nat.le_of_ble_eq_true rfl, Nat.le_of_ble_eq_true rfl⟩ hl.1 (Nat.le_of_ble_eq_true rfl) dL_pan_4 ⟨Nat.le_of_ble_eq_true rfl, Nat.le_of_ble_eq_true rfl⟩) hS (fun _ _ h => h) (fun _ h => h) (fun r8 ad2 t H locs ht _ hp hW1 _ _ hS => ?_)
    obtain ⟨rfl, hP⟩ := hp
    subst ht
    have hA2 : Raw ad2 := fun b => (hP 99 b (fun q => by omega)).trans (hA b)
    replace hW := hW1
    refine lv_i2l hx hb dL_pan_7 rfl ?_
    refine nb_out hA2 hx hb hK hW hS (hF.gc) rfl dL_pan_8 (fun H locs G9 hF9 hW hS => ?_)
    refine lv_goto (tgt := 18) hx hb dL_pan_9 (by decide) ?_
    refine lv_iconst (v := 0) hx hb dL_pan_18 (by decide) ?_
    refine W.widen (k := 2) (n := 13) (Nat.le_of_ble_eq_true rfl) (Nat.le_of_ble_eq_true rfl) ?_
    exact nb_wret hA2 hx hb hr hlocks hW hF9 hS dL_pan_19
  · refine lv_aload_n hx hb dL_pan_0 rfl (lv_at hl 2 rfl) ?_
    refine lv_iconst (v := 0) hx hb dL_pan_1 (by decide) ?_
    refine lv_aload_n hx hb dL_pan_2 rfl (lv_at hl 0 rfl) ?_
    refine lv_iload_n hx hb dL_pan_3 rfl (lv_at hl 1 rfl) ?_
    refine nx_ci (nx_runV (As := [.int x1]) (rest := [.int 0, .ref (A 13)]) (kd := 0) (k := 0) hx hb hml hown hSW hS hW (cx_X7_pan l z ad N0 X u00 x1 hfl h) mf_X7_pan (List.mem_of_getElem? (i := 668) (by decide +kernel)) (by rfl) rfl rfl ⟨rfl, rfl⟩ ⟨Nat.le_of_ble_eq_true rfl, Nat.le_of_ble_eq_true rfl⟩ hl.1 (Nat.le_of_ble_eq_true rfl) dL_pan_4 ⟨Nat.le_of_ble_eq_true rfl, Nat.le_of_ble_eq_true rfl⟩) hS (fun ce q9 H locs hce hcv hcl hW hS => ?_)
    refine vx_catch (E := "java/lang/IndexOutOfBoundsException") (name := "java/lang/IndexOutOfBoundsException") hown [] (⟨0, 9, 12, 13⟩ : ExceptionTableEntry) [(⟨0, 9, 15, 15⟩ : ExceptionTableEntry)] (htab.trans rfl) (fun zz hz => absurd hz List.not_mem_nil) (by decide) (by decide) (hT.use (List.mem_of_getElem? (i := 666) (by decide +kernel)) rfl) (hT.use (List.mem_of_getElem? (i := 477) (by decide +kernel)) rfl) hce hcv hcl ?_
    refine lv_astore_n (lv' := [(3, .ref q9), (0, .ref (ad 0 0)), (1, .int x1), (2, .ref (A 13))]) hx hb dL_pan_12 rfl hl (by decide) rfl (fun ls hl => ?_)
    refine lv_iconst (v := 1) hx hb dL_pan_13 (by decide) ?_
    refine W.widen (k := 2) (n := 13) (Nat.le_of_ble_eq_true rfl) (Nat.le_of_ble_eq_true rfl) ?_
    exact nb_wret hA hx hb hr hlocks hW hF.gc hS dL_pan_14
  · refine lv_aload_n hx hb dL_pan_0 rfl (lv_at hl 2 rfl) ?_
    refine lv_iconst (v := 0) hx hb dL_pan_1 (by decide) ?_
    refine lv_aload_n hx hb dL_pan_2 rfl (lv_at hl 0 rfl) ?_
    refine lv_iload_n hx hb dL_pan_3 rfl (lv_at hl 1 rfl) ?_
    refine nx_ci (nx_runV (As := [.int x1]) (rest := [.int 0, .ref (A 13)]) (kd := 0) (k := 0) hx hb hml hown hSW hS hW (cx_X7_pan l z ad N0 X u00 x1 hfl h) mf_X7_pan (List.mem_of_getElem? (i := 668) (by decide +kernel)) (by rfl) rfl rfl ⟨rfl, rfl⟩ ⟨Nat.le_of_ble_eq_true rfl, Nat.le_of_ble_eq_true rfl⟩ hl.1 (Nat.le_of_ble_eq_true rfl) dL_pan_4 ⟨Nat.le_of_ble_eq_true rfl, Nat.le_of_ble_eq_true rfl⟩) hS (fun ce q9 H locs hce hcv hcl hW hS => ?_)
    refine vx_catch (E := "java/lang/IllegalStateException") (name := "java/lang/IllegalStateException") hown [(⟨0, 9, 12, 13⟩ : ExceptionTableEntry)] (⟨0, 9, 15, 15⟩ : ExceptionTableEntry) [] (htab.trans rfl) (fun zz hz => by rw [List.mem_singleton.mp hz]; exact Or.inr ⟨by decide, "java/lang/IndexOutOfBoundsException", hT.use (List.mem_of_getElem? (i := 666) (by decide +kernel)) rfl, hSO.2.2.2.2.2.2.1⟩) (by decide) (by decide) (hT.use (List.mem_of_getElem? (i := 667) (by decide +kernel)) rfl) (hT.use (List.mem_of_getElem? (i := 640) (by decide +kernel)) rfl) hce hcv hcl ?_
    refine lv_astore_n (lv' := [(3, .ref q9), (0, .ref (ad 0 0)), (1, .int x1), (2, .ref (A 13))]) hx hb dL_pan_15 rfl hl (by decide) rfl (fun ls hl => ?_)
    refine lv_iconst (v := 2) hx hb dL_pan_16 (by decide) ?_
    refine W.widen (k := 2) (n := 13) (Nat.le_of_ble_eq_true rfl) (Nat.le_of_ble_eq_true rfl) ?_
    exact nb_wret hA hx hb hr hlocks hW hF.gc hS dL_pan_17
def R_blow (x1 x2 x3 k w9 w : Int32) : Prop := (∃ u9, f_X7_blow N0 u00 x1 x2 x3 = some (.error "java/lang/IndexOutOfBoundsException", u9) ∧ k = 1 ∧ w9 = w) ∨ (∃ u9, f_X7_blow N0 u00 x1 x2 x3 = some (.error "java/lang/IllegalArgumentException", u9) ∧ k = 2 ∧ w9 = w) ∨ (∃ u9, f_X7_blow N0 u00 x1 x2 x3 = some (.error "java/lang/IllegalStateException", u9) ∧ k = 3 ∧ w9 = w)
theorem mfw_blow : MFw yL_blow cL_blow 6 [(0, 12, 15, 13), (0, 12, 19, 21), (0, 12, 23, 15)] 5 := ⟨List.mem_of_getElem? (i := 678) (by decide +kernel), List.mem_of_getElem? (i := 60) (by decide +kernel), List.mem_of_getElem? (i := 679) (by decide +kernel), by decide +kernel, by decide +kernel, by decide +kernel⟩
set_option maxRecDepth 100000 in
set_option maxHeartbeats 4000000 in
theorem w_blow (l : Launch) (hfl : l.stackTraces = false) (z : Zt) (o : Ot) (ad : Ad) (X : Gt) (hA : Raw ad) (A : Nat → Nat) (w : Int32) (hF : FM z (GC z ad N0 X u00) A (mW w)) (x1 : Int32) (x2 : Int32) (x3 : Int32) {k w9 : Int32} (h : R_blow x1 x2 x3 k w9 w) : MW l z o yL_blow cL_blow 6 [(0, 12, 15, 13), (0, 12, 19, 21), (0, 12, 23, 15)] { frames := 8, cells := 1, slots := 6, locals := 127 } 1 6 [.ref (ad 0 0), .int x1, .int x2, .int x3, .ref (A 13)] ad (GC z ad N0 X u00) (MQw z A k w9) := by
  refine va_MetW (hh := [(0, 12, 15, 13), (0, 12, 19, 21), (0, 12, 23, 15)]) (cc := cL_blow) (maxL := 6) (ret := some .int) (by decide) rfl ?_
  intro p e s m args below meth c s₁ B hml hv
  obtain ⟨rfl, hSW, hSO, hW⟩ := hv
  have hx := B.exec; have hb := B.bytes; have hr := B.returns; have hlocks := B.notSynchronized
  have hown : s.vm.findClass RL = some m.cls := findClass_of_methodNamed B.named
  have htab : c.exceptionTable.toList = tableOf [(0, 12, 15, 13), (0, 12, 19, 21), (0, 12, 23, 15)] := vx_table (x := yL_blow) B (atoms_spec (ws := [Cond.codeWith yL_blow cL_blow 6 (some .int) [(0, 12, 15, 13), (0, 12, 19, 21), (0, 12, 23, 15)]]) B.pre _ List.mem_cons_self)
  obtain ⟨hT, hK, hST, hB0⟩ := id hSW
  have hS : va_S (zA z) s.heap s.heap [] := va_S.rf
  have hl := lv_entry ([.ref (ad 0 0), .int x1, .int x2, .int x3, .ref (A 13)]) (n := 6) (Nat.le_of_ble_eq_true rfl)
  rw [lg_entry_eq]
  generalize (lg_sl ([.ref (ad 0 0), .int x1, .int x2, .int x3, .ref (A 13)]) ++ List.replicate (6 - (lg_sl ([.ref (ad 0 0), .int x1, .int x2, .int x3, .ref (A 13)])).length) Slot.unset).toArray = ls at hl ⊢
  have hl : lv_has ls 6 [(0, .ref (ad 0 0)), (1, .int x1), (2, .int x2), (3, .int x3), (4, .ref (A 13))] := hl
  rcases h with ⟨u9, h, rfl, rfl⟩ | ⟨u9, h, rfl, rfl⟩ | ⟨u9, h, rfl, rfl⟩
  · refine lv_aload hx hb dL_blow_0 (lv_at hl 4 rfl) ?_
    refine lv_iconst (v := 0) hx hb dL_blow_2 (by decide) ?_
    refine lv_aload_n hx hb dL_blow_3 rfl (lv_at hl 0 rfl) ?_
    refine lv_iload_n hx hb dL_blow_4 rfl (lv_at hl 1 rfl) ?_
    refine lv_iload_n hx hb dL_blow_5 rfl (lv_at hl 2 rfl) ?_
    refine lv_iload_n hx hb dL_blow_6 rfl (lv_at hl 3 rfl) ?_
    refine nx_ci (nx_runV (As := [.int x1, .int x2, .int x3]) (rest := [.int 0, .ref (A 13)]) (kd := 0) (k := 0) hx hb hml hown hSW hS hW (cx_X7_blow l z ad N0 X u00 x1 x2 x3 hfl h) mf_X7_blow (List.mem_of_getElem? (i := 681) (by decide +kernel)) (by rfl) rfl rfl ⟨rfl, rfl⟩ ⟨Nat.le_of_ble_eq_true rfl, Nat.le_of_ble_eq_true rfl⟩ hl.1 (Nat.le_of_ble_eq_true rfl) dL_blow_7 ⟨Nat.le_of_ble_eq_true rfl, Nat.le_of_ble_eq_true rfl⟩) hS (fun ce q9 H locs hce hcv hcl hW hS => ?_)
    refine vx_catch (E := "java/lang/IndexOutOfBoundsException") (name := "java/lang/IndexOutOfBoundsException") hown [] (⟨0, 12, 15, 13⟩ : ExceptionTableEntry) [(⟨0, 12, 19, 21⟩ : ExceptionTableEntry), (⟨0, 12, 23, 15⟩ : ExceptionTableEntry)] (htab.trans rfl) (fun zz hz => absurd hz List.not_mem_nil) (by decide) (by decide) (hT.use (List.mem_of_getElem? (i := 666) (by decide +kernel)) rfl) (hT.use (List.mem_of_getElem? (i := 477) (by decide +kernel)) rfl) hce hcv hcl ?_
    refine lv_astore (lv' := [(5, .ref q9), (0, .ref (ad 0 0)), (1, .int x1), (2, .int x2), (3, .int x3), (4, .ref (A 13))]) hx hb dL_blow_15 hl (by decide) rfl (fun ls hl => ?_)
    refine lv_iconst (v := 1) hx hb dL_blow_17 (by decide) ?_
    refine W.widen (k := 1) (n := 6) (Nat.le_of_ble_eq_true rfl) (Nat.le_of_ble_eq_true rfl) ?_
    exact nb_wret hA hx hb hr hlocks hW hF.gc hS dL_blow_18
  · refine lv_aload hx hb dL_blow_0 (lv_at hl 4 rfl) ?_
    refine lv_iconst (v := 0) hx hb dL_blow_2 (by decide) ?_
    refine lv_aload_n hx hb dL_blow_3 rfl (lv_at hl 0 rfl) ?_
    refine lv_iload_n hx hb dL_blow_4 rfl (lv_at hl 1 rfl) ?_
    refine lv_iload_n hx hb dL_blow_5 rfl (lv_at hl 2 rfl) ?_
    refine lv_iload_n hx hb dL_blow_6 rfl (lv_at hl 3 rfl) ?_
    refine nx_ci (nx_runV (As := [.int x1, .int x2, .int x3]) (rest := [.int 0, .ref (A 13)]) (kd := 0) (k := 0) hx hb hml hown hSW hS hW (cx_X7_blow l z ad N0 X u00 x1 x2 x3 hfl h) mf_X7_blow (List.mem_of_getElem? (i := 681) (by decide +kernel)) (by rfl) rfl rfl ⟨rfl, rfl⟩ ⟨Nat.le_of_ble_eq_true rfl, Nat.le_of_ble_eq_true rfl⟩ hl.1 (Nat.le_of_ble_eq_true rfl) dL_blow_7 ⟨Nat.le_of_ble_eq_true rfl, Nat.le_of_ble_eq_true rfl⟩) hS (fun ce q9 H locs hce hcv hcl hW hS => ?_)
    refine vx_catch (E := "java/lang/IllegalArgumentException") (name := "java/lang/IllegalArgumentException") hown [(⟨0, 12, 15, 13⟩ : ExceptionTableEntry)] (⟨0, 12, 19, 21⟩ : ExceptionTableEntry) [(⟨0, 12, 23, 15⟩ : ExceptionTableEntry)] (htab.trans rfl) (fun zz hz => by rw [List.mem_singleton.mp hz]; exact Or.inr ⟨by decide, "java/lang/IndexOutOfBoundsException", hT.use (List.mem_of_getElem? (i := 666) (by decide +kernel)) rfl, hSO.2.2.2.2.2.2.2.1⟩) (by decide) (by decide) (hT.use (List.mem_of_getElem? (i := 680) (by decide +kernel)) rfl) (hT.use (List.mem_of_getElem? (i := 394) (by decide +kernel)) rfl) hce hcv hcl ?_
    refine lv_astore (lv' := [(5, .ref q9), (0, .ref (ad 0 0)), (1, .int x1), (2, .int x2), (3, .int x3), (4, .ref (A 13))]) hx hb dL_blow_19 hl (by decide) rfl (fun ls hl => ?_)
    refine lv_iconst (v := 2) hx hb dL_blow_21 (by decide) ?_
    refine W.widen (k := 1) (n := 6) (Nat.le_of_ble_eq_true rfl) (Nat.le_of_ble_eq_true rfl) ?_
    exact nb_wret hA hx hb hr hlocks hW hF.gc hS dL_blow_22
  · refine lv_aload hx hb dL_blow_0 (lv_at hl 4 rfl) ?_
    refine lv_iconst (v := 0) hx hb dL_blow_2 (by decide) ?_
    refine lv_aload_n hx hb dL_blow_3 rfl (lv_at hl 0 rfl) ?_
    refine lv_iload_n hx hb dL_blow_4 rfl (lv_at hl 1 rfl) ?_
    refine lv_iload_n hx hb dL_blow_5 rfl (lv_at hl 2 rfl) ?_
    refine lv_iload_n hx hb dL_blow_6 rfl (lv_at hl 3 rfl) ?_
    refine nx_ci (nx_runV (As := [.int x1, .int x2, .int x3]) (rest := [.int 0, .ref (A 13)]) (kd := 0) (k := 0) hx hb hml hown hSW hS hW (cx_X7_blow l z ad N0 X u00 x1 x2 x3 hfl h) mf_X7_blow (List.mem_of_getElem? (i := 681) (by decide +kernel)) (by rfl) rfl rfl ⟨rfl, rfl⟩ ⟨Nat.le_of_ble_eq_true rfl, Nat.le_of_ble_eq_true rfl⟩ hl.1 (Nat.le_of_ble_eq_true rfl) dL_blow_7 ⟨Nat.le_of_ble_eq_true rfl, Nat.le_of_ble_eq_true rfl⟩) hS (fun ce q9 H locs hce hcv hcl hW hS => ?_)
    refine vx_catch (E := "java/lang/IllegalStateException") (name := "java/lang/IllegalStateException") hown [(⟨0, 12, 15, 13⟩ : ExceptionTableEntry), (⟨0, 12, 19, 21⟩ : ExceptionTableEntry)] (⟨0, 12, 23, 15⟩ : ExceptionTableEntry) [] (htab.trans rfl) (fun zz hz => by
      rcases List.mem_cons.mp hz with rfl | hz
      · exact Or.inr ⟨by decide, "java/lang/IndexOutOfBoundsException", hT.use (List.mem_of_getElem? (i := 666) (by decide +kernel)) rfl, hSO.2.2.2.2.2.2.1⟩
      · rw [List.mem_singleton.mp hz]; exact Or.inr ⟨by decide, "java/lang/IllegalArgumentException", hT.use (List.mem_of_getElem? (i := 680) (by decide +kernel)) rfl, hSO.2.2.2.2.2.2.2.2⟩) (by decide) (by decide) (hT.use (List.mem_of_getElem? (i := 667) (by decide +kernel)) rfl) (hT.use (List.mem_of_getElem? (i := 640) (by decide +kernel)) rfl) hce hcv hcl ?_
    refine lv_astore (lv' := [(5, .ref q9), (0, .ref (ad 0 0)), (1, .int x1), (2, .int x2), (3, .int x3), (4, .ref (A 13))]) hx hb dL_blow_23 hl (by decide) rfl (fun ls hl => ?_)
    refine lv_iconst (v := 3) hx hb dL_blow_25 (by decide) ?_
    refine W.widen (k := 1) (n := 6) (Nat.le_of_ble_eq_true rfl) (Nat.le_of_ble_eq_true rfl) ?_
    exact nb_wret hA hx hb hr hlocks hW hF.gc hS dL_blow_26
def R_burn (x1 k w9 w : Int32) : Prop := (∃ u9, f_X7_burn N0 u00 x1 = some (.error "java/lang/IndexOutOfBoundsException", u9) ∧ k = 1 ∧ w9 = w) ∨ (∃ u9, f_X7_burn N0 u00 x1 = some (.error "java/lang/IllegalStateException", u9) ∧ k = 2 ∧ w9 = w)
theorem mfw_burn : MFw yL_burn cL_burn 4 [(0, 9, 12, 13), (0, 9, 15, 15)] 3 := ⟨List.mem_of_getElem? (i := 693) (by decide +kernel), List.mem_of_getElem? (i := 60) (by decide +kernel), List.mem_of_getElem? (i := 694) (by decide +kernel), by decide +kernel, by decide +kernel, by decide +kernel⟩
set_option maxRecDepth 100000 in
set_option maxHeartbeats 4000000 in
theorem w_burn (l : Launch) (hfl : l.stackTraces = false) (z : Zt) (o : Ot) (ad : Ad) (X : Gt) (hA : Raw ad) (A : Nat → Nat) (w : Int32) (hF : FM z (GC z ad N0 X u00) A (mW w)) (x1 : Int32) {k w9 : Int32} (h : R_burn x1 k w9 w) : MW l z o yL_burn cL_burn 4 [(0, 9, 12, 13), (0, 9, 15, 15)] { frames := 8, cells := 1, slots := 6, locals := 124 } 1 6 [.ref (ad 0 0), .int x1, .ref (A 13)] ad (GC z ad N0 X u00) (MQw z A k w9) := by
  refine va_MetW (hh := [(0, 9, 12, 13), (0, 9, 15, 15)]) (cc := cL_burn) (maxL := 4) (ret := some .int) (by decide) rfl ?_
  intro p e s m args below meth c s₁ B hml hv
  obtain ⟨rfl, hSW, hSO, hW⟩ := hv
  have hx := B.exec; have hb := B.bytes; have hr := B.returns; have hlocks := B.notSynchronized
  have hown : s.vm.findClass RL = some m.cls := findClass_of_methodNamed B.named
  have htab : c.exceptionTable.toList = tableOf [(0, 9, 12, 13), (0, 9, 15, 15)] := vx_table (x := yL_burn) B (atoms_spec (ws := [Cond.codeWith yL_burn cL_burn 4 (some .int) [(0, 9, 12, 13), (0, 9, 15, 15)]]) B.pre _ List.mem_cons_self)
  obtain ⟨hT, hK, hST, hB0⟩ := id hSW
  have hS : va_S (zA z) s.heap s.heap [] := va_S.rf
  have hl := lv_entry ([.ref (ad 0 0), .int x1, .ref (A 13)]) (n := 4) (Nat.le_of_ble_eq_true rfl)
  rw [lg_entry_eq]
  generalize (lg_sl ([.ref (ad 0 0), .int x1, .ref (A 13)]) ++ List.replicate (4 - (lg_sl ([.ref (ad 0 0), .int x1, .ref (A 13)])).length) Slot.unset).toArray = ls at hl ⊢
  have hl : lv_has ls 4 [(0, .ref (ad 0 0)), (1, .int x1), (2, .ref (A 13))] := hl
  rcases h with ⟨u9, h, rfl, rfl⟩ | ⟨u9, h, rfl, rfl⟩
  · refine lv_aload_n hx hb dL_burn_0 rfl (lv_at hl 2 rfl) ?_
    refine lv_iconst (v := 0) hx hb dL_burn_1 (by decide) ?_
    refine lv_aload_n hx hb dL_burn_2 rfl (lv_at hl 0 rfl) ?_
    refine lv_iload_n hx hb dL_burn_3 rfl (lv_at hl 1 rfl) ?_
    refine nx_ci (nx_runV (As := [.int x1]) (rest := [.int 0, .ref (A 13)]) (kd := 0) (k := 0) hx hb hml hown hSW hS hW (cx_X7_burn l z ad N0 X u00 x1 hfl h) mf_X7_burn (List.mem_of_getElem? (i := 695) (by decide +kernel)) (by rfl) rfl rfl ⟨rfl, rfl⟩ ⟨Nat.le_of_ble_eq_true rfl, Nat.le_of_ble_eq_true rfl⟩ hl.1 (Nat.le_of_ble_eq_true rfl) dL_burn_4 ⟨Nat.le_of_ble_eq_true rfl, Nat.le_of_ble_eq_true rfl⟩) hS (fun ce q9 H locs hce hcv hcl hW hS => ?_)
    refine vx_catch (E := "java/lang/IndexOutOfBoundsException") (name := "java/lang/IndexOutOfBoundsException") hown [] (⟨0, 9, 12, 13⟩ : ExceptionTableEntry) [(⟨0, 9, 15, 15⟩ : ExceptionTableEntry)] (htab.trans rfl) (fun zz hz => absurd hz List.not_mem_nil) (by decide) (by decide) (hT.use (List.mem_of_getElem? (i := 666) (by decide +kernel)) rfl) (hT.use (List.mem_of_getElem? (i := 477) (by decide +kernel)) rfl) hce hcv hcl ?_
    refine lv_astore_n (lv' := [(3, .ref q9), (0, .ref (ad 0 0)), (1, .int x1), (2, .ref (A 13))]) hx hb dL_burn_12 rfl hl (by decide) rfl (fun ls hl => ?_)
    refine lv_iconst (v := 1) hx hb dL_burn_13 (by decide) ?_
    refine W.widen (k := 1) (n := 6) (Nat.le_of_ble_eq_true rfl) (Nat.le_of_ble_eq_true rfl) ?_
    exact nb_wret hA hx hb hr hlocks hW hF.gc hS dL_burn_14
  · refine lv_aload_n hx hb dL_burn_0 rfl (lv_at hl 2 rfl) ?_
    refine lv_iconst (v := 0) hx hb dL_burn_1 (by decide) ?_
    refine lv_aload_n hx hb dL_burn_2 rfl (lv_at hl 0 rfl) ?_
    refine lv_iload_n hx hb dL_burn_3 rfl (lv_at hl 1 rfl) ?_
    refine nx_ci (nx_runV (As := [.int x1]) (rest := [.int 0, .ref (A 13)]) (kd := 0) (k := 0) hx hb hml hown hSW hS hW (cx_X7_burn l z ad N0 X u00 x1 hfl h) mf_X7_burn (List.mem_of_getElem? (i := 695) (by decide +kernel)) (by rfl) rfl rfl ⟨rfl, rfl⟩ ⟨Nat.le_of_ble_eq_true rfl, Nat.le_of_ble_eq_true rfl⟩ hl.1 (Nat.le_of_ble_eq_true rfl) dL_burn_4 ⟨Nat.le_of_ble_eq_true rfl, Nat.le_of_ble_eq_true rfl⟩) hS (fun ce q9 H locs hce hcv hcl hW hS => ?_)
    refine vx_catch (E := "java/lang/IllegalStateException") (name := "java/lang/IllegalStateException") hown [(⟨0, 9, 12, 13⟩ : ExceptionTableEntry)] (⟨0, 9, 15, 15⟩ : ExceptionTableEntry) [] (htab.trans rfl) (fun zz hz => by rw [List.mem_singleton.mp hz]; exact Or.inr ⟨by decide, "java/lang/IndexOutOfBoundsException", hT.use (List.mem_of_getElem? (i := 666) (by decide +kernel)) rfl, hSO.2.2.2.2.2.2.1⟩) (by decide) (by decide) (hT.use (List.mem_of_getElem? (i := 667) (by decide +kernel)) rfl) (hT.use (List.mem_of_getElem? (i := 640) (by decide +kernel)) rfl) hce hcv hcl ?_
    refine lv_astore_n (lv' := [(3, .ref q9), (0, .ref (ad 0 0)), (1, .int x1), (2, .ref (A 13))]) hx hb dL_burn_15 rfl hl (by decide) rfl (fun ls hl => ?_)
    refine lv_iconst (v := 2) hx hb dL_burn_16 (by decide) ?_
    refine W.widen (k := 1) (n := 6) (Nat.le_of_ble_eq_true rfl) (Nat.le_of_ble_eq_true rfl) ?_
    exact nb_wret hA hx hb hr hlocks hW hF.gc hS dL_burn_17
def R_tuner (x1 x2 k w9 w : Int32) : Prop := (∃ u9, f_X7_tuner N0 u00 x1 x2 = some (.error "java/lang/IndexOutOfBoundsException", u9) ∧ k = 1 ∧ w9 = w) ∨ (∃ u9, f_X7_tuner N0 u00 x1 x2 = some (.error "java/lang/IllegalArgumentException", u9) ∧ k = 2 ∧ w9 = w) ∨ (∃ u9, f_X7_tuner N0 u00 x1 x2 = some (.error "java/lang/IllegalStateException", u9) ∧ k = 3 ∧ w9 = w)
theorem mfw_tuner : MFw yL_tuner cL_tuner 5 [(0, 10, 13, 13), (0, 10, 17, 21), (0, 10, 21, 15)] 4 := ⟨List.mem_of_getElem? (i := 704) (by decide +kernel), List.mem_of_getElem? (i := 60) (by decide +kernel), List.mem_of_getElem? (i := 705) (by decide +kernel), by decide +kernel, by decide +kernel, by decide +kernel⟩
set_option maxRecDepth 100000 in
set_option maxHeartbeats 4000000 in
theorem w_tuner (l : Launch) (hfl : l.stackTraces = false) (z : Zt) (o : Ot) (ad : Ad) (X : Gt) (hA : Raw ad) (A : Nat → Nat) (w : Int32) (hF : FM z (GC z ad N0 X u00) A (mW w)) (x1 : Int32) (x2 : Int32) {k w9 : Int32} (h : R_tuner x1 x2 k w9 w) : MW l z o yL_tuner cL_tuner 5 [(0, 10, 13, 13), (0, 10, 17, 21), (0, 10, 21, 15)] { frames := 8, cells := 1, slots := 6, locals := 133 } 1 6 [.ref (ad 0 0), .int x1, .int x2, .ref (A 13)] ad (GC z ad N0 X u00) (MQw z A k w9) := by
  refine va_MetW (hh := [(0, 10, 13, 13), (0, 10, 17, 21), (0, 10, 21, 15)]) (cc := cL_tuner) (maxL := 5) (ret := some .int) (by decide) rfl ?_
  intro p e s m args below meth c s₁ B hml hv
  obtain ⟨rfl, hSW, hSO, hW⟩ := hv
  have hx := B.exec; have hb := B.bytes; have hr := B.returns; have hlocks := B.notSynchronized
  have hown : s.vm.findClass RL = some m.cls := findClass_of_methodNamed B.named
  have htab : c.exceptionTable.toList = tableOf [(0, 10, 13, 13), (0, 10, 17, 21), (0, 10, 21, 15)] := vx_table (x := yL_tuner) B (atoms_spec (ws := [Cond.codeWith yL_tuner cL_tuner 5 (some .int) [(0, 10, 13, 13), (0, 10, 17, 21), (0, 10, 21, 15)]]) B.pre _ List.mem_cons_self)
  obtain ⟨hT, hK, hST, hB0⟩ := id hSW
  have hS : va_S (zA z) s.heap s.heap [] := va_S.rf
  have hl := lv_entry ([.ref (ad 0 0), .int x1, .int x2, .ref (A 13)]) (n := 5) (Nat.le_of_ble_eq_true rfl)
  rw [lg_entry_eq]
  generalize (lg_sl ([.ref (ad 0 0), .int x1, .int x2, .ref (A 13)]) ++ List.replicate (5 - (lg_sl ([.ref (ad 0 0), .int x1, .int x2, .ref (A 13)])).length) Slot.unset).toArray = ls at hl ⊢
  have hl : lv_has ls 5 [(0, .ref (ad 0 0)), (1, .int x1), (2, .int x2), (3, .ref (A 13))] := hl
  rcases h with ⟨u9, h, rfl, rfl⟩ | ⟨u9, h, rfl, rfl⟩ | ⟨u9, h, rfl, rfl⟩
  · refine lv_aload_n hx hb dL_tuner_0 rfl (lv_at hl 3 rfl) ?_
    refine lv_iconst (v := 0) hx hb dL_tuner_1 (by decide) ?_
    refine lv_aload_n hx hb dL_tuner_2 rfl (lv_at hl 0 rfl) ?_
    refine lv_iload_n hx hb dL_tuner_3 rfl (lv_at hl 1 rfl) ?_
    refine lv_iload_n hx hb dL_tuner_4 rfl (lv_at hl 2 rfl) ?_
    refine nx_ci (nx_runV (As := [.int x1, .int x2]) (rest := [.int 0, .ref (A 13)]) (kd := 0) (k := 0) hx hb hml hown hSW hS hW (cx_X7_tuner l z ad N0 X u00 x1 x2 hfl h) mf_X7_tuner (List.mem_of_getElem? (i := 706) (by decide +kernel)) (by rfl) rfl rfl ⟨rfl, rfl⟩ ⟨Nat.le_of_ble_eq_true rfl, Nat.le_of_ble_eq_true rfl⟩ hl.1 (Nat.le_of_ble_eq_true rfl) dL_tuner_5 ⟨Nat.le_of_ble_eq_true rfl, Nat.le_of_ble_eq_true rfl⟩) hS (fun ce q9 H locs hce hcv hcl hW hS => ?_)
    refine vx_catch (E := "java/lang/IndexOutOfBoundsException") (name := "java/lang/IndexOutOfBoundsException") hown [] (⟨0, 10, 13, 13⟩ : ExceptionTableEntry) [(⟨0, 10, 17, 21⟩ : ExceptionTableEntry), (⟨0, 10, 21, 15⟩ : ExceptionTableEntry)] (htab.trans rfl) (fun zz hz => absurd hz List.not_mem_nil) (by decide) (by decide) (hT.use (List.mem_of_getElem? (i := 666) (by decide +kernel)) rfl) (hT.use (List.mem_of_getElem? (i := 477) (by decide +kernel)) rfl) hce hcv hcl ?_
    refine lv_astore (lv' := [(4, .ref q9), (0, .ref (ad 0 0)), (1, .int x1), (2, .int x2), (3, .ref (A 13))]) hx hb dL_tuner_13 hl (by decide) rfl (fun ls hl => ?_)
    refine lv_iconst (v := 1) hx hb dL_tuner_15 (by decide) ?_
    refine W.widen (k := 1) (n := 6) (Nat.le_of_ble_eq_true rfl) (Nat.le_of_ble_eq_true rfl) ?_
    exact nb_wret hA hx hb hr hlocks hW hF.gc hS dL_tuner_16
  · refine lv_aload_n hx hb dL_tuner_0 rfl (lv_at hl 3 rfl) ?_
    refine lv_iconst (v := 0) hx hb dL_tuner_1 (by decide) ?_
    refine lv_aload_n hx hb dL_tuner_2 rfl (lv_at hl 0 rfl) ?_
    refine lv_iload_n hx hb dL_tuner_3 rfl (lv_at hl 1 rfl) ?_
    refine lv_iload_n hx hb dL_tuner_4 rfl (lv_at hl 2 rfl) ?_
    refine nx_ci (nx_runV (As := [.int x1, .int x2]) (rest := [.int 0, .ref (A 13)]) (kd := 0) (k := 0) hx hb hml hown hSW hS hW (cx_X7_tuner l z ad N0 X u00 x1 x2 hfl h) mf_X7_tuner (List.mem_of_getElem? (i := 706) (by decide +kernel)) (by rfl) rfl rfl ⟨rfl, rfl⟩ ⟨Nat.le_of_ble_eq_true rfl, Nat.le_of_ble_eq_true rfl⟩ hl.1 (Nat.le_of_ble_eq_true rfl) dL_tuner_5 ⟨Nat.le_of_ble_eq_true rfl, Nat.le_of_ble_eq_true rfl⟩) hS (fun ce q9 H locs hce hcv hcl hW hS => ?_)
    refine vx_catch (E := "java/lang/IllegalArgumentException") (name := "java/lang/IllegalArgumentException") hown [(⟨0, 10, 13, 13⟩ : ExceptionTableEntry)] (⟨0, 10, 17, 21⟩ : ExceptionTableEntry) [(⟨0, 10, 21, 15⟩ : ExceptionTableEntry)] (htab.trans rfl) (fun zz hz => by rw [List.mem_singleton.mp hz]; exact Or.inr ⟨by decide, "java/lang/IndexOutOfBoundsException", hT.use (List.mem_of_getElem? (i := 666) (by decide +kernel)) rfl, hSO.2.2.2.2.2.2.2.1⟩) (by decide) (by decide) (hT.use (List.mem_of_getElem? (i := 680) (by decide +kernel)) rfl) (hT.use (List.mem_of_getElem? (i := 394) (by decide +kernel)) rfl) hce hcv hcl ?_
    refine lv_astore (lv' := [(4, .ref q9), (0, .ref (ad 0 0)), (1, .int x1), (2, .int x2), (3, .ref (A 13))]) hx hb dL_tuner_17 hl (by decide) rfl (fun ls hl => ?_)
    refine lv_iconst (v := 2) hx hb dL_tuner_19 (by decide) ?_
    refine W.widen (k := 1) (n := 6) (Nat.le_of_ble_eq_true rfl) (Nat.le_of_ble_eq_true rfl) ?_
    exact nb_wret hA hx hb hr hlocks hW hF.gc hS dL_tuner_20
  · refine lv_aload_n hx hb dL_tuner_0 rfl (lv_at hl 3 rfl) ?_
    refine lv_iconst (v := 0) hx hb dL_tuner_1 (by decide) ?_
    refine lv_aload_n hx hb dL_tuner_2 rfl (lv_at hl 0 rfl) ?_
    refine lv_iload_n hx hb dL_tuner_3 rfl (lv_at hl 1 rfl) ?_
    refine lv_iload_n hx hb dL_tuner_4 rfl (lv_at hl 2 rfl) ?_
    refine nx_ci (nx_runV (As := [.int x1, .int x2]) (rest := [.int 0, .ref (A 13)]) (kd := 0) (k := 0) hx hb hml hown hSW hS hW (cx_X7_tuner l z ad N0 X u00 x1 x2 hfl h) mf_X7_tuner (List.mem_of_getElem? (i := 706) (by decide +kernel)) (by rfl) rfl rfl ⟨rfl, rfl⟩ ⟨Nat.le_of_ble_eq_true rfl, Nat.le_of_ble_eq_true rfl⟩ hl.1 (Nat.le_of_ble_eq_true rfl) dL_tuner_5 ⟨Nat.le_of_ble_eq_true rfl, Nat.le_of_ble_eq_true rfl⟩) hS (fun ce q9 H locs hce hcv hcl hW hS => ?_)
    refine vx_catch (E := "java/lang/IllegalStateException") (name := "java/lang/IllegalStateException") hown [(⟨0, 10, 13, 13⟩ : ExceptionTableEntry), (⟨0, 10, 17, 21⟩ : ExceptionTableEntry)] (⟨0, 10, 21, 15⟩ : ExceptionTableEntry) [] (htab.trans rfl) (fun zz hz => by
      rcases List.mem_cons.mp hz with rfl | hz
      · exact Or.inr ⟨by decide, "java/lang/IndexOutOfBoundsException", hT.use (List.mem_of_getElem? (i := 666) (by decide +kernel)) rfl, hSO.2.2.2.2.2.2.1⟩
      · rw [List.mem_singleton.mp hz]; exact Or.inr ⟨by decide, "java/lang/IllegalArgumentException", hT.use (List.mem_of_getElem? (i := 680) (by decide +kernel)) rfl, hSO.2.2.2.2.2.2.2.2⟩) (by decide) (by decide) (hT.use (List.mem_of_getElem? (i := 667) (by decide +kernel)) rfl) (hT.use (List.mem_of_getElem? (i := 640) (by decide +kernel)) rfl) hce hcv hcl ?_
    refine lv_astore (lv' := [(4, .ref q9), (0, .ref (ad 0 0)), (1, .int x1), (2, .int x2), (3, .ref (A 13))]) hx hb dL_tuner_21 hl (by decide) rfl (fun ls hl => ?_)
    refine lv_iconst (v := 3) hx hb dL_tuner_23 (by decide) ?_
    refine W.widen (k := 1) (n := 6) (Nat.le_of_ble_eq_true rfl) (Nat.le_of_ble_eq_true rfl) ?_
    exact nb_wret hA hx hb hr hlocks hW hF.gc hS dL_tuner_24
def R_phrase (x1 x2 x3 k w9 w : Int32) : Prop := (∃ u9, f_X7_phrase N0 u00 x1 x2 x3 = some (.ok w9, u9) ∧ k = 0) ∨ (∃ u9, f_X7_phrase N0 u00 x1 x2 x3 = some (.error "java/lang/IndexOutOfBoundsException", u9) ∧ k = 1 ∧ w9 = w) ∨ (∃ u9, f_X7_phrase N0 u00 x1 x2 x3 = some (.error "java/lang/IllegalArgumentException", u9) ∧ k = 2 ∧ w9 = w) ∨ (∃ u9, f_X7_phrase N0 u00 x1 x2 x3 = some (.error "java/lang/IllegalStateException", u9) ∧ k = 3 ∧ w9 = w)
theorem mfw_phrase : MFw yL_phrase cL_phrase 6 [(0, 12, 15, 13), (0, 12, 19, 21), (0, 12, 23, 15)] 5 := ⟨List.mem_of_getElem? (i := 712) (by decide +kernel), List.mem_of_getElem? (i := 60) (by decide +kernel), List.mem_of_getElem? (i := 713) (by decide +kernel), by decide +kernel, by decide +kernel, by decide +kernel⟩
set_option maxRecDepth 100000 in
set_option maxHeartbeats 4000000 in
theorem w_phrase (l : Launch) (hfl : l.stackTraces = false) (z : Zt) (o : Ot) (ad : Ad) (X : Gt) (hA : Raw ad) (A : Nat → Nat) (w : Int32) (hF : FM z (GC z ad N0 X u00) A (mW w)) (x1 : Int32) (x2 : Int32) (x3 : Int32) {k w9 : Int32} (h : R_phrase x1 x2 x3 k w9 w) : MW l z o yL_phrase cL_phrase 6 [(0, 12, 15, 13), (0, 12, 19, 21), (0, 12, 23, 15)] { frames := 8, cells := 1, slots := 6, locals := 127 } 1 6 [.ref (ad 0 0), .int x1, .int x2, .int x3, .ref (A 13)] ad (GC z ad N0 X u00) (MQw z A k w9) := by
  refine va_MetW (hh := [(0, 12, 15, 13), (0, 12, 19, 21), (0, 12, 23, 15)]) (cc := cL_phrase) (maxL := 6) (ret := some .int) (by decide) rfl ?_
  intro p e s m args below meth c s₁ B hml hv
  obtain ⟨rfl, hSW, hSO, hW⟩ := hv
  have hx := B.exec; have hb := B.bytes; have hr := B.returns; have hlocks := B.notSynchronized
  have hown : s.vm.findClass RL = some m.cls := findClass_of_methodNamed B.named
  have htab : c.exceptionTable.toList = tableOf [(0, 12, 15, 13), (0, 12, 19, 21), (0, 12, 23, 15)] := vx_table (x := yL_phrase) B (atoms_spec (ws := [Cond.codeWith yL_phrase cL_phrase 6 (some .int) [(0, 12, 15, 13), (0, 12, 19, 21), (0, 12, 23, 15)]]) B.pre _ List.mem_cons_self)
  obtain ⟨hT, hK, hST, hB0⟩ := id hSW
  have hS : va_S (zA z) s.heap s.heap [] := va_S.rf
  have hl := lv_entry ([.ref (ad 0 0), .int x1, .int x2, .int x3, .ref (A 13)]) (n := 6) (Nat.le_of_ble_eq_true rfl)
  rw [lg_entry_eq]
  generalize (lg_sl ([.ref (ad 0 0), .int x1, .int x2, .int x3, .ref (A 13)]) ++ List.replicate (6 - (lg_sl ([.ref (ad 0 0), .int x1, .int x2, .int x3, .ref (A 13)])).length) Slot.unset).toArray = ls at hl ⊢
  have hl : lv_has ls 6 [(0, .ref (ad 0 0)), (1, .int x1), (2, .int x2), (3, .int x3), (4, .ref (A 13))] := hl
  rcases h with ⟨u9, h, rfl⟩ | ⟨u9, h, rfl, rfl⟩ | ⟨u9, h, rfl, rfl⟩ | ⟨u9, h, rfl, rfl⟩
  · refine lv_aload hx hb dL_phrase_0 (lv_at hl 4 rfl) ?_
    refine lv_iconst (v := 0) hx hb dL_phrase_2 (by decide) ?_
    refine lv_aload_n hx hb dL_phrase_3 rfl (lv_at hl 0 rfl) ?_
    refine lv_iload_n hx hb dL_phrase_4 rfl (lv_at hl 1 rfl) ?_
    refine lv_iload_n hx hb dL_phrase_5 rfl (lv_at hl 2 rfl) ?_
    refine lv_iload_n hx hb dL_phrase_6 rfl (lv_at hl 3 rfl) ?_
    refine va_calli (nb_runV (As := [.int x1, .int x2, .int x3]) (rest := [.int 0, .ref (A 13)]) (kd := 0) (k := 0) hx hb hml hown hSW hS hW (c_X7_phrase l z ad N0 X u00 x1 x2 x3 hA h) mf_X7_phrase (Or.inl (List.mem_of_getElem? (i := 714) (by decide +kernel))) (by rfl) rfl rfl ⟨rfl, rfl⟩ ⟨Nat.le_of_ble_eq_true rfl, Nat.le_of_ble_eq_true rfl⟩ hl.1 (Nat.le_of_ble_eq_true rfl) dL_phrase_7 ⟨Nat.le_of_ble_eq_true rfl, Nat.le_of_ble_eq_true rfl⟩) hS (fun _ _ h => h) (fun _ h => h) (fun r8 ad2 t H locs ht _ hp hW1 _ _ hS => ?_)
    obtain ⟨rfl, hP⟩ := hp
    subst ht
    have hA2 : Raw ad2 := fun b => (hP 99 b (fun q => by omega)).trans (hA b)
    replace hW := hW1
    refine lv_i2l hx hb dL_phrase_10 rfl ?_
    refine nb_out hA2 hx hb hK hW hS (hF.gc) rfl dL_phrase_11 (fun H locs G9 hF9 hW hS => ?_)
    refine lv_goto (tgt := 27) hx hb dL_phrase_12 (by decide) ?_
    refine lv_iconst (v := 0) hx hb dL_phrase_27 (by decide) ?_
    refine W.widen (k := 1) (n := 6) (Nat.le_of_ble_eq_true rfl) (Nat.le_of_ble_eq_true rfl) ?_
    exact nb_wret hA2 hx hb hr hlocks hW hF9 hS dL_phrase_28
  · refine lv_aload hx hb dL_phrase_0 (lv_at hl 4 rfl) ?_
    refine lv_iconst (v := 0) hx hb dL_phrase_2 (by decide) ?_
    refine lv_aload_n hx hb dL_phrase_3 rfl (lv_at hl 0 rfl) ?_
    refine lv_iload_n hx hb dL_phrase_4 rfl (lv_at hl 1 rfl) ?_
    refine lv_iload_n hx hb dL_phrase_5 rfl (lv_at hl 2 rfl) ?_
    refine lv_iload_n hx hb dL_phrase_6 rfl (lv_at hl 3 rfl) ?_
    refine nx_ci (nx_runV (As := [.int x1, .int x2, .int x3]) (rest := [.int 0, .ref (A 13)]) (kd := 0) (k := 0) hx hb hml hown hSW hS hW (cx_X7_phrase l z ad N0 X u00 x1 x2 x3 hfl h) mf_X7_phrase (List.mem_of_getElem? (i := 714) (by decide +kernel)) (by rfl) rfl rfl ⟨rfl, rfl⟩ ⟨Nat.le_of_ble_eq_true rfl, Nat.le_of_ble_eq_true rfl⟩ hl.1 (Nat.le_of_ble_eq_true rfl) dL_phrase_7 ⟨Nat.le_of_ble_eq_true rfl, Nat.le_of_ble_eq_true rfl⟩) hS (fun ce q9 H locs hce hcv hcl hW hS => ?_)
    refine vx_catch (E := "java/lang/IndexOutOfBoundsException") (name := "java/lang/IndexOutOfBoundsException") hown [] (⟨0, 12, 15, 13⟩ : ExceptionTableEntry) [(⟨0, 12, 19, 21⟩ : ExceptionTableEntry), (⟨0, 12, 23, 15⟩ : ExceptionTableEntry)] (htab.trans rfl) (fun zz hz => absurd hz List.not_mem_nil) (by decide) (by decide) (hT.use (List.mem_of_getElem? (i := 666) (by decide +kernel)) rfl) (hT.use (List.mem_of_getElem? (i := 477) (by decide +kernel)) rfl) hce hcv hcl ?_
    refine lv_astore (lv' := [(5, .ref q9), (0, .ref (ad 0 0)), (1, .int x1), (2, .int x2), (3, .int x3), (4, .ref (A 13))]) hx hb dL_phrase_15 hl (by decide) rfl (fun ls hl => ?_)
    refine lv_iconst (v := 1) hx hb dL_phrase_17 (by decide) ?_
    refine W.widen (k := 1) (n := 6) (Nat.le_of_ble_eq_true rfl) (Nat.le_of_ble_eq_true rfl) ?_
    exact nb_wret hA hx hb hr hlocks hW hF.gc hS dL_phrase_18
  · refine lv_aload hx hb dL_phrase_0 (lv_at hl 4 rfl) ?_
    refine lv_iconst (v := 0) hx hb dL_phrase_2 (by decide) ?_
    refine lv_aload_n hx hb dL_phrase_3 rfl (lv_at hl 0 rfl) ?_
    refine lv_iload_n hx hb dL_phrase_4 rfl (lv_at hl 1 rfl) ?_
    refine lv_iload_n hx hb dL_phrase_5 rfl (lv_at hl 2 rfl) ?_
    refine lv_iload_n hx hb dL_phrase_6 rfl (lv_at hl 3 rfl) ?_
    refine nx_ci (nx_runV (As := [.int x1, .int x2, .int x3]) (rest := [.int 0, .ref (A 13)]) (kd := 0) (k := 0) hx hb hml hown hSW hS hW (cx_X7_phrase l z ad N0 X u00 x1 x2 x3 hfl h) mf_X7_phrase (List.mem_of_getElem? (i := 714) (by decide +kernel)) (by rfl) rfl rfl ⟨rfl, rfl⟩ ⟨Nat.le_of_ble_eq_true rfl, Nat.le_of_ble_eq_true rfl⟩ hl.1 (Nat.le_of_ble_eq_true rfl) dL_phrase_7 ⟨Nat.le_of_ble_eq_true rfl, Nat.le_of_ble_eq_true rfl⟩) hS (fun ce q9 H locs hce hcv hcl hW hS => ?_)
    refine vx_catch (E := "java/lang/IllegalArgumentException") (name := "java/lang/IllegalArgumentException") hown [(⟨0, 12, 15, 13⟩ : ExceptionTableEntry)] (⟨0, 12, 19, 21⟩ : ExceptionTableEntry) [(⟨0, 12, 23, 15⟩ : ExceptionTableEntry)] (htab.trans rfl) (fun zz hz => by rw [List.mem_singleton.mp hz]; exact Or.inr ⟨by decide, "java/lang/IndexOutOfBoundsException", hT.use (List.mem_of_getElem? (i := 666) (by decide +kernel)) rfl, hSO.2.2.2.2.2.2.2.1⟩) (by decide) (by decide) (hT.use (List.mem_of_getElem? (i := 680) (by decide +kernel)) rfl) (hT.use (List.mem_of_getElem? (i := 394) (by decide +kernel)) rfl) hce hcv hcl ?_
    refine lv_astore (lv' := [(5, .ref q9), (0, .ref (ad 0 0)), (1, .int x1), (2, .int x2), (3, .int x3), (4, .ref (A 13))]) hx hb dL_phrase_19 hl (by decide) rfl (fun ls hl => ?_)
    refine lv_iconst (v := 2) hx hb dL_phrase_21 (by decide) ?_
    refine W.widen (k := 1) (n := 6) (Nat.le_of_ble_eq_true rfl) (Nat.le_of_ble_eq_true rfl) ?_
    exact nb_wret hA hx hb hr hlocks hW hF.gc hS dL_phrase_22
  · refine lv_aload hx hb dL_phrase_0 (lv_at hl 4 rfl) ?_
    refine lv_iconst (v := 0) hx hb dL_phrase_2 (by decide) ?_
    refine lv_aload_n hx hb dL_phrase_3 rfl (lv_at hl 0 rfl) ?_
    refine lv_iload_n hx hb dL_phrase_4 rfl (lv_at hl 1 rfl) ?_
    refine lv_iload_n hx hb dL_phrase_5 rfl (lv_at hl 2 rfl) ?_
    refine lv_iload_n hx hb dL_phrase_6 rfl (lv_at hl 3 rfl) ?_
    refine nx_ci (nx_runV (As := [.int x1, .int x2, .int x3]) (rest := [.int 0, .ref (A 13)]) (kd := 0) (k := 0) hx hb hml hown hSW hS hW (cx_X7_phrase l z ad N0 X u00 x1 x2 x3 hfl h) mf_X7_phrase (List.mem_of_getElem? (i := 714) (by decide +kernel)) (by rfl) rfl rfl ⟨rfl, rfl⟩ ⟨Nat.le_of_ble_eq_true rfl, Nat.le_of_ble_eq_true rfl⟩ hl.1 (Nat.le_of_ble_eq_true rfl) dL_phrase_7 ⟨Nat.le_of_ble_eq_true rfl, Nat.le_of_ble_eq_true rfl⟩) hS (fun ce q9 H locs hce hcv hcl hW hS => ?_)
    refine vx_catch (E := "java/lang/IllegalStateException") (name := "java/lang/IllegalStateException") hown [(⟨0, 12, 15, 13⟩ : ExceptionTableEntry), (⟨0, 12, 19, 21⟩ : ExceptionTableEntry)] (⟨0, 12, 23, 15⟩ : ExceptionTableEntry) [] (htab.trans rfl) (fun zz hz => by
      rcases List.mem_cons.mp hz with rfl | hz
      · exact Or.inr ⟨by decide, "java/lang/IndexOutOfBoundsException", hT.use (List.mem_of_getElem? (i := 666) (by decide +kernel)) rfl, hSO.2.2.2.2.2.2.1⟩
      · rw [List.mem_singleton.mp hz]; exact Or.inr ⟨by decide, "java/lang/IllegalArgumentException", hT.use (List.mem_of_getElem? (i := 680) (by decide +kernel)) rfl, hSO.2.2.2.2.2.2.2.2⟩) (by decide) (by decide) (hT.use (List.mem_of_getElem? (i := 667) (by decide +kernel)) rfl) (hT.use (List.mem_of_getElem? (i := 640) (by decide +kernel)) rfl) hce hcv hcl ?_
    refine lv_astore (lv' := [(5, .ref q9), (0, .ref (ad 0 0)), (1, .int x1), (2, .int x2), (3, .int x3), (4, .ref (A 13))]) hx hb dL_phrase_23 hl (by decide) rfl (fun ls hl => ?_)
    refine lv_iconst (v := 3) hx hb dL_phrase_25 (by decide) ?_
    refine W.widen (k := 1) (n := 6) (Nat.le_of_ble_eq_true rfl) (Nat.le_of_ble_eq_true rfl) ?_
    exact nb_wret hA hx hb hr hlocks hW hF.gc hS dL_phrase_26
def R_change (x1 x2 x3 k w9 w : Int32) : Prop := (∃ u9, f_X7_change N0 u00 x1 x2 x3 = some (.error "java/lang/IndexOutOfBoundsException", u9) ∧ k = 1 ∧ w9 = w) ∨ (∃ u9, f_X7_change N0 u00 x1 x2 x3 = some (.error "java/lang/IllegalArgumentException", u9) ∧ k = 2 ∧ w9 = w)
theorem mfw_change : MFw yL_change cL_change 6 [(0, 12, 15, 13), (0, 12, 19, 21)] 5 := ⟨List.mem_of_getElem? (i := 748) (by decide +kernel), List.mem_of_getElem? (i := 60) (by decide +kernel), List.mem_of_getElem? (i := 749) (by decide +kernel), by decide +kernel, by decide +kernel, by decide +kernel⟩
set_option maxRecDepth 100000 in
set_option maxHeartbeats 4000000 in
theorem w_change (l : Launch) (hfl : l.stackTraces = false) (z : Zt) (o : Ot) (ad : Ad) (X : Gt) (hA : Raw ad) (A : Nat → Nat) (w : Int32) (hF : FM z (GC z ad N0 X u00) A (mW w)) (x1 : Int32) (x2 : Int32) (x3 : Int32) {k w9 : Int32} (h : R_change x1 x2 x3 k w9 w) : MW l z o yL_change cL_change 6 [(0, 12, 15, 13), (0, 12, 19, 21)] { frames := 8, cells := 1, slots := 6, locals := 128 } 1 6 [.ref (ad 0 0), .int x1, .int x2, .int x3, .ref (A 13)] ad (GC z ad N0 X u00) (MQw z A k w9) := by
  refine va_MetW (hh := [(0, 12, 15, 13), (0, 12, 19, 21)]) (cc := cL_change) (maxL := 6) (ret := some .int) (by decide) rfl ?_
  intro p e s m args below meth c s₁ B hml hv
  obtain ⟨rfl, hSW, hSO, hW⟩ := hv
  have hx := B.exec; have hb := B.bytes; have hr := B.returns; have hlocks := B.notSynchronized
  have hown : s.vm.findClass RL = some m.cls := findClass_of_methodNamed B.named
  have htab : c.exceptionTable.toList = tableOf [(0, 12, 15, 13), (0, 12, 19, 21)] := vx_table (x := yL_change) B (atoms_spec (ws := [Cond.codeWith yL_change cL_change 6 (some .int) [(0, 12, 15, 13), (0, 12, 19, 21)]]) B.pre _ List.mem_cons_self)
  obtain ⟨hT, hK, hST, hB0⟩ := id hSW
  have hS : va_S (zA z) s.heap s.heap [] := va_S.rf
  have hl := lv_entry ([.ref (ad 0 0), .int x1, .int x2, .int x3, .ref (A 13)]) (n := 6) (Nat.le_of_ble_eq_true rfl)
  rw [lg_entry_eq]
  generalize (lg_sl ([.ref (ad 0 0), .int x1, .int x2, .int x3, .ref (A 13)]) ++ List.replicate (6 - (lg_sl ([.ref (ad 0 0), .int x1, .int x2, .int x3, .ref (A 13)])).length) Slot.unset).toArray = ls at hl ⊢
  have hl : lv_has ls 6 [(0, .ref (ad 0 0)), (1, .int x1), (2, .int x2), (3, .int x3), (4, .ref (A 13))] := hl
  rcases h with ⟨u9, h, rfl, rfl⟩ | ⟨u9, h, rfl, rfl⟩
  · refine lv_aload hx hb dL_change_0 (lv_at hl 4 rfl) ?_
    refine lv_iconst (v := 0) hx hb dL_change_2 (by decide) ?_
    refine lv_aload_n hx hb dL_change_3 rfl (lv_at hl 0 rfl) ?_
    refine lv_iload_n hx hb dL_change_4 rfl (lv_at hl 1 rfl) ?_
    refine lv_iload_n hx hb dL_change_5 rfl (lv_at hl 2 rfl) ?_
    refine lv_iload_n hx hb dL_change_6 rfl (lv_at hl 3 rfl) ?_
    refine nx_ci (nx_runV (As := [.int x1, .int x2, .int x3]) (rest := [.int 0, .ref (A 13)]) (kd := 0) (k := 0) hx hb hml hown hSW hS hW (cx_X7_change l z ad N0 X u00 x1 x2 x3 hfl h) mf_X7_change (List.mem_of_getElem? (i := 750) (by decide +kernel)) (by rfl) rfl rfl ⟨rfl, rfl⟩ ⟨Nat.le_of_ble_eq_true rfl, Nat.le_of_ble_eq_true rfl⟩ hl.1 (Nat.le_of_ble_eq_true rfl) dL_change_7 ⟨Nat.le_of_ble_eq_true rfl, Nat.le_of_ble_eq_true rfl⟩) hS (fun ce q9 H locs hce hcv hcl hW hS => ?_)
    refine vx_catch (E := "java/lang/IndexOutOfBoundsException") (name := "java/lang/IndexOutOfBoundsException") hown [] (⟨0, 12, 15, 13⟩ : ExceptionTableEntry) [(⟨0, 12, 19, 21⟩ : ExceptionTableEntry)] (htab.trans rfl) (fun zz hz => absurd hz List.not_mem_nil) (by decide) (by decide) (hT.use (List.mem_of_getElem? (i := 666) (by decide +kernel)) rfl) (hT.use (List.mem_of_getElem? (i := 477) (by decide +kernel)) rfl) hce hcv hcl ?_
    refine lv_astore (lv' := [(5, .ref q9), (0, .ref (ad 0 0)), (1, .int x1), (2, .int x2), (3, .int x3), (4, .ref (A 13))]) hx hb dL_change_15 hl (by decide) rfl (fun ls hl => ?_)
    refine lv_iconst (v := 1) hx hb dL_change_17 (by decide) ?_
    refine W.widen (k := 1) (n := 6) (Nat.le_of_ble_eq_true rfl) (Nat.le_of_ble_eq_true rfl) ?_
    exact nb_wret hA hx hb hr hlocks hW hF.gc hS dL_change_18
  · refine lv_aload hx hb dL_change_0 (lv_at hl 4 rfl) ?_
    refine lv_iconst (v := 0) hx hb dL_change_2 (by decide) ?_
    refine lv_aload_n hx hb dL_change_3 rfl (lv_at hl 0 rfl) ?_
    refine lv_iload_n hx hb dL_change_4 rfl (lv_at hl 1 rfl) ?_
    refine lv_iload_n hx hb dL_change_5 rfl (lv_at hl 2 rfl) ?_
    refine lv_iload_n hx hb dL_change_6 rfl (lv_at hl 3 rfl) ?_
    refine nx_ci (nx_runV (As := [.int x1, .int x2, .int x3]) (rest := [.int 0, .ref (A 13)]) (kd := 0) (k := 0) hx hb hml hown hSW hS hW (cx_X7_change l z ad N0 X u00 x1 x2 x3 hfl h) mf_X7_change (List.mem_of_getElem? (i := 750) (by decide +kernel)) (by rfl) rfl rfl ⟨rfl, rfl⟩ ⟨Nat.le_of_ble_eq_true rfl, Nat.le_of_ble_eq_true rfl⟩ hl.1 (Nat.le_of_ble_eq_true rfl) dL_change_7 ⟨Nat.le_of_ble_eq_true rfl, Nat.le_of_ble_eq_true rfl⟩) hS (fun ce q9 H locs hce hcv hcl hW hS => ?_)
    refine vx_catch (E := "java/lang/IllegalArgumentException") (name := "java/lang/IllegalArgumentException") hown [(⟨0, 12, 15, 13⟩ : ExceptionTableEntry)] (⟨0, 12, 19, 21⟩ : ExceptionTableEntry) [] (htab.trans rfl) (fun zz hz => by rw [List.mem_singleton.mp hz]; exact Or.inr ⟨by decide, "java/lang/IndexOutOfBoundsException", hT.use (List.mem_of_getElem? (i := 666) (by decide +kernel)) rfl, hSO.2.2.2.2.2.2.2.1⟩) (by decide) (by decide) (hT.use (List.mem_of_getElem? (i := 680) (by decide +kernel)) rfl) (hT.use (List.mem_of_getElem? (i := 394) (by decide +kernel)) rfl) hce hcv hcl ?_
    refine lv_astore (lv' := [(5, .ref q9), (0, .ref (ad 0 0)), (1, .int x1), (2, .int x2), (3, .int x3), (4, .ref (A 13))]) hx hb dL_change_19 hl (by decide) rfl (fun ls hl => ?_)
    refine lv_iconst (v := 2) hx hb dL_change_21 (by decide) ?_
    refine W.widen (k := 1) (n := 6) (Nat.le_of_ble_eq_true rfl) (Nat.le_of_ble_eq_true rfl) ?_
    exact nb_wret hA hx hb hr hlocks hW hF.gc hS dL_change_22
def R_put (x1 k w9 w : Int32) : Prop := (∃ u9, f_X7_put N0 u00 x1 = some (.error "java/lang/IndexOutOfBoundsException", u9) ∧ k = 1 ∧ w9 = w) ∨ (∃ u9, f_X7_put N0 u00 x1 = some (.error "java/lang/IllegalStateException", u9) ∧ k = 2 ∧ w9 = w)
theorem mfw_put : MFw yL_put cL_put 4 [(0, 9, 12, 13), (0, 9, 15, 15)] 3 := ⟨List.mem_of_getElem? (i := 763) (by decide +kernel), List.mem_of_getElem? (i := 60) (by decide +kernel), List.mem_of_getElem? (i := 764) (by decide +kernel), by decide +kernel, by decide +kernel, by decide +kernel⟩
set_option maxRecDepth 100000 in
set_option maxHeartbeats 4000000 in
theorem w_put (l : Launch) (hfl : l.stackTraces = false) (z : Zt) (o : Ot) (ad : Ad) (X : Gt) (hA : Raw ad) (A : Nat → Nat) (w : Int32) (hF : FM z (GC z ad N0 X u00) A (mW w)) (x1 : Int32) {k w9 : Int32} (h : R_put x1 k w9 w) : MW l z o yL_put cL_put 4 [(0, 9, 12, 13), (0, 9, 15, 15)] { frames := 8, cells := 1, slots := 6, locals := 125 } 1 6 [.ref (ad 0 0), .int x1, .ref (A 13)] ad (GC z ad N0 X u00) (MQw z A k w9) := by
  refine va_MetW (hh := [(0, 9, 12, 13), (0, 9, 15, 15)]) (cc := cL_put) (maxL := 4) (ret := some .int) (by decide) rfl ?_
  intro p e s m args below meth c s₁ B hml hv
  obtain ⟨rfl, hSW, hSO, hW⟩ := hv
  have hx := B.exec; have hb := B.bytes; have hr := B.returns; have hlocks := B.notSynchronized
  have hown : s.vm.findClass RL = some m.cls := findClass_of_methodNamed B.named
  have htab : c.exceptionTable.toList = tableOf [(0, 9, 12, 13), (0, 9, 15, 15)] := vx_table (x := yL_put) B (atoms_spec (ws := [Cond.codeWith yL_put cL_put 4 (some .int) [(0, 9, 12, 13), (0, 9, 15, 15)]]) B.pre _ List.mem_cons_self)
  obtain ⟨hT, hK, hST, hB0⟩ := id hSW
  have hS : va_S (zA z) s.heap s.heap [] := va_S.rf
  have hl := lv_entry ([.ref (ad 0 0), .int x1, .ref (A 13)]) (n := 4) (Nat.le_of_ble_eq_true rfl)
  rw [lg_entry_eq]
  generalize (lg_sl ([.ref (ad 0 0), .int x1, .ref (A 13)]) ++ List.replicate (4 - (lg_sl ([.ref (ad 0 0), .int x1, .ref (A 13)])).length) Slot.unset).toArray = ls at hl ⊢
  have hl : lv_has ls 4 [(0, .ref (ad 0 0)), (1, .int x1), (2, .ref (A 13))] := hl
  rcases h with ⟨u9, h, rfl, rfl⟩ | ⟨u9, h, rfl, rfl⟩
  · refine lv_aload_n hx hb dL_put_0 rfl (lv_at hl 2 rfl) ?_
    refine lv_iconst (v := 0) hx hb dL_put_1 (by decide) ?_
    refine lv_aload_n hx hb dL_put_2 rfl (lv_at hl 0 rfl) ?_
    refine lv_iload_n hx hb dL_put_3 rfl (lv_at hl 1 rfl) ?_
    refine nx_ci (nx_runV (As := [.int x1]) (rest := [.int 0, .ref (A 13)]) (kd := 0) (k := 0) hx hb hml hown hSW hS hW (cx_X7_put l z ad N0 X u00 x1 hfl h) mf_X7_put (List.mem_of_getElem? (i := 765) (by decide +kernel)) (by rfl) rfl rfl ⟨rfl, rfl⟩ ⟨Nat.le_of_ble_eq_true rfl, Nat.le_of_ble_eq_true rfl⟩ hl.1 (Nat.le_of_ble_eq_true rfl) dL_put_4 ⟨Nat.le_of_ble_eq_true rfl, Nat.le_of_ble_eq_true rfl⟩) hS (fun ce q9 H locs hce hcv hcl hW hS => ?_)
    refine vx_catch (E := "java/lang/IndexOutOfBoundsException") (name := "java/lang/IndexOutOfBoundsException") hown [] (⟨0, 9, 12, 13⟩ : ExceptionTableEntry) [(⟨0, 9, 15, 15⟩ : ExceptionTableEntry)] (htab.trans rfl) (fun zz hz => absurd hz List.not_mem_nil) (by decide) (by decide) (hT.use (List.mem_of_getElem? (i := 666) (by decide +kernel)) rfl) (hT.use (List.mem_of_getElem? (i := 477) (by decide +kernel)) rfl) hce hcv hcl ?_
    refine lv_astore_n (lv' := [(3, .ref q9), (0, .ref (ad 0 0)), (1, .int x1), (2, .ref (A 13))]) hx hb dL_put_12 rfl hl (by decide) rfl (fun ls hl => ?_)
    refine lv_iconst (v := 1) hx hb dL_put_13 (by decide) ?_
    refine W.widen (k := 1) (n := 6) (Nat.le_of_ble_eq_true rfl) (Nat.le_of_ble_eq_true rfl) ?_
    exact nb_wret hA hx hb hr hlocks hW hF.gc hS dL_put_14
  · refine lv_aload_n hx hb dL_put_0 rfl (lv_at hl 2 rfl) ?_
    refine lv_iconst (v := 0) hx hb dL_put_1 (by decide) ?_
    refine lv_aload_n hx hb dL_put_2 rfl (lv_at hl 0 rfl) ?_
    refine lv_iload_n hx hb dL_put_3 rfl (lv_at hl 1 rfl) ?_
    refine nx_ci (nx_runV (As := [.int x1]) (rest := [.int 0, .ref (A 13)]) (kd := 0) (k := 0) hx hb hml hown hSW hS hW (cx_X7_put l z ad N0 X u00 x1 hfl h) mf_X7_put (List.mem_of_getElem? (i := 765) (by decide +kernel)) (by rfl) rfl rfl ⟨rfl, rfl⟩ ⟨Nat.le_of_ble_eq_true rfl, Nat.le_of_ble_eq_true rfl⟩ hl.1 (Nat.le_of_ble_eq_true rfl) dL_put_4 ⟨Nat.le_of_ble_eq_true rfl, Nat.le_of_ble_eq_true rfl⟩) hS (fun ce q9 H locs hce hcv hcl hW hS => ?_)
    refine vx_catch (E := "java/lang/IllegalStateException") (name := "java/lang/IllegalStateException") hown [(⟨0, 9, 12, 13⟩ : ExceptionTableEntry)] (⟨0, 9, 15, 15⟩ : ExceptionTableEntry) [] (htab.trans rfl) (fun zz hz => by rw [List.mem_singleton.mp hz]; exact Or.inr ⟨by decide, "java/lang/IndexOutOfBoundsException", hT.use (List.mem_of_getElem? (i := 666) (by decide +kernel)) rfl, hSO.2.2.2.2.2.2.1⟩) (by decide) (by decide) (hT.use (List.mem_of_getElem? (i := 667) (by decide +kernel)) rfl) (hT.use (List.mem_of_getElem? (i := 640) (by decide +kernel)) rfl) hce hcv hcl ?_
    refine lv_astore_n (lv' := [(3, .ref q9), (0, .ref (ad 0 0)), (1, .int x1), (2, .ref (A 13))]) hx hb dL_put_15 rfl hl (by decide) rfl (fun ls hl => ?_)
    refine lv_iconst (v := 2) hx hb dL_put_16 (by decide) ?_
    refine W.widen (k := 1) (n := 6) (Nat.le_of_ble_eq_true rfl) (Nat.le_of_ble_eq_true rfl) ?_
    exact nb_wret hA hx hb hr hlocks hW hF.gc hS dL_put_17
def R_cut (x1 k w9 w : Int32) : Prop := (∃ u9, f_X7_cut N0 u00 x1 = some (.error "java/lang/IndexOutOfBoundsException", u9) ∧ k = 1 ∧ w9 = w)
theorem mfw_cut : MFw yL_cut cL_cut 4 [(0, 9, 12, 13)] 3 := ⟨List.mem_of_getElem? (i := 775) (by decide +kernel), List.mem_of_getElem? (i := 60) (by decide +kernel), List.mem_of_getElem? (i := 776) (by decide +kernel), by decide +kernel, by decide +kernel, by decide +kernel⟩
set_option maxRecDepth 100000 in
set_option maxHeartbeats 4000000 in
theorem w_cut (l : Launch) (hfl : l.stackTraces = false) (z : Zt) (o : Ot) (ad : Ad) (X : Gt) (hA : Raw ad) (A : Nat → Nat) (w : Int32) (hF : FM z (GC z ad N0 X u00) A (mW w)) (x1 : Int32) {k w9 : Int32} (h : R_cut x1 k w9 w) : MW l z o yL_cut cL_cut 4 [(0, 9, 12, 13)] { frames := 8, cells := 1, slots := 6, locals := 125 } 1 6 [.ref (ad 0 0), .int x1, .ref (A 13)] ad (GC z ad N0 X u00) (MQw z A k w9) := by
  refine va_MetW (hh := [(0, 9, 12, 13)]) (cc := cL_cut) (maxL := 4) (ret := some .int) (by decide) rfl ?_
  intro p e s m args below meth c s₁ B hml hv
  obtain ⟨rfl, hSW, hSO, hW⟩ := hv
  have hx := B.exec; have hb := B.bytes; have hr := B.returns; have hlocks := B.notSynchronized
  have hown : s.vm.findClass RL = some m.cls := findClass_of_methodNamed B.named
  have htab : c.exceptionTable.toList = tableOf [(0, 9, 12, 13)] := vx_table (x := yL_cut) B (atoms_spec (ws := [Cond.codeWith yL_cut cL_cut 4 (some .int) [(0, 9, 12, 13)]]) B.pre _ List.mem_cons_self)
  obtain ⟨hT, hK, hST, hB0⟩ := id hSW
  have hS : va_S (zA z) s.heap s.heap [] := va_S.rf
  have hl := lv_entry ([.ref (ad 0 0), .int x1, .ref (A 13)]) (n := 4) (Nat.le_of_ble_eq_true rfl)
  rw [lg_entry_eq]
  generalize (lg_sl ([.ref (ad 0 0), .int x1, .ref (A 13)]) ++ List.replicate (4 - (lg_sl ([.ref (ad 0 0), .int x1, .ref (A 13)])).length) Slot.unset).toArray = ls at hl ⊢
  have hl : lv_has ls 4 [(0, .ref (ad 0 0)), (1, .int x1), (2, .ref (A 13))] := hl
  obtain ⟨u9, h, rfl, rfl⟩ := h
  refine lv_aload_n hx hb dL_cut_0 rfl (lv_at hl 2 rfl) ?_
  refine lv_iconst (v := 0) hx hb dL_cut_1 (by decide) ?_
  refine lv_aload_n hx hb dL_cut_2 rfl (lv_at hl 0 rfl) ?_
  refine lv_iload_n hx hb dL_cut_3 rfl (lv_at hl 1 rfl) ?_
  refine nx_ci (nx_runV (As := [.int x1]) (rest := [.int 0, .ref (A 13)]) (kd := 0) (k := 0) hx hb hml hown hSW hS hW (cx_X7_cut l z ad N0 X u00 x1 hfl h) mf_X7_cut (List.mem_of_getElem? (i := 777) (by decide +kernel)) (by rfl) rfl rfl ⟨rfl, rfl⟩ ⟨Nat.le_of_ble_eq_true rfl, Nat.le_of_ble_eq_true rfl⟩ hl.1 (Nat.le_of_ble_eq_true rfl) dL_cut_4 ⟨Nat.le_of_ble_eq_true rfl, Nat.le_of_ble_eq_true rfl⟩) hS (fun ce q9 H locs hce hcv hcl hW hS => ?_)
  refine vx_catch (E := "java/lang/IndexOutOfBoundsException") (name := "java/lang/IndexOutOfBoundsException") hown [] (⟨0, 9, 12, 13⟩ : ExceptionTableEntry) [] (htab.trans rfl) (fun zz hz => absurd hz List.not_mem_nil) (by decide) (by decide) (hT.use (List.mem_of_getElem? (i := 666) (by decide +kernel)) rfl) (hT.use (List.mem_of_getElem? (i := 477) (by decide +kernel)) rfl) hce hcv hcl ?_
  refine lv_astore_n (lv' := [(3, .ref q9), (0, .ref (ad 0 0)), (1, .int x1), (2, .ref (A 13))]) hx hb dL_cut_12 rfl hl (by decide) rfl (fun ls hl => ?_)
  refine lv_iconst (v := 1) hx hb dL_cut_13 (by decide) ?_
  refine W.widen (k := 1) (n := 6) (Nat.le_of_ble_eq_true rfl) (Nat.le_of_ble_eq_true rfl) ?_
  exact nb_wret hA hx hb hr hlocks hW hF.gc hS dL_cut_14
def R_player (x1 x2 x3 k w9 w : Int32) : Prop := (∃ u9, f_X7_player N0 u00 x1 x2 x3 = some (.ok w9, u9) ∧ k = 0) ∨ (∃ u9, f_X7_player N0 u00 x1 x2 x3 = some (.error "java/lang/IndexOutOfBoundsException", u9) ∧ k = 1 ∧ w9 = w) ∨ (∃ u9, f_X7_player N0 u00 x1 x2 x3 = some (.error "java/lang/IllegalArgumentException", u9) ∧ k = 2 ∧ w9 = w) ∨ (∃ u9, f_X7_player N0 u00 x1 x2 x3 = some (.error "java/lang/IllegalStateException", u9) ∧ k = 3 ∧ w9 = w)
theorem mfw_player : MFw yL_player cL_player 6 [(0, 12, 15, 13), (0, 12, 19, 21), (0, 12, 23, 15)] 5 := ⟨List.mem_of_getElem? (i := 786) (by decide +kernel), List.mem_of_getElem? (i := 60) (by decide +kernel), List.mem_of_getElem? (i := 787) (by decide +kernel), by decide +kernel, by decide +kernel, by decide +kernel⟩
set_option maxRecDepth 100000 in
set_option maxHeartbeats 4000000 in
theorem w_player (l : Launch) (hfl : l.stackTraces = false) (z : Zt) (o : Ot) (ad : Ad) (X : Gt) (hA : Raw ad) (A : Nat → Nat) (w : Int32) (hF : FM z (GC z ad N0 X u00) A (mW w)) (x1 : Int32) (x2 : Int32) (x3 : Int32) {k w9 : Int32} (h : R_player x1 x2 x3 k w9 w) : MW l z o yL_player cL_player 6 [(0, 12, 15, 13), (0, 12, 19, 21), (0, 12, 23, 15)] { frames := 8, cells := 1, slots := 6, locals := 126 } 1 6 [.ref (ad 0 0), .int x1, .int x2, .int x3, .ref (A 13)] ad (GC z ad N0 X u00) (MQw z A k w9) := by
  refine va_MetW (hh := [(0, 12, 15, 13), (0, 12, 19, 21), (0, 12, 23, 15)]) (cc := cL_player) (maxL := 6) (ret := some .int) (by decide) rfl ?_
  intro p e s m args below meth c s₁ B hml hv
  obtain ⟨rfl, hSW, hSO, hW⟩ := hv
  have hx := B.exec; have hb := B.bytes; have hr := B.returns; have hlocks := B.notSynchronized
  have hown : s.vm.findClass RL = some m.cls := findClass_of_methodNamed B.named
  have htab : c.exceptionTable.toList = tableOf [(0, 12, 15, 13), (0, 12, 19, 21), (0, 12, 23, 15)] := vx_table (x := yL_player) B (atoms_spec (ws := [Cond.codeWith yL_player cL_player 6 (some .int) [(0, 12, 15, 13), (0, 12, 19, 21), (0, 12, 23, 15)]]) B.pre _ List.mem_cons_self)
  obtain ⟨hT, hK, hST, hB0⟩ := id hSW
  have hS : va_S (zA z) s.heap s.heap [] := va_S.rf
  have hl := lv_entry ([.ref (ad 0 0), .int x1, .int x2, .int x3, .ref (A 13)]) (n := 6) (Nat.le_of_ble_eq_true rfl)
  rw [lg_entry_eq]
  generalize (lg_sl ([.ref (ad 0 0), .int x1, .int x2, .int x3, .ref (A 13)]) ++ List.replicate (6 - (lg_sl ([.ref (ad 0 0), .int x1, .int x2, .int x3, .ref (A 13)])).length) Slot.unset).toArray = ls at hl ⊢
  have hl : lv_has ls 6 [(0, .ref (ad 0 0)), (1, .int x1), (2, .int x2), (3, .int x3), (4, .ref (A 13))] := hl
  rcases h with ⟨u9, h, rfl⟩ | ⟨u9, h, rfl, rfl⟩ | ⟨u9, h, rfl, rfl⟩ | ⟨u9, h, rfl, rfl⟩
  · refine lv_aload hx hb dL_player_0 (lv_at hl 4 rfl) ?_
    refine lv_iconst (v := 0) hx hb dL_player_2 (by decide) ?_
    refine lv_aload_n hx hb dL_player_3 rfl (lv_at hl 0 rfl) ?_
    refine lv_iload_n hx hb dL_player_4 rfl (lv_at hl 1 rfl) ?_
    refine lv_iload_n hx hb dL_player_5 rfl (lv_at hl 2 rfl) ?_
    refine lv_iload_n hx hb dL_player_6 rfl (lv_at hl 3 rfl) ?_
    refine va_calli (nb_runV (As := [.int x1, .int x2, .int x3]) (rest := [.int 0, .ref (A 13)]) (kd := 0) (k := 0) hx hb hml hown hSW hS hW (c_X7_player l z ad N0 X u00 x1 x2 x3 hA h) mf_X7_player (Or.inl (List.mem_of_getElem? (i := 788) (by decide +kernel))) (by rfl) rfl rfl ⟨rfl, rfl⟩ ⟨Nat.le_of_ble_eq_true rfl, Nat.le_of_ble_eq_true rfl⟩ hl.1 (Nat.le_of_ble_eq_true rfl) dL_player_7 ⟨Nat.le_of_ble_eq_true rfl, Nat.le_of_ble_eq_true rfl⟩) hS (fun _ _ h => h) (fun _ h => h) (fun r8 ad2 t H locs ht _ hp hW1 _ _ hS => ?_)
    obtain ⟨rfl, hP⟩ := hp
    subst ht
    have hA2 : Raw ad2 := fun b => (hP 99 b (fun q => by omega)).trans (hA b)
    replace hW := hW1
    refine lv_i2l hx hb dL_player_10 rfl ?_
    refine nb_out hA2 hx hb hK hW hS (hF.gc) rfl dL_player_11 (fun H locs G9 hF9 hW hS => ?_)
    refine lv_goto (tgt := 27) hx hb dL_player_12 (by decide) ?_
    refine lv_iconst (v := 0) hx hb dL_player_27 (by decide) ?_
    refine W.widen (k := 1) (n := 6) (Nat.le_of_ble_eq_true rfl) (Nat.le_of_ble_eq_true rfl) ?_
    exact nb_wret hA2 hx hb hr hlocks hW hF9 hS dL_player_28
  · refine lv_aload hx hb dL_player_0 (lv_at hl 4 rfl) ?_
    refine lv_iconst (v := 0) hx hb dL_player_2 (by decide) ?_
    refine lv_aload_n hx hb dL_player_3 rfl (lv_at hl 0 rfl) ?_
    refine lv_iload_n hx hb dL_player_4 rfl (lv_at hl 1 rfl) ?_
    refine lv_iload_n hx hb dL_player_5 rfl (lv_at hl 2 rfl) ?_
    refine lv_iload_n hx hb dL_player_6 rfl (lv_at hl 3 rfl) ?_
    refine nx_ci (nx_runV (As := [.int x1, .int x2, .int x3]) (rest := [.int 0, .ref (A 13)]) (kd := 0) (k := 0) hx hb hml hown hSW hS hW (cx_X7_player l z ad N0 X u00 x1 x2 x3 hfl h) mf_X7_player (List.mem_of_getElem? (i := 788) (by decide +kernel)) (by rfl) rfl rfl ⟨rfl, rfl⟩ ⟨Nat.le_of_ble_eq_true rfl, Nat.le_of_ble_eq_true rfl⟩ hl.1 (Nat.le_of_ble_eq_true rfl) dL_player_7 ⟨Nat.le_of_ble_eq_true rfl, Nat.le_of_ble_eq_true rfl⟩) hS (fun ce q9 H locs hce hcv hcl hW hS => ?_)
    refine vx_catch (E := "java/lang/IndexOutOfBoundsException") (name := "java/lang/IndexOutOfBoundsException") hown [] (⟨0, 12, 15, 13⟩ : ExceptionTableEntry) [(⟨0, 12, 19, 21⟩ : ExceptionTableEntry), (⟨0, 12, 23, 15⟩ : ExceptionTableEntry)] (htab.trans rfl) (fun zz hz => absurd hz List.not_mem_nil) (by decide) (by decide) (hT.use (List.mem_of_getElem? (i := 666) (by decide +kernel)) rfl) (hT.use (List.mem_of_getElem? (i := 477) (by decide +kernel)) rfl) hce hcv hcl ?_
    refine lv_astore (lv' := [(5, .ref q9), (0, .ref (ad 0 0)), (1, .int x1), (2, .int x2), (3, .int x3), (4, .ref (A 13))]) hx hb dL_player_15 hl (by decide) rfl (fun ls hl => ?_)
    refine lv_iconst (v := 1) hx hb dL_player_17 (by decide) ?_
    refine W.widen (k := 1) (n := 6) (Nat.le_of_ble_eq_true rfl) (Nat.le_of_ble_eq_true rfl) ?_
    exact nb_wret hA hx hb hr hlocks hW hF.gc hS dL_player_18
  · refine lv_aload hx hb dL_player_0 (lv_at hl 4 rfl) ?_
    refine lv_iconst (v := 0) hx hb dL_player_2 (by decide) ?_
    refine lv_aload_n hx hb dL_player_3 rfl (lv_at hl 0 rfl) ?_
    refine lv_iload_n hx hb dL_player_4 rfl (lv_at hl 1 rfl) ?_
    refine lv_iload_n hx hb dL_player_5 rfl (lv_at hl 2 rfl) ?_
    refine lv_iload_n hx hb dL_player_6 rfl (lv_at hl 3 rfl) ?_
    refine nx_ci (nx_runV (As := [.int x1, .int x2, .int x3]) (rest := [.int 0, .ref (A 13)]) (kd := 0) (k := 0) hx hb hml hown hSW hS hW (cx_X7_player l z ad N0 X u00 x1 x2 x3 hfl h) mf_X7_player (List.mem_of_getElem? (i := 788) (by decide +kernel)) (by rfl) rfl rfl ⟨rfl, rfl⟩ ⟨Nat.le_of_ble_eq_true rfl, Nat.le_of_ble_eq_true rfl⟩ hl.1 (Nat.le_of_ble_eq_true rfl) dL_player_7 ⟨Nat.le_of_ble_eq_true rfl, Nat.le_of_ble_eq_true rfl⟩) hS (fun ce q9 H locs hce hcv hcl hW hS => ?_)
    refine vx_catch (E := "java/lang/IllegalArgumentException") (name := "java/lang/IllegalArgumentException") hown [(⟨0, 12, 15, 13⟩ : ExceptionTableEntry)] (⟨0, 12, 19, 21⟩ : ExceptionTableEntry) [(⟨0, 12, 23, 15⟩ : ExceptionTableEntry)] (htab.trans rfl) (fun zz hz => by rw [List.mem_singleton.mp hz]; exact Or.inr ⟨by decide, "java/lang/IndexOutOfBoundsException", hT.use (List.mem_of_getElem? (i := 666) (by decide +kernel)) rfl, hSO.2.2.2.2.2.2.2.1⟩) (by decide) (by decide) (hT.use (List.mem_of_getElem? (i := 680) (by decide +kernel)) rfl) (hT.use (List.mem_of_getElem? (i := 394) (by decide +kernel)) rfl) hce hcv hcl ?_
    refine lv_astore (lv' := [(5, .ref q9), (0, .ref (ad 0 0)), (1, .int x1), (2, .int x2), (3, .int x3), (4, .ref (A 13))]) hx hb dL_player_19 hl (by decide) rfl (fun ls hl => ?_)
    refine lv_iconst (v := 2) hx hb dL_player_21 (by decide) ?_
    refine W.widen (k := 1) (n := 6) (Nat.le_of_ble_eq_true rfl) (Nat.le_of_ble_eq_true rfl) ?_
    exact nb_wret hA hx hb hr hlocks hW hF.gc hS dL_player_22
  · refine lv_aload hx hb dL_player_0 (lv_at hl 4 rfl) ?_
    refine lv_iconst (v := 0) hx hb dL_player_2 (by decide) ?_
    refine lv_aload_n hx hb dL_player_3 rfl (lv_at hl 0 rfl) ?_
    refine lv_iload_n hx hb dL_player_4 rfl (lv_at hl 1 rfl) ?_
    refine lv_iload_n hx hb dL_player_5 rfl (lv_at hl 2 rfl) ?_
    refine lv_iload_n hx hb dL_player_6 rfl (lv_at hl 3 rfl) ?_
    refine nx_ci (nx_runV (As := [.int x1, .int x2, .int x3]) (rest := [.int 0, .ref (A 13)]) (kd := 0) (k := 0) hx hb hml hown hSW hS hW (cx_X7_player l z ad N0 X u00 x1 x2 x3 hfl h) mf_X7_player (List.mem_of_getElem? (i := 788) (by decide +kernel)) (by rfl) rfl rfl ⟨rfl, rfl⟩ ⟨Nat.le_of_ble_eq_true rfl, Nat.le_of_ble_eq_true rfl⟩ hl.1 (Nat.le_of_ble_eq_true rfl) dL_player_7 ⟨Nat.le_of_ble_eq_true rfl, Nat.le_of_ble_eq_true rfl⟩) hS (fun ce q9 H locs hce hcv hcl hW hS => ?_)
    refine vx_catch (E := "java/lang/IllegalStateException") (name := "java/lang/IllegalStateException") hown [(⟨0, 12, 15, 13⟩ : ExceptionTableEntry), (⟨0, 12, 19, 21⟩ : ExceptionTableEntry)] (⟨0, 12, 23, 15⟩ : ExceptionTableEntry) [] (htab.trans rfl) (fun zz hz => by
      rcases List.mem_cons.mp hz with rfl | hz
      · exact Or.inr ⟨by decide, "java/lang/IndexOutOfBoundsException", hT.use (List.mem_of_getElem? (i := 666) (by decide +kernel)) rfl, hSO.2.2.2.2.2.2.1⟩
      · rw [List.mem_singleton.mp hz]; exact Or.inr ⟨by decide, "java/lang/IllegalArgumentException", hT.use (List.mem_of_getElem? (i := 680) (by decide +kernel)) rfl, hSO.2.2.2.2.2.2.2.2⟩) (by decide) (by decide) (hT.use (List.mem_of_getElem? (i := 667) (by decide +kernel)) rfl) (hT.use (List.mem_of_getElem? (i := 640) (by decide +kernel)) rfl) hce hcv hcl ?_
    refine lv_astore (lv' := [(5, .ref q9), (0, .ref (ad 0 0)), (1, .int x1), (2, .int x2), (3, .int x3), (4, .ref (A 13))]) hx hb dL_player_23 hl (by decide) rfl (fun ls hl => ?_)
    refine lv_iconst (v := 3) hx hb dL_player_25 (by decide) ?_
    refine W.widen (k := 1) (n := 6) (Nat.le_of_ble_eq_true rfl) (Nat.le_of_ble_eq_true rfl) ?_
    exact nb_wret hA hx hb hr hlocks hW hF.gc hS dL_player_26
def R_give (x1 x2 k w9 w : Int32) : Prop := (∃ u9, f_X7_give N0 u00 x1 x2 = some (.error "java/lang/IndexOutOfBoundsException", u9) ∧ k = 1 ∧ w9 = w) ∨ (∃ u9, f_X7_give N0 u00 x1 x2 = some (.error "java/lang/IllegalArgumentException", u9) ∧ k = 2 ∧ w9 = w)
theorem mfw_give : MFw yL_give cL_give 5 [(0, 10, 13, 13), (0, 10, 17, 21)] 4 := ⟨List.mem_of_getElem? (i := 825) (by decide +kernel), List.mem_of_getElem? (i := 60) (by decide +kernel), List.mem_of_getElem? (i := 826) (by decide +kernel), by decide +kernel, by decide +kernel, by decide +kernel⟩
set_option maxRecDepth 100000 in
set_option maxHeartbeats 4000000 in
theorem w_give (l : Launch) (hfl : l.stackTraces = false) (z : Zt) (o : Ot) (ad : Ad) (X : Gt) (hA : Raw ad) (A : Nat → Nat) (w : Int32) (hF : FM z (GC z ad N0 X u00) A (mW w)) (x1 : Int32) (x2 : Int32) {k w9 : Int32} (h : R_give x1 x2 k w9 w) : MW l z o yL_give cL_give 5 [(0, 10, 13, 13), (0, 10, 17, 21)] { frames := 8, cells := 1, slots := 6, locals := 128 } 1 6 [.ref (ad 0 0), .int x1, .int x2, .ref (A 13)] ad (GC z ad N0 X u00) (MQw z A k w9) := by
  refine va_MetW (hh := [(0, 10, 13, 13), (0, 10, 17, 21)]) (cc := cL_give) (maxL := 5) (ret := some .int) (by decide) rfl ?_
  intro p e s m args below meth c s₁ B hml hv
  obtain ⟨rfl, hSW, hSO, hW⟩ := hv
  have hx := B.exec; have hb := B.bytes; have hr := B.returns; have hlocks := B.notSynchronized
  have hown : s.vm.findClass RL = some m.cls := findClass_of_methodNamed B.named
  have htab : c.exceptionTable.toList = tableOf [(0, 10, 13, 13), (0, 10, 17, 21)] := vx_table (x := yL_give) B (atoms_spec (ws := [Cond.codeWith yL_give cL_give 5 (some .int) [(0, 10, 13, 13), (0, 10, 17, 21)]]) B.pre _ List.mem_cons_self)
  obtain ⟨hT, hK, hST, hB0⟩ := id hSW
  have hS : va_S (zA z) s.heap s.heap [] := va_S.rf
  have hl := lv_entry ([.ref (ad 0 0), .int x1, .int x2, .ref (A 13)]) (n := 5) (Nat.le_of_ble_eq_true rfl)
  rw [lg_entry_eq]
  generalize (lg_sl ([.ref (ad 0 0), .int x1, .int x2, .ref (A 13)]) ++ List.replicate (5 - (lg_sl ([.ref (ad 0 0), .int x1, .int x2, .ref (A 13)])).length) Slot.unset).toArray = ls at hl ⊢
  have hl : lv_has ls 5 [(0, .ref (ad 0 0)), (1, .int x1), (2, .int x2), (3, .ref (A 13))] := hl
  rcases h with ⟨u9, h, rfl, rfl⟩ | ⟨u9, h, rfl, rfl⟩
  · refine lv_aload_n hx hb dL_give_0 rfl (lv_at hl 3 rfl) ?_
    refine lv_iconst (v := 0) hx hb dL_give_1 (by decide) ?_
    refine lv_aload_n hx hb dL_give_2 rfl (lv_at hl 0 rfl) ?_
    refine lv_iload_n hx hb dL_give_3 rfl (lv_at hl 1 rfl) ?_
    refine lv_iload_n hx hb dL_give_4 rfl (lv_at hl 2 rfl) ?_
    refine nx_ci (nx_runV (As := [.int x1, .int x2]) (rest := [.int 0, .ref (A 13)]) (kd := 0) (k := 0) hx hb hml hown hSW hS hW (cx_X7_give l z ad N0 X u00 x1 x2 hfl h) mf_X7_give (List.mem_of_getElem? (i := 827) (by decide +kernel)) (by rfl) rfl rfl ⟨rfl, rfl⟩ ⟨Nat.le_of_ble_eq_true rfl, Nat.le_of_ble_eq_true rfl⟩ hl.1 (Nat.le_of_ble_eq_true rfl) dL_give_5 ⟨Nat.le_of_ble_eq_true rfl, Nat.le_of_ble_eq_true rfl⟩) hS (fun ce q9 H locs hce hcv hcl hW hS => ?_)
    refine vx_catch (E := "java/lang/IndexOutOfBoundsException") (name := "java/lang/IndexOutOfBoundsException") hown [] (⟨0, 10, 13, 13⟩ : ExceptionTableEntry) [(⟨0, 10, 17, 21⟩ : ExceptionTableEntry)] (htab.trans rfl) (fun zz hz => absurd hz List.not_mem_nil) (by decide) (by decide) (hT.use (List.mem_of_getElem? (i := 666) (by decide +kernel)) rfl) (hT.use (List.mem_of_getElem? (i := 477) (by decide +kernel)) rfl) hce hcv hcl ?_
    refine lv_astore (lv' := [(4, .ref q9), (0, .ref (ad 0 0)), (1, .int x1), (2, .int x2), (3, .ref (A 13))]) hx hb dL_give_13 hl (by decide) rfl (fun ls hl => ?_)
    refine lv_iconst (v := 1) hx hb dL_give_15 (by decide) ?_
    refine W.widen (k := 1) (n := 6) (Nat.le_of_ble_eq_true rfl) (Nat.le_of_ble_eq_true rfl) ?_
    exact nb_wret hA hx hb hr hlocks hW hF.gc hS dL_give_16
  · refine lv_aload_n hx hb dL_give_0 rfl (lv_at hl 3 rfl) ?_
    refine lv_iconst (v := 0) hx hb dL_give_1 (by decide) ?_
    refine lv_aload_n hx hb dL_give_2 rfl (lv_at hl 0 rfl) ?_
    refine lv_iload_n hx hb dL_give_3 rfl (lv_at hl 1 rfl) ?_
    refine lv_iload_n hx hb dL_give_4 rfl (lv_at hl 2 rfl) ?_
    refine nx_ci (nx_runV (As := [.int x1, .int x2]) (rest := [.int 0, .ref (A 13)]) (kd := 0) (k := 0) hx hb hml hown hSW hS hW (cx_X7_give l z ad N0 X u00 x1 x2 hfl h) mf_X7_give (List.mem_of_getElem? (i := 827) (by decide +kernel)) (by rfl) rfl rfl ⟨rfl, rfl⟩ ⟨Nat.le_of_ble_eq_true rfl, Nat.le_of_ble_eq_true rfl⟩ hl.1 (Nat.le_of_ble_eq_true rfl) dL_give_5 ⟨Nat.le_of_ble_eq_true rfl, Nat.le_of_ble_eq_true rfl⟩) hS (fun ce q9 H locs hce hcv hcl hW hS => ?_)
    refine vx_catch (E := "java/lang/IllegalArgumentException") (name := "java/lang/IllegalArgumentException") hown [(⟨0, 10, 13, 13⟩ : ExceptionTableEntry)] (⟨0, 10, 17, 21⟩ : ExceptionTableEntry) [] (htab.trans rfl) (fun zz hz => by rw [List.mem_singleton.mp hz]; exact Or.inr ⟨by decide, "java/lang/IndexOutOfBoundsException", hT.use (List.mem_of_getElem? (i := 666) (by decide +kernel)) rfl, hSO.2.2.2.2.2.2.2.1⟩) (by decide) (by decide) (hT.use (List.mem_of_getElem? (i := 680) (by decide +kernel)) rfl) (hT.use (List.mem_of_getElem? (i := 394) (by decide +kernel)) rfl) hce hcv hcl ?_
    refine lv_astore (lv' := [(4, .ref q9), (0, .ref (ad 0 0)), (1, .int x1), (2, .int x2), (3, .ref (A 13))]) hx hb dL_give_17 hl (by decide) rfl (fun ls hl => ?_)
    refine lv_iconst (v := 2) hx hb dL_give_19 (by decide) ?_
    refine W.widen (k := 1) (n := 6) (Nat.le_of_ble_eq_true rfl) (Nat.le_of_ble_eq_true rfl) ?_
    exact nb_wret hA hx hb hr hlocks hW hF.gc hS dL_give_20
def R_absent (x1 x2 k w9 w : Int32) : Prop := (∃ u9, f_X7_absent N0 u00 x1 x2 = some (.error "java/lang/IndexOutOfBoundsException", u9) ∧ k = 1 ∧ w9 = w)
theorem mfw_absent : MFw yL_absent cL_absent 5 [(0, 17, 20, 13)] 4 := ⟨List.mem_of_getElem? (i := 833) (by decide +kernel), List.mem_of_getElem? (i := 60) (by decide +kernel), List.mem_of_getElem? (i := 834) (by decide +kernel), by decide +kernel, by decide +kernel, by decide +kernel⟩
set_option maxRecDepth 100000 in
set_option maxHeartbeats 4000000 in
theorem w_absent (l : Launch) (hfl : l.stackTraces = false) (z : Zt) (o : Ot) (ad : Ad) (X : Gt) (hA : Raw ad) (A : Nat → Nat) (w : Int32) (hF : FM z (GC z ad N0 X u00) A (mW w)) (x1 : Int32) (x2 : Int32) {k w9 : Int32} (h : R_absent x1 x2 k w9 w) : MW l z o yL_absent cL_absent 5 [(0, 17, 20, 13)] { frames := 8, cells := 1, slots := 6, locals := 126 } 1 6 [.ref (ad 0 0), .int x1, .int x2, .ref (A 13)] ad (GC z ad N0 X u00) (MQw z A k w9) := by
  refine va_MetW (hh := [(0, 17, 20, 13)]) (cc := cL_absent) (maxL := 5) (ret := some .int) (by decide) rfl ?_
  intro p e s m args below meth c s₁ B hml hv
  obtain ⟨rfl, hSW, hSO, hW⟩ := hv
  have hx := B.exec; have hb := B.bytes; have hr := B.returns; have hlocks := B.notSynchronized
  have hown : s.vm.findClass RL = some m.cls := findClass_of_methodNamed B.named
  have htab : c.exceptionTable.toList = tableOf [(0, 17, 20, 13)] := vx_table (x := yL_absent) B (atoms_spec (ws := [Cond.codeWith yL_absent cL_absent 5 (some .int) [(0, 17, 20, 13)]]) B.pre _ List.mem_cons_self)
  obtain ⟨hT, hK, hST, hB0⟩ := id hSW
  have hS : va_S (zA z) s.heap s.heap [] := va_S.rf
  have hl := lv_entry ([.ref (ad 0 0), .int x1, .int x2, .ref (A 13)]) (n := 5) (Nat.le_of_ble_eq_true rfl)
  rw [lg_entry_eq]
  generalize (lg_sl ([.ref (ad 0 0), .int x1, .int x2, .ref (A 13)]) ++ List.replicate (5 - (lg_sl ([.ref (ad 0 0), .int x1, .int x2, .ref (A 13)])).length) Slot.unset).toArray = ls at hl ⊢
  have hl : lv_has ls 5 [(0, .ref (ad 0 0)), (1, .int x1), (2, .int x2), (3, .ref (A 13))] := hl
  obtain ⟨u9, h, rfl, rfl⟩ := h
  refine lv_aload_n hx hb dL_absent_0 rfl (lv_at hl 3 rfl) ?_
  refine lv_iconst (v := 0) hx hb dL_absent_1 (by decide) ?_
  refine lv_aload_n hx hb dL_absent_2 rfl (lv_at hl 0 rfl) ?_
  refine lv_iload_n hx hb dL_absent_3 rfl (lv_at hl 1 rfl) ?_
  refine lv_iload_n hx hb dL_absent_4 rfl (lv_at hl 2 rfl) ?_
  refine nx_ci (nx_runV (As := [.int x1, .int x2]) (rest := [.int 0, .ref (A 13)]) (kd := 0) (k := 0) hx hb hml hown hSW hS hW (cx_X7_absent l z ad N0 X u00 x1 x2 hfl h) mf_X7_absent (List.mem_of_getElem? (i := 835) (by decide +kernel)) (by rfl) rfl rfl ⟨rfl, rfl⟩ ⟨Nat.le_of_ble_eq_true rfl, Nat.le_of_ble_eq_true rfl⟩ hl.1 (Nat.le_of_ble_eq_true rfl) dL_absent_5 ⟨Nat.le_of_ble_eq_true rfl, Nat.le_of_ble_eq_true rfl⟩) hS (fun ce q9 H locs hce hcv hcl hW hS => ?_)
  refine vx_catch (E := "java/lang/IndexOutOfBoundsException") (name := "java/lang/IndexOutOfBoundsException") hown [] (⟨0, 17, 20, 13⟩ : ExceptionTableEntry) [] (htab.trans rfl) (fun zz hz => absurd hz List.not_mem_nil) (by decide) (by decide) (hT.use (List.mem_of_getElem? (i := 666) (by decide +kernel)) rfl) (hT.use (List.mem_of_getElem? (i := 477) (by decide +kernel)) rfl) hce hcv hcl ?_
  refine lv_astore (lv' := [(4, .ref q9), (0, .ref (ad 0 0)), (1, .int x1), (2, .int x2), (3, .ref (A 13))]) hx hb dL_absent_20 hl (by decide) rfl (fun ls hl => ?_)
  refine lv_iconst (v := 1) hx hb dL_absent_22 (by decide) ?_
  refine W.widen (k := 1) (n := 6) (Nat.le_of_ble_eq_true rfl) (Nat.le_of_ble_eq_true rfl) ?_
  exact nb_wret hA hx hb hr hlocks hW hF.gc hS dL_absent_23
def R_teach (x1 x2 x3 k w9 w : Int32) : Prop := (∃ u9, f_X7_teach N0 u00 x1 x2 x3 = some (.error "java/lang/IndexOutOfBoundsException", u9) ∧ k = 1 ∧ w9 = w) ∨ (∃ u9, f_X7_teach N0 u00 x1 x2 x3 = some (.error "java/lang/IllegalArgumentException", u9) ∧ k = 2 ∧ w9 = w) ∨ (∃ u9, f_X7_teach N0 u00 x1 x2 x3 = some (.error "java/lang/IllegalStateException", u9) ∧ k = 3 ∧ w9 = w)
theorem mfw_teach : MFw yL_teach cL_teach 6 [(0, 12, 15, 13), (0, 12, 19, 21), (0, 12, 23, 15)] 5 := ⟨List.mem_of_getElem? (i := 840) (by decide +kernel), List.mem_of_getElem? (i := 60) (by decide +kernel), List.mem_of_getElem? (i := 841) (by decide +kernel), by decide +kernel, by decide +kernel, by decide +kernel⟩
set_option maxRecDepth 100000 in
set_option maxHeartbeats 4000000 in
theorem w_teach (l : Launch) (hfl : l.stackTraces = false) (z : Zt) (o : Ot) (ad : Ad) (X : Gt) (hA : Raw ad) (A : Nat → Nat) (w : Int32) (hF : FM z (GC z ad N0 X u00) A (mW w)) (x1 : Int32) (x2 : Int32) (x3 : Int32) {k w9 : Int32} (h : R_teach x1 x2 x3 k w9 w) : MW l z o yL_teach cL_teach 6 [(0, 12, 15, 13), (0, 12, 19, 21), (0, 12, 23, 15)] { frames := 8, cells := 1, slots := 6, locals := 127 } 1 6 [.ref (ad 0 0), .int x1, .int x2, .int x3, .ref (A 13)] ad (GC z ad N0 X u00) (MQw z A k w9) := by
  refine va_MetW (hh := [(0, 12, 15, 13), (0, 12, 19, 21), (0, 12, 23, 15)]) (cc := cL_teach) (maxL := 6) (ret := some .int) (by decide) rfl ?_
  intro p e s m args below meth c s₁ B hml hv
  obtain ⟨rfl, hSW, hSO, hW⟩ := hv
  have hx := B.exec; have hb := B.bytes; have hr := B.returns; have hlocks := B.notSynchronized
  have hown : s.vm.findClass RL = some m.cls := findClass_of_methodNamed B.named
  have htab : c.exceptionTable.toList = tableOf [(0, 12, 15, 13), (0, 12, 19, 21), (0, 12, 23, 15)] := vx_table (x := yL_teach) B (atoms_spec (ws := [Cond.codeWith yL_teach cL_teach 6 (some .int) [(0, 12, 15, 13), (0, 12, 19, 21), (0, 12, 23, 15)]]) B.pre _ List.mem_cons_self)
  obtain ⟨hT, hK, hST, hB0⟩ := id hSW
  have hS : va_S (zA z) s.heap s.heap [] := va_S.rf
  have hl := lv_entry ([.ref (ad 0 0), .int x1, .int x2, .int x3, .ref (A 13)]) (n := 6) (Nat.le_of_ble_eq_true rfl)
  rw [lg_entry_eq]
  generalize (lg_sl ([.ref (ad 0 0), .int x1, .int x2, .int x3, .ref (A 13)]) ++ List.replicate (6 - (lg_sl ([.ref (ad 0 0), .int x1, .int x2, .int x3, .ref (A 13)])).length) Slot.unset).toArray = ls at hl ⊢
  have hl : lv_has ls 6 [(0, .ref (ad 0 0)), (1, .int x1), (2, .int x2), (3, .int x3), (4, .ref (A 13))] := hl
  rcases h with ⟨u9, h, rfl, rfl⟩ | ⟨u9, h, rfl, rfl⟩ | ⟨u9, h, rfl, rfl⟩
  · refine lv_aload hx hb dL_teach_0 (lv_at hl 4 rfl) ?_
    refine lv_iconst (v := 0) hx hb dL_teach_2 (by decide) ?_
    refine lv_aload_n hx hb dL_teach_3 rfl (lv_at hl 0 rfl) ?_
    refine lv_iload_n hx hb dL_teach_4 rfl (lv_at hl 1 rfl) ?_
    refine lv_iload_n hx hb dL_teach_5 rfl (lv_at hl 2 rfl) ?_
    refine lv_iload_n hx hb dL_teach_6 rfl (lv_at hl 3 rfl) ?_
    refine nx_ci (nx_runV (As := [.int x1, .int x2, .int x3]) (rest := [.int 0, .ref (A 13)]) (kd := 0) (k := 0) hx hb hml hown hSW hS hW (cx_X7_teach l z ad N0 X u00 x1 x2 x3 hfl h) mf_X7_teach (List.mem_of_getElem? (i := 842) (by decide +kernel)) (by rfl) rfl rfl ⟨rfl, rfl⟩ ⟨Nat.le_of_ble_eq_true rfl, Nat.le_of_ble_eq_true rfl⟩ hl.1 (Nat.le_of_ble_eq_true rfl) dL_teach_7 ⟨Nat.le_of_ble_eq_true rfl, Nat.le_of_ble_eq_true rfl⟩) hS (fun ce q9 H locs hce hcv hcl hW hS => ?_)
    refine vx_catch (E := "java/lang/IndexOutOfBoundsException") (name := "java/lang/IndexOutOfBoundsException") hown [] (⟨0, 12, 15, 13⟩ : ExceptionTableEntry) [(⟨0, 12, 19, 21⟩ : ExceptionTableEntry), (⟨0, 12, 23, 15⟩ : ExceptionTableEntry)] (htab.trans rfl) (fun zz hz => absurd hz List.not_mem_nil) (by decide) (by decide) (hT.use (List.mem_of_getElem? (i := 666) (by decide +kernel)) rfl) (hT.use (List.mem_of_getElem? (i := 477) (by decide +kernel)) rfl) hce hcv hcl ?_
    refine lv_astore (lv' := [(5, .ref q9), (0, .ref (ad 0 0)), (1, .int x1), (2, .int x2), (3, .int x3), (4, .ref (A 13))]) hx hb dL_teach_15 hl (by decide) rfl (fun ls hl => ?_)
    refine lv_iconst (v := 1) hx hb dL_teach_17 (by decide) ?_
    refine W.widen (k := 1) (n := 6) (Nat.le_of_ble_eq_true rfl) (Nat.le_of_ble_eq_true rfl) ?_
    exact nb_wret hA hx hb hr hlocks hW hF.gc hS dL_teach_18
  · refine lv_aload hx hb dL_teach_0 (lv_at hl 4 rfl) ?_
    refine lv_iconst (v := 0) hx hb dL_teach_2 (by decide) ?_
    refine lv_aload_n hx hb dL_teach_3 rfl (lv_at hl 0 rfl) ?_
    refine lv_iload_n hx hb dL_teach_4 rfl (lv_at hl 1 rfl) ?_
    refine lv_iload_n hx hb dL_teach_5 rfl (lv_at hl 2 rfl) ?_
    refine lv_iload_n hx hb dL_teach_6 rfl (lv_at hl 3 rfl) ?_
    refine nx_ci (nx_runV (As := [.int x1, .int x2, .int x3]) (rest := [.int 0, .ref (A 13)]) (kd := 0) (k := 0) hx hb hml hown hSW hS hW (cx_X7_teach l z ad N0 X u00 x1 x2 x3 hfl h) mf_X7_teach (List.mem_of_getElem? (i := 842) (by decide +kernel)) (by rfl) rfl rfl ⟨rfl, rfl⟩ ⟨Nat.le_of_ble_eq_true rfl, Nat.le_of_ble_eq_true rfl⟩ hl.1 (Nat.le_of_ble_eq_true rfl) dL_teach_7 ⟨Nat.le_of_ble_eq_true rfl, Nat.le_of_ble_eq_true rfl⟩) hS (fun ce q9 H locs hce hcv hcl hW hS => ?_)
    refine vx_catch (E := "java/lang/IllegalArgumentException") (name := "java/lang/IllegalArgumentException") hown [(⟨0, 12, 15, 13⟩ : ExceptionTableEntry)] (⟨0, 12, 19, 21⟩ : ExceptionTableEntry) [(⟨0, 12, 23, 15⟩ : ExceptionTableEntry)] (htab.trans rfl) (fun zz hz => by rw [List.mem_singleton.mp hz]; exact Or.inr ⟨by decide, "java/lang/IndexOutOfBoundsException", hT.use (List.mem_of_getElem? (i := 666) (by decide +kernel)) rfl, hSO.2.2.2.2.2.2.2.1⟩) (by decide) (by decide) (hT.use (List.mem_of_getElem? (i := 680) (by decide +kernel)) rfl) (hT.use (List.mem_of_getElem? (i := 394) (by decide +kernel)) rfl) hce hcv hcl ?_
    refine lv_astore (lv' := [(5, .ref q9), (0, .ref (ad 0 0)), (1, .int x1), (2, .int x2), (3, .int x3), (4, .ref (A 13))]) hx hb dL_teach_19 hl (by decide) rfl (fun ls hl => ?_)
    refine lv_iconst (v := 2) hx hb dL_teach_21 (by decide) ?_
    refine W.widen (k := 1) (n := 6) (Nat.le_of_ble_eq_true rfl) (Nat.le_of_ble_eq_true rfl) ?_
    exact nb_wret hA hx hb hr hlocks hW hF.gc hS dL_teach_22
  · refine lv_aload hx hb dL_teach_0 (lv_at hl 4 rfl) ?_
    refine lv_iconst (v := 0) hx hb dL_teach_2 (by decide) ?_
    refine lv_aload_n hx hb dL_teach_3 rfl (lv_at hl 0 rfl) ?_
    refine lv_iload_n hx hb dL_teach_4 rfl (lv_at hl 1 rfl) ?_
    refine lv_iload_n hx hb dL_teach_5 rfl (lv_at hl 2 rfl) ?_
    refine lv_iload_n hx hb dL_teach_6 rfl (lv_at hl 3 rfl) ?_
    refine nx_ci (nx_runV (As := [.int x1, .int x2, .int x3]) (rest := [.int 0, .ref (A 13)]) (kd := 0) (k := 0) hx hb hml hown hSW hS hW (cx_X7_teach l z ad N0 X u00 x1 x2 x3 hfl h) mf_X7_teach (List.mem_of_getElem? (i := 842) (by decide +kernel)) (by rfl) rfl rfl ⟨rfl, rfl⟩ ⟨Nat.le_of_ble_eq_true rfl, Nat.le_of_ble_eq_true rfl⟩ hl.1 (Nat.le_of_ble_eq_true rfl) dL_teach_7 ⟨Nat.le_of_ble_eq_true rfl, Nat.le_of_ble_eq_true rfl⟩) hS (fun ce q9 H locs hce hcv hcl hW hS => ?_)
    refine vx_catch (E := "java/lang/IllegalStateException") (name := "java/lang/IllegalStateException") hown [(⟨0, 12, 15, 13⟩ : ExceptionTableEntry), (⟨0, 12, 19, 21⟩ : ExceptionTableEntry)] (⟨0, 12, 23, 15⟩ : ExceptionTableEntry) [] (htab.trans rfl) (fun zz hz => by
      rcases List.mem_cons.mp hz with rfl | hz
      · exact Or.inr ⟨by decide, "java/lang/IndexOutOfBoundsException", hT.use (List.mem_of_getElem? (i := 666) (by decide +kernel)) rfl, hSO.2.2.2.2.2.2.1⟩
      · rw [List.mem_singleton.mp hz]; exact Or.inr ⟨by decide, "java/lang/IllegalArgumentException", hT.use (List.mem_of_getElem? (i := 680) (by decide +kernel)) rfl, hSO.2.2.2.2.2.2.2.2⟩) (by decide) (by decide) (hT.use (List.mem_of_getElem? (i := 667) (by decide +kernel)) rfl) (hT.use (List.mem_of_getElem? (i := 640) (by decide +kernel)) rfl) hce hcv hcl ?_
    refine lv_astore (lv' := [(5, .ref q9), (0, .ref (ad 0 0)), (1, .int x1), (2, .int x2), (3, .int x3), (4, .ref (A 13))]) hx hb dL_teach_23 hl (by decide) rfl (fun ls hl => ?_)
    refine lv_iconst (v := 3) hx hb dL_teach_25 (by decide) ?_
    refine W.widen (k := 1) (n := 6) (Nat.le_of_ble_eq_true rfl) (Nat.le_of_ble_eq_true rfl) ?_
    exact nb_wret hA hx hb hr hlocks hW hF.gc hS dL_teach_26
def R_rehearse (x1 k w9 w : Int32) : Prop := (∃ u9, f_X7_rehearse N0 u00 x1 = some (.ok w9, u9) ∧ k = 0) ∨ (∃ u9, f_X7_rehearse N0 u00 x1 = some (.error "java/lang/IllegalArgumentException", u9) ∧ k = 1 ∧ w9 = w) ∨ (∃ u9, f_X7_rehearse N0 u00 x1 = some (.error "java/lang/IllegalStateException", u9) ∧ k = 2 ∧ w9 = w)
theorem mfw_rehearse : MFw yL_rehearse cL_rehearse 4 [(0, 9, 12, 21), (0, 9, 15, 15)] 3 := ⟨List.mem_of_getElem? (i := 850) (by decide +kernel), List.mem_of_getElem? (i := 60) (by decide +kernel), List.mem_of_getElem? (i := 851) (by decide +kernel), by decide +kernel, by decide +kernel, by decide +kernel⟩
set_option maxRecDepth 100000 in
set_option maxHeartbeats 4000000 in
theorem w_rehearse (l : Launch) (hfl : l.stackTraces = false) (z : Zt) (o : Ot) (ad : Ad) (X : Gt) (hA : Raw ad) (A : Nat → Nat) (w : Int32) (hF : FM z (GC z ad N0 X u00) A (mW w)) (x1 : Int32) {k w9 : Int32} (h : R_rehearse x1 k w9 w) : MW l z o yL_rehearse cL_rehearse 4 [(0, 9, 12, 21), (0, 9, 15, 15)] { frames := 7, cells := 1, slots := 6, locals := 117 } 1 6 [.ref (ad 0 0), .int x1, .ref (A 13)] ad (GC z ad N0 X u00) (MQw z A k w9) := by
  refine va_MetW (hh := [(0, 9, 12, 21), (0, 9, 15, 15)]) (cc := cL_rehearse) (maxL := 4) (ret := some .int) (by decide) rfl ?_
  intro p e s m args below meth c s₁ B hml hv
  obtain ⟨rfl, hSW, hSO, hW⟩ := hv
  have hx := B.exec; have hb := B.bytes; have hr := B.returns; have hlocks := B.notSynchronized
  have hown : s.vm.findClass RL = some m.cls := findClass_of_methodNamed B.named
  have htab : c.exceptionTable.toList = tableOf [(0, 9, 12, 21), (0, 9, 15, 15)] := vx_table (x := yL_rehearse) B (atoms_spec (ws := [Cond.codeWith yL_rehearse cL_rehearse 4 (some .int) [(0, 9, 12, 21), (0, 9, 15, 15)]]) B.pre _ List.mem_cons_self)
  obtain ⟨hT, hK, hST, hB0⟩ := id hSW
  have hS : va_S (zA z) s.heap s.heap [] := va_S.rf
  have hl := lv_entry ([.ref (ad 0 0), .int x1, .ref (A 13)]) (n := 4) (Nat.le_of_ble_eq_true rfl)
  rw [lg_entry_eq]
  generalize (lg_sl ([.ref (ad 0 0), .int x1, .ref (A 13)]) ++ List.replicate (4 - (lg_sl ([.ref (ad 0 0), .int x1, .ref (A 13)])).length) Slot.unset).toArray = ls at hl ⊢
  have hl : lv_has ls 4 [(0, .ref (ad 0 0)), (1, .int x1), (2, .ref (A 13))] := hl
  rcases h with ⟨u9, h, rfl⟩ | ⟨u9, h, rfl, rfl⟩ | ⟨u9, h, rfl, rfl⟩
  · refine lv_aload_n hx hb dL_rehearse_0 rfl (lv_at hl 2 rfl) ?_
    refine lv_iconst (v := 0) hx hb dL_rehearse_1 (by decide) ?_
    refine lv_aload_n hx hb dL_rehearse_2 rfl (lv_at hl 0 rfl) ?_
    refine lv_iload_n hx hb dL_rehearse_3 rfl (lv_at hl 1 rfl) ?_
    refine nb_ci (nb_runV (As := [.int x1]) (rest := [.int 0, .ref (A 13)]) (kd := 0) (k := 0) hx hb hml hown hSW hS hW (c_X7_rehearse l z ad N0 X u00 x1 h) mf_X7_rehearse (Or.inl (List.mem_of_getElem? (i := 852) (by decide +kernel))) (by rfl) rfl rfl ⟨rfl, rfl⟩ ⟨Nat.le_of_ble_eq_true rfl, Nat.le_of_ble_eq_true rfl⟩ hl.1 (Nat.le_of_ble_eq_true rfl) dL_rehearse_4 ⟨Nat.le_of_ble_eq_true rfl, Nat.le_of_ble_eq_true rfl⟩) hS (fun H locs hW hS => ?_)
    refine lv_i2l hx hb dL_rehearse_7 rfl ?_
    refine nb_out hA hx hb hK hW hS (hF.gc) rfl dL_rehearse_8 (fun H locs G9 hF9 hW hS => ?_)
    refine lv_goto (tgt := 18) hx hb dL_rehearse_9 (by decide) ?_
    refine lv_iconst (v := 0) hx hb dL_rehearse_18 (by decide) ?_
    refine W.widen (k := 1) (n := 6) (Nat.le_of_ble_eq_true rfl) (Nat.le_of_ble_eq_true rfl) ?_
    exact nb_wret hA hx hb hr hlocks hW hF9 hS dL_rehearse_19
  · refine lv_aload_n hx hb dL_rehearse_0 rfl (lv_at hl 2 rfl) ?_
    refine lv_iconst (v := 0) hx hb dL_rehearse_1 (by decide) ?_
    refine lv_aload_n hx hb dL_rehearse_2 rfl (lv_at hl 0 rfl) ?_
    refine lv_iload_n hx hb dL_rehearse_3 rfl (lv_at hl 1 rfl) ?_
    refine nx_ci (nx_runV (As := [.int x1]) (rest := [.int 0, .ref (A 13)]) (kd := 0) (k := 0) hx hb hml hown hSW hS hW (cx_X7_rehearse l z ad N0 X u00 x1 hfl h) mf_X7_rehearse (List.mem_of_getElem? (i := 852) (by decide +kernel)) (by rfl) rfl rfl ⟨rfl, rfl⟩ ⟨Nat.le_of_ble_eq_true rfl, Nat.le_of_ble_eq_true rfl⟩ hl.1 (Nat.le_of_ble_eq_true rfl) dL_rehearse_4 ⟨Nat.le_of_ble_eq_true rfl, Nat.le_of_ble_eq_true rfl⟩) hS (fun ce q9 H locs hce hcv hcl hW hS => ?_)
    refine vx_catch (E := "java/lang/IllegalArgumentException") (name := "java/lang/IllegalArgumentException") hown [] (⟨0, 9, 12, 21⟩ : ExceptionTableEntry) [(⟨0, 9, 15, 15⟩ : ExceptionTableEntry)] (htab.trans rfl) (fun zz hz => absurd hz List.not_mem_nil) (by decide) (by decide) (hT.use (List.mem_of_getElem? (i := 680) (by decide +kernel)) rfl) (hT.use (List.mem_of_getElem? (i := 394) (by decide +kernel)) rfl) hce hcv hcl ?_
    refine lv_astore_n (lv' := [(3, .ref q9), (0, .ref (ad 0 0)), (1, .int x1), (2, .ref (A 13))]) hx hb dL_rehearse_12 rfl hl (by decide) rfl (fun ls hl => ?_)
    refine lv_iconst (v := 1) hx hb dL_rehearse_13 (by decide) ?_
    refine W.widen (k := 1) (n := 6) (Nat.le_of_ble_eq_true rfl) (Nat.le_of_ble_eq_true rfl) ?_
    exact nb_wret hA hx hb hr hlocks hW hF.gc hS dL_rehearse_14
  · refine lv_aload_n hx hb dL_rehearse_0 rfl (lv_at hl 2 rfl) ?_
    refine lv_iconst (v := 0) hx hb dL_rehearse_1 (by decide) ?_
    refine lv_aload_n hx hb dL_rehearse_2 rfl (lv_at hl 0 rfl) ?_
    refine lv_iload_n hx hb dL_rehearse_3 rfl (lv_at hl 1 rfl) ?_
    refine nx_ci (nx_runV (As := [.int x1]) (rest := [.int 0, .ref (A 13)]) (kd := 0) (k := 0) hx hb hml hown hSW hS hW (cx_X7_rehearse l z ad N0 X u00 x1 hfl h) mf_X7_rehearse (List.mem_of_getElem? (i := 852) (by decide +kernel)) (by rfl) rfl rfl ⟨rfl, rfl⟩ ⟨Nat.le_of_ble_eq_true rfl, Nat.le_of_ble_eq_true rfl⟩ hl.1 (Nat.le_of_ble_eq_true rfl) dL_rehearse_4 ⟨Nat.le_of_ble_eq_true rfl, Nat.le_of_ble_eq_true rfl⟩) hS (fun ce q9 H locs hce hcv hcl hW hS => ?_)
    refine vx_catch (E := "java/lang/IllegalStateException") (name := "java/lang/IllegalStateException") hown [(⟨0, 9, 12, 21⟩ : ExceptionTableEntry)] (⟨0, 9, 15, 15⟩ : ExceptionTableEntry) [] (htab.trans rfl) (fun zz hz => by rw [List.mem_singleton.mp hz]; exact Or.inr ⟨by decide, "java/lang/IllegalArgumentException", hT.use (List.mem_of_getElem? (i := 680) (by decide +kernel)) rfl, hSO.2.2.2.2.2.2.2.2⟩) (by decide) (by decide) (hT.use (List.mem_of_getElem? (i := 667) (by decide +kernel)) rfl) (hT.use (List.mem_of_getElem? (i := 640) (by decide +kernel)) rfl) hce hcv hcl ?_
    refine lv_astore_n (lv' := [(3, .ref q9), (0, .ref (ad 0 0)), (1, .int x1), (2, .ref (A 13))]) hx hb dL_rehearse_15 rfl hl (by decide) rfl (fun ls hl => ?_)
    refine lv_iconst (v := 2) hx hb dL_rehearse_16 (by decide) ?_
    refine W.widen (k := 1) (n := 6) (Nat.le_of_ble_eq_true rfl) (Nat.le_of_ble_eq_true rfl) ?_
    exact nb_wret hA hx hb hr hlocks hW hF.gc hS dL_rehearse_17
def R_pass (x1 x2 x3 k w9 w : Int32) : Prop := (∃ u9, f_X7_pass N0 u00 x1 x2 x3 = some (.ok w9, u9) ∧ k = 0) ∨ (∃ u9, f_X7_pass N0 u00 x1 x2 x3 = some (.error "java/lang/IllegalArgumentException", u9) ∧ k = 1 ∧ w9 = w)
theorem mfw_pass : MFw yL_pass cL_pass 6 [(0, 12, 15, 21)] 5 := ⟨List.mem_of_getElem? (i := 867) (by decide +kernel), List.mem_of_getElem? (i := 60) (by decide +kernel), List.mem_of_getElem? (i := 868) (by decide +kernel), by decide +kernel, by decide +kernel, by decide +kernel⟩
set_option maxRecDepth 100000 in
set_option maxHeartbeats 4000000 in
theorem w_pass (l : Launch) (hfl : l.stackTraces = false) (z : Zt) (o : Ot) (ad : Ad) (X : Gt) (hA : Raw ad) (A : Nat → Nat) (w : Int32) (hF : FM z (GC z ad N0 X u00) A (mW w)) (x1 : Int32) (x2 : Int32) (x3 : Int32) {k w9 : Int32} (h : R_pass x1 x2 x3 k w9 w) : MW l z o yL_pass cL_pass 6 [(0, 12, 15, 21)] { frames := 7, cells := 1, slots := 6, locals := 112 } 1 6 [.ref (ad 0 0), .int x1, .int x2, .int x3, .ref (A 13)] ad (GC z ad N0 X u00) (MQw z A k w9) := by
  refine va_MetW (hh := [(0, 12, 15, 21)]) (cc := cL_pass) (maxL := 6) (ret := some .int) (by decide) rfl ?_
  intro p e s m args below meth c s₁ B hml hv
  obtain ⟨rfl, hSW, hSO, hW⟩ := hv
  have hx := B.exec; have hb := B.bytes; have hr := B.returns; have hlocks := B.notSynchronized
  have hown : s.vm.findClass RL = some m.cls := findClass_of_methodNamed B.named
  have htab : c.exceptionTable.toList = tableOf [(0, 12, 15, 21)] := vx_table (x := yL_pass) B (atoms_spec (ws := [Cond.codeWith yL_pass cL_pass 6 (some .int) [(0, 12, 15, 21)]]) B.pre _ List.mem_cons_self)
  obtain ⟨hT, hK, hST, hB0⟩ := id hSW
  have hS : va_S (zA z) s.heap s.heap [] := va_S.rf
  have hl := lv_entry ([.ref (ad 0 0), .int x1, .int x2, .int x3, .ref (A 13)]) (n := 6) (Nat.le_of_ble_eq_true rfl)
  rw [lg_entry_eq]
  generalize (lg_sl ([.ref (ad 0 0), .int x1, .int x2, .int x3, .ref (A 13)]) ++ List.replicate (6 - (lg_sl ([.ref (ad 0 0), .int x1, .int x2, .int x3, .ref (A 13)])).length) Slot.unset).toArray = ls at hl ⊢
  have hl : lv_has ls 6 [(0, .ref (ad 0 0)), (1, .int x1), (2, .int x2), (3, .int x3), (4, .ref (A 13))] := hl
  rcases h with ⟨u9, h, rfl⟩ | ⟨u9, h, rfl, rfl⟩
  · refine lv_aload hx hb dL_pass_0 (lv_at hl 4 rfl) ?_
    refine lv_iconst (v := 0) hx hb dL_pass_2 (by decide) ?_
    refine lv_aload_n hx hb dL_pass_3 rfl (lv_at hl 0 rfl) ?_
    refine lv_iload_n hx hb dL_pass_4 rfl (lv_at hl 1 rfl) ?_
    refine lv_iload_n hx hb dL_pass_5 rfl (lv_at hl 2 rfl) ?_
    refine lv_iload_n hx hb dL_pass_6 rfl (lv_at hl 3 rfl) ?_
    refine nb_ci (nb_runV (As := [.int x1, .int x2, .int x3]) (rest := [.int 0, .ref (A 13)]) (kd := 0) (k := 0) hx hb hml hown hSW hS hW (c_X7_pass l z ad N0 X u00 x1 x2 x3 h) mf_X7_pass (Or.inl (List.mem_of_getElem? (i := 869) (by decide +kernel))) (by rfl) rfl rfl ⟨rfl, rfl⟩ ⟨Nat.le_of_ble_eq_true rfl, Nat.le_of_ble_eq_true rfl⟩ hl.1 (Nat.le_of_ble_eq_true rfl) dL_pass_7 ⟨Nat.le_of_ble_eq_true rfl, Nat.le_of_ble_eq_true rfl⟩) hS (fun H locs hW hS => ?_)
    refine lv_i2l hx hb dL_pass_10 rfl ?_
    refine nb_out hA hx hb hK hW hS (hF.gc) rfl dL_pass_11 (fun H locs G9 hF9 hW hS => ?_)
    refine lv_goto (tgt := 19) hx hb dL_pass_12 (by decide) ?_
    refine lv_iconst (v := 0) hx hb dL_pass_19 (by decide) ?_
    refine W.widen (k := 1) (n := 6) (Nat.le_of_ble_eq_true rfl) (Nat.le_of_ble_eq_true rfl) ?_
    exact nb_wret hA hx hb hr hlocks hW hF9 hS dL_pass_20
  · refine lv_aload hx hb dL_pass_0 (lv_at hl 4 rfl) ?_
    refine lv_iconst (v := 0) hx hb dL_pass_2 (by decide) ?_
    refine lv_aload_n hx hb dL_pass_3 rfl (lv_at hl 0 rfl) ?_
    refine lv_iload_n hx hb dL_pass_4 rfl (lv_at hl 1 rfl) ?_
    refine lv_iload_n hx hb dL_pass_5 rfl (lv_at hl 2 rfl) ?_
    refine lv_iload_n hx hb dL_pass_6 rfl (lv_at hl 3 rfl) ?_
    refine nx_ci (nx_runV (As := [.int x1, .int x2, .int x3]) (rest := [.int 0, .ref (A 13)]) (kd := 0) (k := 0) hx hb hml hown hSW hS hW (cx_X7_pass l z ad N0 X u00 x1 x2 x3 hfl h) mf_X7_pass (List.mem_of_getElem? (i := 869) (by decide +kernel)) (by rfl) rfl rfl ⟨rfl, rfl⟩ ⟨Nat.le_of_ble_eq_true rfl, Nat.le_of_ble_eq_true rfl⟩ hl.1 (Nat.le_of_ble_eq_true rfl) dL_pass_7 ⟨Nat.le_of_ble_eq_true rfl, Nat.le_of_ble_eq_true rfl⟩) hS (fun ce q9 H locs hce hcv hcl hW hS => ?_)
    refine vx_catch (E := "java/lang/IllegalArgumentException") (name := "java/lang/IllegalArgumentException") hown [] (⟨0, 12, 15, 21⟩ : ExceptionTableEntry) [] (htab.trans rfl) (fun zz hz => absurd hz List.not_mem_nil) (by decide) (by decide) (hT.use (List.mem_of_getElem? (i := 680) (by decide +kernel)) rfl) (hT.use (List.mem_of_getElem? (i := 394) (by decide +kernel)) rfl) hce hcv hcl ?_
    refine lv_astore (lv' := [(5, .ref q9), (0, .ref (ad 0 0)), (1, .int x1), (2, .int x2), (3, .int x3), (4, .ref (A 13))]) hx hb dL_pass_15 hl (by decide) rfl (fun ls hl => ?_)
    refine lv_iconst (v := 1) hx hb dL_pass_17 (by decide) ?_
    refine W.widen (k := 1) (n := 6) (Nat.le_of_ble_eq_true rfl) (Nat.le_of_ble_eq_true rfl) ?_
    exact nb_wret hA hx hb hr hlocks hW hF.gc hS dL_pass_18
def R_sponsor (x1 k w9 w : Int32) : Prop := (∃ u9, f_X7_sponsor N0 u00 x1 = some (.ok w9, u9) ∧ k = 0) ∨ (∃ u9, f_X7_sponsor N0 u00 x1 = some (.error "java/lang/IllegalArgumentException", u9) ∧ k = 1 ∧ w9 = w)
theorem mfw_sponsor : MFw yL_sponsor cL_sponsor 4 [(0, 9, 12, 21)] 3 := ⟨List.mem_of_getElem? (i := 888) (by decide +kernel), List.mem_of_getElem? (i := 60) (by decide +kernel), List.mem_of_getElem? (i := 889) (by decide +kernel), by decide +kernel, by decide +kernel, by decide +kernel⟩
set_option maxRecDepth 100000 in
set_option maxHeartbeats 4000000 in
theorem w_sponsor (l : Launch) (hfl : l.stackTraces = false) (z : Zt) (o : Ot) (ad : Ad) (X : Gt) (hA : Raw ad) (A : Nat → Nat) (w : Int32) (hF : FM z (GC z ad N0 X u00) A (mW w)) (x1 : Int32) {k w9 : Int32} (h : R_sponsor x1 k w9 w) : MW l z o yL_sponsor cL_sponsor 4 [(0, 9, 12, 21)] { frames := 7, cells := 1, slots := 6, locals := 103 } 1 6 [.ref (ad 0 0), .int x1, .ref (A 13)] ad (GC z ad N0 X u00) (MQw z A k w9) := by
  refine va_MetW (hh := [(0, 9, 12, 21)]) (cc := cL_sponsor) (maxL := 4) (ret := some .int) (by decide) rfl ?_
  intro p e s m args below meth c s₁ B hml hv
  obtain ⟨rfl, hSW, hSO, hW⟩ := hv
  have hx := B.exec; have hb := B.bytes; have hr := B.returns; have hlocks := B.notSynchronized
  have hown : s.vm.findClass RL = some m.cls := findClass_of_methodNamed B.named
  have htab : c.exceptionTable.toList = tableOf [(0, 9, 12, 21)] := vx_table (x := yL_sponsor) B (atoms_spec (ws := [Cond.codeWith yL_sponsor cL_sponsor 4 (some .int) [(0, 9, 12, 21)]]) B.pre _ List.mem_cons_self)
  obtain ⟨hT, hK, hST, hB0⟩ := id hSW
  have hS : va_S (zA z) s.heap s.heap [] := va_S.rf
  have hl := lv_entry ([.ref (ad 0 0), .int x1, .ref (A 13)]) (n := 4) (Nat.le_of_ble_eq_true rfl)
  rw [lg_entry_eq]
  generalize (lg_sl ([.ref (ad 0 0), .int x1, .ref (A 13)]) ++ List.replicate (4 - (lg_sl ([.ref (ad 0 0), .int x1, .ref (A 13)])).length) Slot.unset).toArray = ls at hl ⊢
  have hl : lv_has ls 4 [(0, .ref (ad 0 0)), (1, .int x1), (2, .ref (A 13))] := hl
  rcases h with ⟨u9, h, rfl⟩ | ⟨u9, h, rfl, rfl⟩
  · refine lv_aload_n hx hb dL_sponsor_0 rfl (lv_at hl 2 rfl) ?_
    refine lv_iconst (v := 0) hx hb dL_sponsor_1 (by decide) ?_
    refine lv_aload_n hx hb dL_sponsor_2 rfl (lv_at hl 0 rfl) ?_
    refine lv_iload_n hx hb dL_sponsor_3 rfl (lv_at hl 1 rfl) ?_
    refine nb_ci (nb_runV (As := [.int x1]) (rest := [.int 0, .ref (A 13)]) (kd := 0) (k := 0) hx hb hml hown hSW hS hW (c_X7_sponsor l z ad N0 X u00 x1 h) mf_X7_sponsor (Or.inl (List.mem_of_getElem? (i := 890) (by decide +kernel))) (by rfl) rfl rfl ⟨rfl, rfl⟩ ⟨Nat.le_of_ble_eq_true rfl, Nat.le_of_ble_eq_true rfl⟩ hl.1 (Nat.le_of_ble_eq_true rfl) dL_sponsor_4 ⟨Nat.le_of_ble_eq_true rfl, Nat.le_of_ble_eq_true rfl⟩) hS (fun H locs hW hS => ?_)
    refine lv_i2l hx hb dL_sponsor_7 rfl ?_
    refine nb_out hA hx hb hK hW hS (hF.gc) rfl dL_sponsor_8 (fun H locs G9 hF9 hW hS => ?_)
    refine lv_goto (tgt := 15) hx hb dL_sponsor_9 (by decide) ?_
    refine lv_iconst (v := 0) hx hb dL_sponsor_15 (by decide) ?_
    refine W.widen (k := 1) (n := 6) (Nat.le_of_ble_eq_true rfl) (Nat.le_of_ble_eq_true rfl) ?_
    exact nb_wret hA hx hb hr hlocks hW hF9 hS dL_sponsor_16
  · refine lv_aload_n hx hb dL_sponsor_0 rfl (lv_at hl 2 rfl) ?_
    refine lv_iconst (v := 0) hx hb dL_sponsor_1 (by decide) ?_
    refine lv_aload_n hx hb dL_sponsor_2 rfl (lv_at hl 0 rfl) ?_
    refine lv_iload_n hx hb dL_sponsor_3 rfl (lv_at hl 1 rfl) ?_
    refine nx_ci (nx_runV (As := [.int x1]) (rest := [.int 0, .ref (A 13)]) (kd := 0) (k := 0) hx hb hml hown hSW hS hW (cx_X7_sponsor l z ad N0 X u00 x1 hfl h) mf_X7_sponsor (List.mem_of_getElem? (i := 890) (by decide +kernel)) (by rfl) rfl rfl ⟨rfl, rfl⟩ ⟨Nat.le_of_ble_eq_true rfl, Nat.le_of_ble_eq_true rfl⟩ hl.1 (Nat.le_of_ble_eq_true rfl) dL_sponsor_4 ⟨Nat.le_of_ble_eq_true rfl, Nat.le_of_ble_eq_true rfl⟩) hS (fun ce q9 H locs hce hcv hcl hW hS => ?_)
    refine vx_catch (E := "java/lang/IllegalArgumentException") (name := "java/lang/IllegalArgumentException") hown [] (⟨0, 9, 12, 21⟩ : ExceptionTableEntry) [] (htab.trans rfl) (fun zz hz => absurd hz List.not_mem_nil) (by decide) (by decide) (hT.use (List.mem_of_getElem? (i := 680) (by decide +kernel)) rfl) (hT.use (List.mem_of_getElem? (i := 394) (by decide +kernel)) rfl) hce hcv hcl ?_
    refine lv_astore_n (lv' := [(3, .ref q9), (0, .ref (ad 0 0)), (1, .int x1), (2, .ref (A 13))]) hx hb dL_sponsor_12 rfl hl (by decide) rfl (fun ls hl => ?_)
    refine lv_iconst (v := 1) hx hb dL_sponsor_13 (by decide) ?_
    refine W.widen (k := 1) (n := 6) (Nat.le_of_ble_eq_true rfl) (Nat.le_of_ble_eq_true rfl) ?_
    exact nb_wret hA hx hb hr hlocks hW hF.gc hS dL_sponsor_14
def R_rival (x1 k w9 w : Int32) : Prop := (∃ u9, f_X7_rival N0 u00 x1 = some (.ok w9, u9) ∧ k = 0) ∨ (∃ u9, f_X7_rival N0 u00 x1 = some (.error "java/lang/IllegalArgumentException", u9) ∧ k = 1 ∧ w9 = w) ∨ (∃ u9, f_X7_rival N0 u00 x1 = some (.error "java/lang/IllegalStateException", u9) ∧ k = 2 ∧ w9 = w)
theorem mfw_rival : MFw yL_rival cL_rival 4 [(0, 9, 12, 21), (0, 9, 15, 15)] 3 := ⟨List.mem_of_getElem? (i := 896) (by decide +kernel), List.mem_of_getElem? (i := 60) (by decide +kernel), List.mem_of_getElem? (i := 897) (by decide +kernel), by decide +kernel, by decide +kernel, by decide +kernel⟩
set_option maxRecDepth 100000 in
set_option maxHeartbeats 4000000 in
theorem w_rival (l : Launch) (hfl : l.stackTraces = false) (z : Zt) (o : Ot) (ad : Ad) (X : Gt) (hA : Raw ad) (A : Nat → Nat) (w : Int32) (hF : FM z (GC z ad N0 X u00) A (mW w)) (x1 : Int32) {k w9 : Int32} (h : R_rival x1 k w9 w) : MW l z o yL_rival cL_rival 4 [(0, 9, 12, 21), (0, 9, 15, 15)] { frames := 7, cells := 1, slots := 6, locals := 104 } 1 6 [.ref (ad 0 0), .int x1, .ref (A 13)] ad (GC z ad N0 X u00) (MQw z A k w9) := by
  refine va_MetW (hh := [(0, 9, 12, 21), (0, 9, 15, 15)]) (cc := cL_rival) (maxL := 4) (ret := some .int) (by decide) rfl ?_
  intro p e s m args below meth c s₁ B hml hv
  obtain ⟨rfl, hSW, hSO, hW⟩ := hv
  have hx := B.exec; have hb := B.bytes; have hr := B.returns; have hlocks := B.notSynchronized
  have hown : s.vm.findClass RL = some m.cls := findClass_of_methodNamed B.named
  have htab : c.exceptionTable.toList = tableOf [(0, 9, 12, 21), (0, 9, 15, 15)] := vx_table (x := yL_rival) B (atoms_spec (ws := [Cond.codeWith yL_rival cL_rival 4 (some .int) [(0, 9, 12, 21), (0, 9, 15, 15)]]) B.pre _ List.mem_cons_self)
  obtain ⟨hT, hK, hST, hB0⟩ := id hSW
  have hS : va_S (zA z) s.heap s.heap [] := va_S.rf
  have hl := lv_entry ([.ref (ad 0 0), .int x1, .ref (A 13)]) (n := 4) (Nat.le_of_ble_eq_true rfl)
  rw [lg_entry_eq]
  generalize (lg_sl ([.ref (ad 0 0), .int x1, .ref (A 13)]) ++ List.replicate (4 - (lg_sl ([.ref (ad 0 0), .int x1, .ref (A 13)])).length) Slot.unset).toArray = ls at hl ⊢
  have hl : lv_has ls 4 [(0, .ref (ad 0 0)), (1, .int x1), (2, .ref (A 13))] := hl
  rcases h with ⟨u9, h, rfl⟩ | ⟨u9, h, rfl, rfl⟩ | ⟨u9, h, rfl, rfl⟩
  · refine lv_aload_n hx hb dL_rival_0 rfl (lv_at hl 2 rfl) ?_
    refine lv_iconst (v := 0) hx hb dL_rival_1 (by decide) ?_
    refine lv_aload_n hx hb dL_rival_2 rfl (lv_at hl 0 rfl) ?_
    refine lv_iload_n hx hb dL_rival_3 rfl (lv_at hl 1 rfl) ?_
    refine nb_ci (nb_runV (As := [.int x1]) (rest := [.int 0, .ref (A 13)]) (kd := 0) (k := 0) hx hb hml hown hSW hS hW (c_X7_rival l z ad N0 X u00 x1 h) mf_X7_rival (Or.inl (List.mem_of_getElem? (i := 898) (by decide +kernel))) (by rfl) rfl rfl ⟨rfl, rfl⟩ ⟨Nat.le_of_ble_eq_true rfl, Nat.le_of_ble_eq_true rfl⟩ hl.1 (Nat.le_of_ble_eq_true rfl) dL_rival_4 ⟨Nat.le_of_ble_eq_true rfl, Nat.le_of_ble_eq_true rfl⟩) hS (fun H locs hW hS => ?_)
    refine lv_i2l hx hb dL_rival_7 rfl ?_
    refine nb_out hA hx hb hK hW hS (hF.gc) rfl dL_rival_8 (fun H locs G9 hF9 hW hS => ?_)
    refine lv_goto (tgt := 18) hx hb dL_rival_9 (by decide) ?_
    refine lv_iconst (v := 0) hx hb dL_rival_18 (by decide) ?_
    refine W.widen (k := 1) (n := 6) (Nat.le_of_ble_eq_true rfl) (Nat.le_of_ble_eq_true rfl) ?_
    exact nb_wret hA hx hb hr hlocks hW hF9 hS dL_rival_19
  · refine lv_aload_n hx hb dL_rival_0 rfl (lv_at hl 2 rfl) ?_
    refine lv_iconst (v := 0) hx hb dL_rival_1 (by decide) ?_
    refine lv_aload_n hx hb dL_rival_2 rfl (lv_at hl 0 rfl) ?_
    refine lv_iload_n hx hb dL_rival_3 rfl (lv_at hl 1 rfl) ?_
    refine nx_ci (nx_runV (As := [.int x1]) (rest := [.int 0, .ref (A 13)]) (kd := 0) (k := 0) hx hb hml hown hSW hS hW (cx_X7_rival l z ad N0 X u00 x1 hfl h) mf_X7_rival (List.mem_of_getElem? (i := 898) (by decide +kernel)) (by rfl) rfl rfl ⟨rfl, rfl⟩ ⟨Nat.le_of_ble_eq_true rfl, Nat.le_of_ble_eq_true rfl⟩ hl.1 (Nat.le_of_ble_eq_true rfl) dL_rival_4 ⟨Nat.le_of_ble_eq_true rfl, Nat.le_of_ble_eq_true rfl⟩) hS (fun ce q9 H locs hce hcv hcl hW hS => ?_)
    refine vx_catch (E := "java/lang/IllegalArgumentException") (name := "java/lang/IllegalArgumentException") hown [] (⟨0, 9, 12, 21⟩ : ExceptionTableEntry) [(⟨0, 9, 15, 15⟩ : ExceptionTableEntry)] (htab.trans rfl) (fun zz hz => absurd hz List.not_mem_nil) (by decide) (by decide) (hT.use (List.mem_of_getElem? (i := 680) (by decide +kernel)) rfl) (hT.use (List.mem_of_getElem? (i := 394) (by decide +kernel)) rfl) hce hcv hcl ?_
    refine lv_astore_n (lv' := [(3, .ref q9), (0, .ref (ad 0 0)), (1, .int x1), (2, .ref (A 13))]) hx hb dL_rival_12 rfl hl (by decide) rfl (fun ls hl => ?_)
    refine lv_iconst (v := 1) hx hb dL_rival_13 (by decide) ?_
    refine W.widen (k := 1) (n := 6) (Nat.le_of_ble_eq_true rfl) (Nat.le_of_ble_eq_true rfl) ?_
    exact nb_wret hA hx hb hr hlocks hW hF.gc hS dL_rival_14
  · refine lv_aload_n hx hb dL_rival_0 rfl (lv_at hl 2 rfl) ?_
    refine lv_iconst (v := 0) hx hb dL_rival_1 (by decide) ?_
    refine lv_aload_n hx hb dL_rival_2 rfl (lv_at hl 0 rfl) ?_
    refine lv_iload_n hx hb dL_rival_3 rfl (lv_at hl 1 rfl) ?_
    refine nx_ci (nx_runV (As := [.int x1]) (rest := [.int 0, .ref (A 13)]) (kd := 0) (k := 0) hx hb hml hown hSW hS hW (cx_X7_rival l z ad N0 X u00 x1 hfl h) mf_X7_rival (List.mem_of_getElem? (i := 898) (by decide +kernel)) (by rfl) rfl rfl ⟨rfl, rfl⟩ ⟨Nat.le_of_ble_eq_true rfl, Nat.le_of_ble_eq_true rfl⟩ hl.1 (Nat.le_of_ble_eq_true rfl) dL_rival_4 ⟨Nat.le_of_ble_eq_true rfl, Nat.le_of_ble_eq_true rfl⟩) hS (fun ce q9 H locs hce hcv hcl hW hS => ?_)
    refine vx_catch (E := "java/lang/IllegalStateException") (name := "java/lang/IllegalStateException") hown [(⟨0, 9, 12, 21⟩ : ExceptionTableEntry)] (⟨0, 9, 15, 15⟩ : ExceptionTableEntry) [] (htab.trans rfl) (fun zz hz => by rw [List.mem_singleton.mp hz]; exact Or.inr ⟨by decide, "java/lang/IllegalArgumentException", hT.use (List.mem_of_getElem? (i := 680) (by decide +kernel)) rfl, hSO.2.2.2.2.2.2.2.2⟩) (by decide) (by decide) (hT.use (List.mem_of_getElem? (i := 667) (by decide +kernel)) rfl) (hT.use (List.mem_of_getElem? (i := 640) (by decide +kernel)) rfl) hce hcv hcl ?_
    refine lv_astore_n (lv' := [(3, .ref q9), (0, .ref (ad 0 0)), (1, .int x1), (2, .ref (A 13))]) hx hb dL_rival_15 rfl hl (by decide) rfl (fun ls hl => ?_)
    refine lv_iconst (v := 2) hx hb dL_rival_16 (by decide) ?_
    refine W.widen (k := 1) (n := 6) (Nat.le_of_ble_eq_true rfl) (Nat.le_of_ble_eq_true rfl) ?_
    exact nb_wret hA hx hb hr hlocks hW hF.gc hS dL_rival_17
def R_lean (x1 x2 k w9 w : Int32) : Prop := (∃ u9, f_X7_lean N0 u00 x1 x2 = some (.ok w9, u9) ∧ k = 0) ∨ (∃ u9, f_X7_lean N0 u00 x1 x2 = some (.error "java/lang/IndexOutOfBoundsException", u9) ∧ k = 1 ∧ w9 = w) ∨ (∃ u9, f_X7_lean N0 u00 x1 x2 = some (.error "java/lang/IllegalArgumentException", u9) ∧ k = 2 ∧ w9 = w)
theorem mfw_lean : MFw yL_lean cL_lean 5 [(0, 10, 13, 13), (0, 10, 17, 21)] 4 := ⟨List.mem_of_getElem? (i := 905) (by decide +kernel), List.mem_of_getElem? (i := 60) (by decide +kernel), List.mem_of_getElem? (i := 906) (by decide +kernel), by decide +kernel, by decide +kernel, by decide +kernel⟩
set_option maxRecDepth 100000 in
set_option maxHeartbeats 4000000 in
theorem w_lean (l : Launch) (hfl : l.stackTraces = false) (z : Zt) (o : Ot) (ad : Ad) (X : Gt) (hA : Raw ad) (A : Nat → Nat) (w : Int32) (hF : FM z (GC z ad N0 X u00) A (mW w)) (x1 : Int32) (x2 : Int32) {k w9 : Int32} (h : R_lean x1 x2 k w9 w) : MW l z o yL_lean cL_lean 5 [(0, 10, 13, 13), (0, 10, 17, 21)] { frames := 7, cells := 1, slots := 6, locals := 105 } 1 6 [.ref (ad 0 0), .int x1, .int x2, .ref (A 13)] ad (GC z ad N0 X u00) (MQw z A k w9) := by
  refine va_MetW (hh := [(0, 10, 13, 13), (0, 10, 17, 21)]) (cc := cL_lean) (maxL := 5) (ret := some .int) (by decide) rfl ?_
  intro p e s m args below meth c s₁ B hml hv
  obtain ⟨rfl, hSW, hSO, hW⟩ := hv
  have hx := B.exec; have hb := B.bytes; have hr := B.returns; have hlocks := B.notSynchronized
  have hown : s.vm.findClass RL = some m.cls := findClass_of_methodNamed B.named
  have htab : c.exceptionTable.toList = tableOf [(0, 10, 13, 13), (0, 10, 17, 21)] := vx_table (x := yL_lean) B (atoms_spec (ws := [Cond.codeWith yL_lean cL_lean 5 (some .int) [(0, 10, 13, 13), (0, 10, 17, 21)]]) B.pre _ List.mem_cons_self)
  obtain ⟨hT, hK, hST, hB0⟩ := id hSW
  have hS : va_S (zA z) s.heap s.heap [] := va_S.rf
  have hl := lv_entry ([.ref (ad 0 0), .int x1, .int x2, .ref (A 13)]) (n := 5) (Nat.le_of_ble_eq_true rfl)
  rw [lg_entry_eq]
  generalize (lg_sl ([.ref (ad 0 0), .int x1, .int x2, .ref (A 13)]) ++ List.replicate (5 - (lg_sl ([.ref (ad 0 0), .int x1, .int x2, .ref (A 13)])).length) Slot.unset).toArray = ls at hl ⊢
  have hl : lv_has ls 5 [(0, .ref (ad 0 0)), (1, .int x1), (2, .int x2), (3, .ref (A 13))] := hl
  rcases h with ⟨u9, h, rfl⟩ | ⟨u9, h, rfl, rfl⟩ | ⟨u9, h, rfl, rfl⟩
  · refine lv_aload_n hx hb dL_lean_0 rfl (lv_at hl 3 rfl) ?_
    refine lv_iconst (v := 0) hx hb dL_lean_1 (by decide) ?_
    refine lv_aload_n hx hb dL_lean_2 rfl (lv_at hl 0 rfl) ?_
    refine lv_iload_n hx hb dL_lean_3 rfl (lv_at hl 1 rfl) ?_
    refine lv_iload_n hx hb dL_lean_4 rfl (lv_at hl 2 rfl) ?_
    refine nb_ci (nb_runV (As := [.int x1, .int x2]) (rest := [.int 0, .ref (A 13)]) (kd := 0) (k := 0) hx hb hml hown hSW hS hW (c_X7_lean l z ad N0 X u00 x1 x2 h) mf_X7_lean (Or.inl (List.mem_of_getElem? (i := 907) (by decide +kernel))) (by rfl) rfl rfl ⟨rfl, rfl⟩ ⟨Nat.le_of_ble_eq_true rfl, Nat.le_of_ble_eq_true rfl⟩ hl.1 (Nat.le_of_ble_eq_true rfl) dL_lean_5 ⟨Nat.le_of_ble_eq_true rfl, Nat.le_of_ble_eq_true rfl⟩) hS (fun H locs hW hS => ?_)
    refine lv_i2l hx hb dL_lean_8 rfl ?_
    refine nb_out hA hx hb hK hW hS (hF.gc) rfl dL_lean_9 (fun H locs G9 hF9 hW hS => ?_)
    refine lv_goto (tgt := 21) hx hb dL_lean_10 (by decide) ?_
    refine lv_iconst (v := 0) hx hb dL_lean_21 (by decide) ?_
    refine W.widen (k := 1) (n := 6) (Nat.le_of_ble_eq_true rfl) (Nat.le_of_ble_eq_true rfl) ?_
    exact nb_wret hA hx hb hr hlocks hW hF9 hS dL_lean_22
  · refine lv_aload_n hx hb dL_lean_0 rfl (lv_at hl 3 rfl) ?_
    refine lv_iconst (v := 0) hx hb dL_lean_1 (by decide) ?_
    refine lv_aload_n hx hb dL_lean_2 rfl (lv_at hl 0 rfl) ?_
    refine lv_iload_n hx hb dL_lean_3 rfl (lv_at hl 1 rfl) ?_
    refine lv_iload_n hx hb dL_lean_4 rfl (lv_at hl 2 rfl) ?_
    refine nx_ci (nx_runV (As := [.int x1, .int x2]) (rest := [.int 0, .ref (A 13)]) (kd := 0) (k := 0) hx hb hml hown hSW hS hW (cx_X7_lean l z ad N0 X u00 x1 x2 hfl h) mf_X7_lean (List.mem_of_getElem? (i := 907) (by decide +kernel)) (by rfl) rfl rfl ⟨rfl, rfl⟩ ⟨Nat.le_of_ble_eq_true rfl, Nat.le_of_ble_eq_true rfl⟩ hl.1 (Nat.le_of_ble_eq_true rfl) dL_lean_5 ⟨Nat.le_of_ble_eq_true rfl, Nat.le_of_ble_eq_true rfl⟩) hS (fun ce q9 H locs hce hcv hcl hW hS => ?_)
    refine vx_catch (E := "java/lang/IndexOutOfBoundsException") (name := "java/lang/IndexOutOfBoundsException") hown [] (⟨0, 10, 13, 13⟩ : ExceptionTableEntry) [(⟨0, 10, 17, 21⟩ : ExceptionTableEntry)] (htab.trans rfl) (fun zz hz => absurd hz List.not_mem_nil) (by decide) (by decide) (hT.use (List.mem_of_getElem? (i := 666) (by decide +kernel)) rfl) (hT.use (List.mem_of_getElem? (i := 477) (by decide +kernel)) rfl) hce hcv hcl ?_
    refine lv_astore (lv' := [(4, .ref q9), (0, .ref (ad 0 0)), (1, .int x1), (2, .int x2), (3, .ref (A 13))]) hx hb dL_lean_13 hl (by decide) rfl (fun ls hl => ?_)
    refine lv_iconst (v := 1) hx hb dL_lean_15 (by decide) ?_
    refine W.widen (k := 1) (n := 6) (Nat.le_of_ble_eq_true rfl) (Nat.le_of_ble_eq_true rfl) ?_
    exact nb_wret hA hx hb hr hlocks hW hF.gc hS dL_lean_16
  · refine lv_aload_n hx hb dL_lean_0 rfl (lv_at hl 3 rfl) ?_
    refine lv_iconst (v := 0) hx hb dL_lean_1 (by decide) ?_
    refine lv_aload_n hx hb dL_lean_2 rfl (lv_at hl 0 rfl) ?_
    refine lv_iload_n hx hb dL_lean_3 rfl (lv_at hl 1 rfl) ?_
    refine lv_iload_n hx hb dL_lean_4 rfl (lv_at hl 2 rfl) ?_
    refine nx_ci (nx_runV (As := [.int x1, .int x2]) (rest := [.int 0, .ref (A 13)]) (kd := 0) (k := 0) hx hb hml hown hSW hS hW (cx_X7_lean l z ad N0 X u00 x1 x2 hfl h) mf_X7_lean (List.mem_of_getElem? (i := 907) (by decide +kernel)) (by rfl) rfl rfl ⟨rfl, rfl⟩ ⟨Nat.le_of_ble_eq_true rfl, Nat.le_of_ble_eq_true rfl⟩ hl.1 (Nat.le_of_ble_eq_true rfl) dL_lean_5 ⟨Nat.le_of_ble_eq_true rfl, Nat.le_of_ble_eq_true rfl⟩) hS (fun ce q9 H locs hce hcv hcl hW hS => ?_)
    refine vx_catch (E := "java/lang/IllegalArgumentException") (name := "java/lang/IllegalArgumentException") hown [(⟨0, 10, 13, 13⟩ : ExceptionTableEntry)] (⟨0, 10, 17, 21⟩ : ExceptionTableEntry) [] (htab.trans rfl) (fun zz hz => by rw [List.mem_singleton.mp hz]; exact Or.inr ⟨by decide, "java/lang/IndexOutOfBoundsException", hT.use (List.mem_of_getElem? (i := 666) (by decide +kernel)) rfl, hSO.2.2.2.2.2.2.2.1⟩) (by decide) (by decide) (hT.use (List.mem_of_getElem? (i := 680) (by decide +kernel)) rfl) (hT.use (List.mem_of_getElem? (i := 394) (by decide +kernel)) rfl) hce hcv hcl ?_
    refine lv_astore (lv' := [(4, .ref q9), (0, .ref (ad 0 0)), (1, .int x1), (2, .int x2), (3, .ref (A 13))]) hx hb dL_lean_17 hl (by decide) rfl (fun ls hl => ?_)
    refine lv_iconst (v := 2) hx hb dL_lean_19 (by decide) ?_
    refine W.widen (k := 1) (n := 6) (Nat.le_of_ble_eq_true rfl) (Nat.le_of_ble_eq_true rfl) ?_
    exact nb_wret hA hx hb hr hlocks hW hF.gc hS dL_lean_20
def R_play (k w9 w : Int32) : Prop := (∃ u9, f_X7_play N0 u00 = some (.error "java/lang/IllegalStateException", u9) ∧ k = 1 ∧ w9 = w)
theorem mfw_play : MFw yL_play cL_play 3 [(0, 8, 11, 15)] 2 := ⟨List.mem_of_getElem? (i := 914) (by decide +kernel), List.mem_of_getElem? (i := 60) (by decide +kernel), List.mem_of_getElem? (i := 915) (by decide +kernel), by decide +kernel, by decide +kernel, by decide +kernel⟩
set_option maxRecDepth 100000 in
set_option maxHeartbeats 4000000 in
theorem w_play (l : Launch) (hfl : l.stackTraces = false) (z : Zt) (o : Ot) (ad : Ad) (X : Gt) (hA : Raw ad) (A : Nat → Nat) (w : Int32) (hF : FM z (GC z ad N0 X u00) A (mW w)) {k w9 : Int32} (h : R_play k w9 w) : MW l z o yL_play cL_play 3 [(0, 8, 11, 15)] { frames := 7, cells := 1, slots := 6, locals := 136 } 1 6 [.ref (ad 0 0), .ref (A 13)] ad (GC z ad N0 X u00) (MQw z A k w9) := by
  refine va_MetW (hh := [(0, 8, 11, 15)]) (cc := cL_play) (maxL := 3) (ret := some .int) (by decide) rfl ?_
  intro p e s m args below meth c s₁ B hml hv
  obtain ⟨rfl, hSW, hSO, hW⟩ := hv
  have hx := B.exec; have hb := B.bytes; have hr := B.returns; have hlocks := B.notSynchronized
  have hown : s.vm.findClass RL = some m.cls := findClass_of_methodNamed B.named
  have htab : c.exceptionTable.toList = tableOf [(0, 8, 11, 15)] := vx_table (x := yL_play) B (atoms_spec (ws := [Cond.codeWith yL_play cL_play 3 (some .int) [(0, 8, 11, 15)]]) B.pre _ List.mem_cons_self)
  obtain ⟨hT, hK, hST, hB0⟩ := id hSW
  have hS : va_S (zA z) s.heap s.heap [] := va_S.rf
  have hl := lv_entry ([.ref (ad 0 0), .ref (A 13)]) (n := 3) (Nat.le_of_ble_eq_true rfl)
  rw [lg_entry_eq]
  generalize (lg_sl ([.ref (ad 0 0), .ref (A 13)]) ++ List.replicate (3 - (lg_sl ([.ref (ad 0 0), .ref (A 13)])).length) Slot.unset).toArray = ls at hl ⊢
  have hl : lv_has ls 3 [(0, .ref (ad 0 0)), (1, .ref (A 13))] := hl
  obtain ⟨u9, h, rfl, rfl⟩ := h
  refine lv_aload_n hx hb dL_play_0 rfl (lv_at hl 1 rfl) ?_
  refine lv_iconst (v := 0) hx hb dL_play_1 (by decide) ?_
  refine lv_aload_n hx hb dL_play_2 rfl (lv_at hl 0 rfl) ?_
  refine nx_ci (nx_runV (As := []) (rest := [.int 0, .ref (A 13)]) (kd := 0) (k := 0) hx hb hml hown hSW hS hW (cx_X7_play l z ad N0 X u00 hfl h) mf_X7_play (List.mem_of_getElem? (i := 916) (by decide +kernel)) (by rfl) rfl rfl ⟨rfl, rfl⟩ ⟨Nat.le_of_ble_eq_true rfl, Nat.le_of_ble_eq_true rfl⟩ hl.1 (Nat.le_of_ble_eq_true rfl) dL_play_3 ⟨Nat.le_of_ble_eq_true rfl, Nat.le_of_ble_eq_true rfl⟩) hS (fun ce q9 H locs hce hcv hcl hW hS => ?_)
  refine vx_catch (E := "java/lang/IllegalStateException") (name := "java/lang/IllegalStateException") hown [] (⟨0, 8, 11, 15⟩ : ExceptionTableEntry) [] (htab.trans rfl) (fun zz hz => absurd hz List.not_mem_nil) (by decide) (by decide) (hT.use (List.mem_of_getElem? (i := 667) (by decide +kernel)) rfl) (hT.use (List.mem_of_getElem? (i := 640) (by decide +kernel)) rfl) hce hcv hcl ?_
  refine lv_astore_n (lv' := [(2, .ref q9), (0, .ref (ad 0 0)), (1, .ref (A 13))]) hx hb dL_play_11 rfl hl (by decide) rfl (fun ls hl => ?_)
  refine lv_iconst (v := 1) hx hb dL_play_12 (by decide) ?_
  refine W.widen (k := 1) (n := 6) (Nat.le_of_ble_eq_true rfl) (Nat.le_of_ble_eq_true rfl) ?_
  exact nb_wret hA hx hb hr hlocks hW hF.gc hS dL_play_13
def R_ofPan (x1 x2 k w9 w : Int32) : Prop := (∃ u9, f_X7_ofPan N0 u00 x1 x2 = some (.error "java/lang/IndexOutOfBoundsException", u9) ∧ k = 1 ∧ w9 = w) ∨ (∃ u9, f_X7_ofPan N0 u00 x1 x2 = some (.error "java/lang/IllegalArgumentException", u9) ∧ k = 2 ∧ w9 = w)
theorem mfw_ofPan : MFw yL_ofPan cL_ofPan 5 [(0, 10, 13, 13), (0, 10, 17, 21)] 4 := ⟨List.mem_of_getElem? (i := 940) (by decide +kernel), List.mem_of_getElem? (i := 60) (by decide +kernel), List.mem_of_getElem? (i := 941) (by decide +kernel), by decide +kernel, by decide +kernel, by decide +kernel⟩
set_option maxRecDepth 100000 in
set_option maxHeartbeats 4000000 in
theorem w_ofPan (l : Launch) (hfl : l.stackTraces = false) (z : Zt) (o : Ot) (ad : Ad) (X : Gt) (hA : Raw ad) (A : Nat → Nat) (w : Int32) (hF : FM z (GC z ad N0 X u00) A (mW w)) (x1 : Int32) (x2 : Int32) {k w9 : Int32} (h : R_ofPan x1 x2 k w9 w) : MW l z o yL_ofPan cL_ofPan 5 [(0, 10, 13, 13), (0, 10, 17, 21)] { frames := 8, cells := 1, slots := 6, locals := 126 } 1 6 [.ref (ad 0 0), .int x1, .int x2, .ref (A 13)] ad (GC z ad N0 X u00) (MQw z A k w9) := by
  refine va_MetW (hh := [(0, 10, 13, 13), (0, 10, 17, 21)]) (cc := cL_ofPan) (maxL := 5) (ret := some .int) (by decide) rfl ?_
  intro p e s m args below meth c s₁ B hml hv
  obtain ⟨rfl, hSW, hSO, hW⟩ := hv
  have hx := B.exec; have hb := B.bytes; have hr := B.returns; have hlocks := B.notSynchronized
  have hown : s.vm.findClass RL = some m.cls := findClass_of_methodNamed B.named
  have htab : c.exceptionTable.toList = tableOf [(0, 10, 13, 13), (0, 10, 17, 21)] := vx_table (x := yL_ofPan) B (atoms_spec (ws := [Cond.codeWith yL_ofPan cL_ofPan 5 (some .int) [(0, 10, 13, 13), (0, 10, 17, 21)]]) B.pre _ List.mem_cons_self)
  obtain ⟨hT, hK, hST, hB0⟩ := id hSW
  have hS : va_S (zA z) s.heap s.heap [] := va_S.rf
  have hl := lv_entry ([.ref (ad 0 0), .int x1, .int x2, .ref (A 13)]) (n := 5) (Nat.le_of_ble_eq_true rfl)
  rw [lg_entry_eq]
  generalize (lg_sl ([.ref (ad 0 0), .int x1, .int x2, .ref (A 13)]) ++ List.replicate (5 - (lg_sl ([.ref (ad 0 0), .int x1, .int x2, .ref (A 13)])).length) Slot.unset).toArray = ls at hl ⊢
  have hl : lv_has ls 5 [(0, .ref (ad 0 0)), (1, .int x1), (2, .int x2), (3, .ref (A 13))] := hl
  rcases h with ⟨u9, h, rfl, rfl⟩ | ⟨u9, h, rfl, rfl⟩
  · refine lv_aload_n hx hb dL_ofPan_0 rfl (lv_at hl 3 rfl) ?_
    refine lv_iconst (v := 0) hx hb dL_ofPan_1 (by decide) ?_
    refine lv_aload_n hx hb dL_ofPan_2 rfl (lv_at hl 0 rfl) ?_
    refine lv_iload_n hx hb dL_ofPan_3 rfl (lv_at hl 1 rfl) ?_
    refine lv_iload_n hx hb dL_ofPan_4 rfl (lv_at hl 2 rfl) ?_
    refine nx_ci (nx_runV (As := [.int x1, .int x2]) (rest := [.int 0, .ref (A 13)]) (kd := 0) (k := 0) hx hb hml hown hSW hS hW (cx_X7_ofPan l z ad N0 X u00 x1 x2 hfl h) mf_X7_ofPan (List.mem_of_getElem? (i := 942) (by decide +kernel)) (by rfl) rfl rfl ⟨rfl, rfl⟩ ⟨Nat.le_of_ble_eq_true rfl, Nat.le_of_ble_eq_true rfl⟩ hl.1 (Nat.le_of_ble_eq_true rfl) dL_ofPan_5 ⟨Nat.le_of_ble_eq_true rfl, Nat.le_of_ble_eq_true rfl⟩) hS (fun ce q9 H locs hce hcv hcl hW hS => ?_)
    refine vx_catch (E := "java/lang/IndexOutOfBoundsException") (name := "java/lang/IndexOutOfBoundsException") hown [] (⟨0, 10, 13, 13⟩ : ExceptionTableEntry) [(⟨0, 10, 17, 21⟩ : ExceptionTableEntry)] (htab.trans rfl) (fun zz hz => absurd hz List.not_mem_nil) (by decide) (by decide) (hT.use (List.mem_of_getElem? (i := 666) (by decide +kernel)) rfl) (hT.use (List.mem_of_getElem? (i := 477) (by decide +kernel)) rfl) hce hcv hcl ?_
    refine lv_astore (lv' := [(4, .ref q9), (0, .ref (ad 0 0)), (1, .int x1), (2, .int x2), (3, .ref (A 13))]) hx hb dL_ofPan_13 hl (by decide) rfl (fun ls hl => ?_)
    refine lv_iconst (v := 1) hx hb dL_ofPan_15 (by decide) ?_
    refine W.widen (k := 1) (n := 6) (Nat.le_of_ble_eq_true rfl) (Nat.le_of_ble_eq_true rfl) ?_
    exact nb_wret hA hx hb hr hlocks hW hF.gc hS dL_ofPan_16
  · refine lv_aload_n hx hb dL_ofPan_0 rfl (lv_at hl 3 rfl) ?_
    refine lv_iconst (v := 0) hx hb dL_ofPan_1 (by decide) ?_
    refine lv_aload_n hx hb dL_ofPan_2 rfl (lv_at hl 0 rfl) ?_
    refine lv_iload_n hx hb dL_ofPan_3 rfl (lv_at hl 1 rfl) ?_
    refine lv_iload_n hx hb dL_ofPan_4 rfl (lv_at hl 2 rfl) ?_
    refine nx_ci (nx_runV (As := [.int x1, .int x2]) (rest := [.int 0, .ref (A 13)]) (kd := 0) (k := 0) hx hb hml hown hSW hS hW (cx_X7_ofPan l z ad N0 X u00 x1 x2 hfl h) mf_X7_ofPan (List.mem_of_getElem? (i := 942) (by decide +kernel)) (by rfl) rfl rfl ⟨rfl, rfl⟩ ⟨Nat.le_of_ble_eq_true rfl, Nat.le_of_ble_eq_true rfl⟩ hl.1 (Nat.le_of_ble_eq_true rfl) dL_ofPan_5 ⟨Nat.le_of_ble_eq_true rfl, Nat.le_of_ble_eq_true rfl⟩) hS (fun ce q9 H locs hce hcv hcl hW hS => ?_)
    refine vx_catch (E := "java/lang/IllegalArgumentException") (name := "java/lang/IllegalArgumentException") hown [(⟨0, 10, 13, 13⟩ : ExceptionTableEntry)] (⟨0, 10, 17, 21⟩ : ExceptionTableEntry) [] (htab.trans rfl) (fun zz hz => by rw [List.mem_singleton.mp hz]; exact Or.inr ⟨by decide, "java/lang/IndexOutOfBoundsException", hT.use (List.mem_of_getElem? (i := 666) (by decide +kernel)) rfl, hSO.2.2.2.2.2.2.2.1⟩) (by decide) (by decide) (hT.use (List.mem_of_getElem? (i := 680) (by decide +kernel)) rfl) (hT.use (List.mem_of_getElem? (i := 394) (by decide +kernel)) rfl) hce hcv hcl ?_
    refine lv_astore (lv' := [(4, .ref q9), (0, .ref (ad 0 0)), (1, .int x1), (2, .int x2), (3, .ref (A 13))]) hx hb dL_ofPan_17 hl (by decide) rfl (fun ls hl => ?_)
    refine lv_iconst (v := 2) hx hb dL_ofPan_19 (by decide) ?_
    refine W.widen (k := 1) (n := 6) (Nat.le_of_ble_eq_true rfl) (Nat.le_of_ble_eq_true rfl) ?_
    exact nb_wret hA hx hb hr hlocks hW hF.gc hS dL_ofPan_20
def R_off (x1 x2 k w9 w : Int32) : Prop := (∃ u9, f_X7_off N0 u00 x1 x2 = some (.error "java/lang/IndexOutOfBoundsException", u9) ∧ k = 1 ∧ w9 = w)
theorem mfw_off : MFw yL_off cL_off 5 [(0, 10, 13, 13)] 4 := ⟨List.mem_of_getElem? (i := 944) (by decide +kernel), List.mem_of_getElem? (i := 60) (by decide +kernel), List.mem_of_getElem? (i := 945) (by decide +kernel), by decide +kernel, by decide +kernel, by decide +kernel⟩
set_option maxRecDepth 100000 in
set_option maxHeartbeats 4000000 in
theorem w_off (l : Launch) (hfl : l.stackTraces = false) (z : Zt) (o : Ot) (ad : Ad) (X : Gt) (hA : Raw ad) (A : Nat → Nat) (w : Int32) (hF : FM z (GC z ad N0 X u00) A (mW w)) (x1 : Int32) (x2 : Int32) {k w9 : Int32} (h : R_off x1 x2 k w9 w) : MW l z o yL_off cL_off 5 [(0, 10, 13, 13)] { frames := 8, cells := 1, slots := 6, locals := 125 } 1 6 [.ref (ad 0 0), .int x1, .int x2, .ref (A 13)] ad (GC z ad N0 X u00) (MQw z A k w9) := by
  refine va_MetW (hh := [(0, 10, 13, 13)]) (cc := cL_off) (maxL := 5) (ret := some .int) (by decide) rfl ?_
  intro p e s m args below meth c s₁ B hml hv
  obtain ⟨rfl, hSW, hSO, hW⟩ := hv
  have hx := B.exec; have hb := B.bytes; have hr := B.returns; have hlocks := B.notSynchronized
  have hown : s.vm.findClass RL = some m.cls := findClass_of_methodNamed B.named
  have htab : c.exceptionTable.toList = tableOf [(0, 10, 13, 13)] := vx_table (x := yL_off) B (atoms_spec (ws := [Cond.codeWith yL_off cL_off 5 (some .int) [(0, 10, 13, 13)]]) B.pre _ List.mem_cons_self)
  obtain ⟨hT, hK, hST, hB0⟩ := id hSW
  have hS : va_S (zA z) s.heap s.heap [] := va_S.rf
  have hl := lv_entry ([.ref (ad 0 0), .int x1, .int x2, .ref (A 13)]) (n := 5) (Nat.le_of_ble_eq_true rfl)
  rw [lg_entry_eq]
  generalize (lg_sl ([.ref (ad 0 0), .int x1, .int x2, .ref (A 13)]) ++ List.replicate (5 - (lg_sl ([.ref (ad 0 0), .int x1, .int x2, .ref (A 13)])).length) Slot.unset).toArray = ls at hl ⊢
  have hl : lv_has ls 5 [(0, .ref (ad 0 0)), (1, .int x1), (2, .int x2), (3, .ref (A 13))] := hl
  obtain ⟨u9, h, rfl, rfl⟩ := h
  refine lv_aload_n hx hb dL_off_0 rfl (lv_at hl 3 rfl) ?_
  refine lv_iconst (v := 0) hx hb dL_off_1 (by decide) ?_
  refine lv_aload_n hx hb dL_off_2 rfl (lv_at hl 0 rfl) ?_
  refine lv_iload_n hx hb dL_off_3 rfl (lv_at hl 1 rfl) ?_
  refine lv_iload_n hx hb dL_off_4 rfl (lv_at hl 2 rfl) ?_
  refine nx_ci (nx_runV (As := [.int x1, .int x2]) (rest := [.int 0, .ref (A 13)]) (kd := 0) (k := 0) hx hb hml hown hSW hS hW (cx_X7_off l z ad N0 X u00 x1 x2 hfl h) mf_X7_off (List.mem_of_getElem? (i := 946) (by decide +kernel)) (by rfl) rfl rfl ⟨rfl, rfl⟩ ⟨Nat.le_of_ble_eq_true rfl, Nat.le_of_ble_eq_true rfl⟩ hl.1 (Nat.le_of_ble_eq_true rfl) dL_off_5 ⟨Nat.le_of_ble_eq_true rfl, Nat.le_of_ble_eq_true rfl⟩) hS (fun ce q9 H locs hce hcv hcl hW hS => ?_)
  refine vx_catch (E := "java/lang/IndexOutOfBoundsException") (name := "java/lang/IndexOutOfBoundsException") hown [] (⟨0, 10, 13, 13⟩ : ExceptionTableEntry) [] (htab.trans rfl) (fun zz hz => absurd hz List.not_mem_nil) (by decide) (by decide) (hT.use (List.mem_of_getElem? (i := 666) (by decide +kernel)) rfl) (hT.use (List.mem_of_getElem? (i := 477) (by decide +kernel)) rfl) hce hcv hcl ?_
  refine lv_astore (lv' := [(4, .ref q9), (0, .ref (ad 0 0)), (1, .int x1), (2, .int x2), (3, .ref (A 13))]) hx hb dL_off_13 hl (by decide) rfl (fun ls hl => ?_)
  refine lv_iconst (v := 1) hx hb dL_off_15 (by decide) ?_
  refine W.widen (k := 1) (n := 6) (Nat.le_of_ble_eq_true rfl) (Nat.le_of_ble_eq_true rfl) ?_
  exact nb_wret hA hx hb hr hlocks hW hF.gc hS dL_off_16
def R_ofPhrase (x1 x2 k w9 w : Int32) : Prop := (∃ u9, f_X7_ofPhrase N0 u00 x1 x2 = some (.error "java/lang/IndexOutOfBoundsException", u9) ∧ k = 1 ∧ w9 = w) ∨ (∃ u9, f_X7_ofPhrase N0 u00 x1 x2 = some (.error "java/lang/IllegalArgumentException", u9) ∧ k = 2 ∧ w9 = w)
theorem mfw_ofPhrase : MFw yL_ofPhrase cL_ofPhrase 5 [(0, 10, 13, 13), (0, 10, 17, 21)] 4 := ⟨List.mem_of_getElem? (i := 948) (by decide +kernel), List.mem_of_getElem? (i := 60) (by decide +kernel), List.mem_of_getElem? (i := 949) (by decide +kernel), by decide +kernel, by decide +kernel, by decide +kernel⟩
set_option maxRecDepth 100000 in
set_option maxHeartbeats 4000000 in
theorem w_ofPhrase (l : Launch) (hfl : l.stackTraces = false) (z : Zt) (o : Ot) (ad : Ad) (X : Gt) (hA : Raw ad) (A : Nat → Nat) (w : Int32) (hF : FM z (GC z ad N0 X u00) A (mW w)) (x1 : Int32) (x2 : Int32) {k w9 : Int32} (h : R_ofPhrase x1 x2 k w9 w) : MW l z o yL_ofPhrase cL_ofPhrase 5 [(0, 10, 13, 13), (0, 10, 17, 21)] { frames := 8, cells := 1, slots := 6, locals := 126 } 1 6 [.ref (ad 0 0), .int x1, .int x2, .ref (A 13)] ad (GC z ad N0 X u00) (MQw z A k w9) := by
  refine va_MetW (hh := [(0, 10, 13, 13), (0, 10, 17, 21)]) (cc := cL_ofPhrase) (maxL := 5) (ret := some .int) (by decide) rfl ?_
  intro p e s m args below meth c s₁ B hml hv
  obtain ⟨rfl, hSW, hSO, hW⟩ := hv
  have hx := B.exec; have hb := B.bytes; have hr := B.returns; have hlocks := B.notSynchronized
  have hown : s.vm.findClass RL = some m.cls := findClass_of_methodNamed B.named
  have htab : c.exceptionTable.toList = tableOf [(0, 10, 13, 13), (0, 10, 17, 21)] := vx_table (x := yL_ofPhrase) B (atoms_spec (ws := [Cond.codeWith yL_ofPhrase cL_ofPhrase 5 (some .int) [(0, 10, 13, 13), (0, 10, 17, 21)]]) B.pre _ List.mem_cons_self)
  obtain ⟨hT, hK, hST, hB0⟩ := id hSW
  have hS : va_S (zA z) s.heap s.heap [] := va_S.rf
  have hl := lv_entry ([.ref (ad 0 0), .int x1, .int x2, .ref (A 13)]) (n := 5) (Nat.le_of_ble_eq_true rfl)
  rw [lg_entry_eq]
  generalize (lg_sl ([.ref (ad 0 0), .int x1, .int x2, .ref (A 13)]) ++ List.replicate (5 - (lg_sl ([.ref (ad 0 0), .int x1, .int x2, .ref (A 13)])).length) Slot.unset).toArray = ls at hl ⊢
  have hl : lv_has ls 5 [(0, .ref (ad 0 0)), (1, .int x1), (2, .int x2), (3, .ref (A 13))] := hl
  rcases h with ⟨u9, h, rfl, rfl⟩ | ⟨u9, h, rfl, rfl⟩
  · refine lv_aload_n hx hb dL_ofPhrase_0 rfl (lv_at hl 3 rfl) ?_
    refine lv_iconst (v := 0) hx hb dL_ofPhrase_1 (by decide) ?_
    refine lv_aload_n hx hb dL_ofPhrase_2 rfl (lv_at hl 0 rfl) ?_
    refine lv_iload_n hx hb dL_ofPhrase_3 rfl (lv_at hl 1 rfl) ?_
    refine lv_iload_n hx hb dL_ofPhrase_4 rfl (lv_at hl 2 rfl) ?_
    refine nx_ci (nx_runV (As := [.int x1, .int x2]) (rest := [.int 0, .ref (A 13)]) (kd := 0) (k := 0) hx hb hml hown hSW hS hW (cx_X7_ofPhrase l z ad N0 X u00 x1 x2 hfl h) mf_X7_ofPhrase (List.mem_of_getElem? (i := 950) (by decide +kernel)) (by rfl) rfl rfl ⟨rfl, rfl⟩ ⟨Nat.le_of_ble_eq_true rfl, Nat.le_of_ble_eq_true rfl⟩ hl.1 (Nat.le_of_ble_eq_true rfl) dL_ofPhrase_5 ⟨Nat.le_of_ble_eq_true rfl, Nat.le_of_ble_eq_true rfl⟩) hS (fun ce q9 H locs hce hcv hcl hW hS => ?_)
    refine vx_catch (E := "java/lang/IndexOutOfBoundsException") (name := "java/lang/IndexOutOfBoundsException") hown [] (⟨0, 10, 13, 13⟩ : ExceptionTableEntry) [(⟨0, 10, 17, 21⟩ : ExceptionTableEntry)] (htab.trans rfl) (fun zz hz => absurd hz List.not_mem_nil) (by decide) (by decide) (hT.use (List.mem_of_getElem? (i := 666) (by decide +kernel)) rfl) (hT.use (List.mem_of_getElem? (i := 477) (by decide +kernel)) rfl) hce hcv hcl ?_
    refine lv_astore (lv' := [(4, .ref q9), (0, .ref (ad 0 0)), (1, .int x1), (2, .int x2), (3, .ref (A 13))]) hx hb dL_ofPhrase_13 hl (by decide) rfl (fun ls hl => ?_)
    refine lv_iconst (v := 1) hx hb dL_ofPhrase_15 (by decide) ?_
    refine W.widen (k := 1) (n := 6) (Nat.le_of_ble_eq_true rfl) (Nat.le_of_ble_eq_true rfl) ?_
    exact nb_wret hA hx hb hr hlocks hW hF.gc hS dL_ofPhrase_16
  · refine lv_aload_n hx hb dL_ofPhrase_0 rfl (lv_at hl 3 rfl) ?_
    refine lv_iconst (v := 0) hx hb dL_ofPhrase_1 (by decide) ?_
    refine lv_aload_n hx hb dL_ofPhrase_2 rfl (lv_at hl 0 rfl) ?_
    refine lv_iload_n hx hb dL_ofPhrase_3 rfl (lv_at hl 1 rfl) ?_
    refine lv_iload_n hx hb dL_ofPhrase_4 rfl (lv_at hl 2 rfl) ?_
    refine nx_ci (nx_runV (As := [.int x1, .int x2]) (rest := [.int 0, .ref (A 13)]) (kd := 0) (k := 0) hx hb hml hown hSW hS hW (cx_X7_ofPhrase l z ad N0 X u00 x1 x2 hfl h) mf_X7_ofPhrase (List.mem_of_getElem? (i := 950) (by decide +kernel)) (by rfl) rfl rfl ⟨rfl, rfl⟩ ⟨Nat.le_of_ble_eq_true rfl, Nat.le_of_ble_eq_true rfl⟩ hl.1 (Nat.le_of_ble_eq_true rfl) dL_ofPhrase_5 ⟨Nat.le_of_ble_eq_true rfl, Nat.le_of_ble_eq_true rfl⟩) hS (fun ce q9 H locs hce hcv hcl hW hS => ?_)
    refine vx_catch (E := "java/lang/IllegalArgumentException") (name := "java/lang/IllegalArgumentException") hown [(⟨0, 10, 13, 13⟩ : ExceptionTableEntry)] (⟨0, 10, 17, 21⟩ : ExceptionTableEntry) [] (htab.trans rfl) (fun zz hz => by rw [List.mem_singleton.mp hz]; exact Or.inr ⟨by decide, "java/lang/IndexOutOfBoundsException", hT.use (List.mem_of_getElem? (i := 666) (by decide +kernel)) rfl, hSO.2.2.2.2.2.2.2.1⟩) (by decide) (by decide) (hT.use (List.mem_of_getElem? (i := 680) (by decide +kernel)) rfl) (hT.use (List.mem_of_getElem? (i := 394) (by decide +kernel)) rfl) hce hcv hcl ?_
    refine lv_astore (lv' := [(4, .ref q9), (0, .ref (ad 0 0)), (1, .int x1), (2, .int x2), (3, .ref (A 13))]) hx hb dL_ofPhrase_17 hl (by decide) rfl (fun ls hl => ?_)
    refine lv_iconst (v := 2) hx hb dL_ofPhrase_19 (by decide) ?_
    refine W.widen (k := 1) (n := 6) (Nat.le_of_ble_eq_true rfl) (Nat.le_of_ble_eq_true rfl) ?_
    exact nb_wret hA hx hb hr hlocks hW hF.gc hS dL_ofPhrase_20
def R_ofPlayer (x1 x2 k w9 w : Int32) : Prop := (∃ u9, f_X7_ofPlayer N0 u00 x1 x2 = some (.error "java/lang/IndexOutOfBoundsException", u9) ∧ k = 1 ∧ w9 = w) ∨ (∃ u9, f_X7_ofPlayer N0 u00 x1 x2 = some (.error "java/lang/IllegalArgumentException", u9) ∧ k = 2 ∧ w9 = w)
theorem mfw_ofPlayer : MFw yL_ofPlayer cL_ofPlayer 5 [(0, 10, 13, 13), (0, 10, 17, 21)] 4 := ⟨List.mem_of_getElem? (i := 952) (by decide +kernel), List.mem_of_getElem? (i := 60) (by decide +kernel), List.mem_of_getElem? (i := 953) (by decide +kernel), by decide +kernel, by decide +kernel, by decide +kernel⟩
set_option maxRecDepth 100000 in
set_option maxHeartbeats 4000000 in
theorem w_ofPlayer (l : Launch) (hfl : l.stackTraces = false) (z : Zt) (o : Ot) (ad : Ad) (X : Gt) (hA : Raw ad) (A : Nat → Nat) (w : Int32) (hF : FM z (GC z ad N0 X u00) A (mW w)) (x1 : Int32) (x2 : Int32) {k w9 : Int32} (h : R_ofPlayer x1 x2 k w9 w) : MW l z o yL_ofPlayer cL_ofPlayer 5 [(0, 10, 13, 13), (0, 10, 17, 21)] { frames := 8, cells := 1, slots := 6, locals := 126 } 1 6 [.ref (ad 0 0), .int x1, .int x2, .ref (A 13)] ad (GC z ad N0 X u00) (MQw z A k w9) := by
  refine va_MetW (hh := [(0, 10, 13, 13), (0, 10, 17, 21)]) (cc := cL_ofPlayer) (maxL := 5) (ret := some .int) (by decide) rfl ?_
  intro p e s m args below meth c s₁ B hml hv
  obtain ⟨rfl, hSW, hSO, hW⟩ := hv
  have hx := B.exec; have hb := B.bytes; have hr := B.returns; have hlocks := B.notSynchronized
  have hown : s.vm.findClass RL = some m.cls := findClass_of_methodNamed B.named
  have htab : c.exceptionTable.toList = tableOf [(0, 10, 13, 13), (0, 10, 17, 21)] := vx_table (x := yL_ofPlayer) B (atoms_spec (ws := [Cond.codeWith yL_ofPlayer cL_ofPlayer 5 (some .int) [(0, 10, 13, 13), (0, 10, 17, 21)]]) B.pre _ List.mem_cons_self)
  obtain ⟨hT, hK, hST, hB0⟩ := id hSW
  have hS : va_S (zA z) s.heap s.heap [] := va_S.rf
  have hl := lv_entry ([.ref (ad 0 0), .int x1, .int x2, .ref (A 13)]) (n := 5) (Nat.le_of_ble_eq_true rfl)
  rw [lg_entry_eq]
  generalize (lg_sl ([.ref (ad 0 0), .int x1, .int x2, .ref (A 13)]) ++ List.replicate (5 - (lg_sl ([.ref (ad 0 0), .int x1, .int x2, .ref (A 13)])).length) Slot.unset).toArray = ls at hl ⊢
  have hl : lv_has ls 5 [(0, .ref (ad 0 0)), (1, .int x1), (2, .int x2), (3, .ref (A 13))] := hl
  rcases h with ⟨u9, h, rfl, rfl⟩ | ⟨u9, h, rfl, rfl⟩
  · refine lv_aload_n hx hb dL_ofPlayer_0 rfl (lv_at hl 3 rfl) ?_
    refine lv_iconst (v := 0) hx hb dL_ofPlayer_1 (by decide) ?_
    refine lv_aload_n hx hb dL_ofPlayer_2 rfl (lv_at hl 0 rfl) ?_
    refine lv_iload_n hx hb dL_ofPlayer_3 rfl (lv_at hl 1 rfl) ?_
    refine lv_iload_n hx hb dL_ofPlayer_4 rfl (lv_at hl 2 rfl) ?_
    refine nx_ci (nx_runV (As := [.int x1, .int x2]) (rest := [.int 0, .ref (A 13)]) (kd := 0) (k := 0) hx hb hml hown hSW hS hW (cx_X7_ofPlayer l z ad N0 X u00 x1 x2 hfl h) mf_X7_ofPlayer (List.mem_of_getElem? (i := 954) (by decide +kernel)) (by rfl) rfl rfl ⟨rfl, rfl⟩ ⟨Nat.le_of_ble_eq_true rfl, Nat.le_of_ble_eq_true rfl⟩ hl.1 (Nat.le_of_ble_eq_true rfl) dL_ofPlayer_5 ⟨Nat.le_of_ble_eq_true rfl, Nat.le_of_ble_eq_true rfl⟩) hS (fun ce q9 H locs hce hcv hcl hW hS => ?_)
    refine vx_catch (E := "java/lang/IndexOutOfBoundsException") (name := "java/lang/IndexOutOfBoundsException") hown [] (⟨0, 10, 13, 13⟩ : ExceptionTableEntry) [(⟨0, 10, 17, 21⟩ : ExceptionTableEntry)] (htab.trans rfl) (fun zz hz => absurd hz List.not_mem_nil) (by decide) (by decide) (hT.use (List.mem_of_getElem? (i := 666) (by decide +kernel)) rfl) (hT.use (List.mem_of_getElem? (i := 477) (by decide +kernel)) rfl) hce hcv hcl ?_
    refine lv_astore (lv' := [(4, .ref q9), (0, .ref (ad 0 0)), (1, .int x1), (2, .int x2), (3, .ref (A 13))]) hx hb dL_ofPlayer_13 hl (by decide) rfl (fun ls hl => ?_)
    refine lv_iconst (v := 1) hx hb dL_ofPlayer_15 (by decide) ?_
    refine W.widen (k := 1) (n := 6) (Nat.le_of_ble_eq_true rfl) (Nat.le_of_ble_eq_true rfl) ?_
    exact nb_wret hA hx hb hr hlocks hW hF.gc hS dL_ofPlayer_16
  · refine lv_aload_n hx hb dL_ofPlayer_0 rfl (lv_at hl 3 rfl) ?_
    refine lv_iconst (v := 0) hx hb dL_ofPlayer_1 (by decide) ?_
    refine lv_aload_n hx hb dL_ofPlayer_2 rfl (lv_at hl 0 rfl) ?_
    refine lv_iload_n hx hb dL_ofPlayer_3 rfl (lv_at hl 1 rfl) ?_
    refine lv_iload_n hx hb dL_ofPlayer_4 rfl (lv_at hl 2 rfl) ?_
    refine nx_ci (nx_runV (As := [.int x1, .int x2]) (rest := [.int 0, .ref (A 13)]) (kd := 0) (k := 0) hx hb hml hown hSW hS hW (cx_X7_ofPlayer l z ad N0 X u00 x1 x2 hfl h) mf_X7_ofPlayer (List.mem_of_getElem? (i := 954) (by decide +kernel)) (by rfl) rfl rfl ⟨rfl, rfl⟩ ⟨Nat.le_of_ble_eq_true rfl, Nat.le_of_ble_eq_true rfl⟩ hl.1 (Nat.le_of_ble_eq_true rfl) dL_ofPlayer_5 ⟨Nat.le_of_ble_eq_true rfl, Nat.le_of_ble_eq_true rfl⟩) hS (fun ce q9 H locs hce hcv hcl hW hS => ?_)
    refine vx_catch (E := "java/lang/IllegalArgumentException") (name := "java/lang/IllegalArgumentException") hown [(⟨0, 10, 13, 13⟩ : ExceptionTableEntry)] (⟨0, 10, 17, 21⟩ : ExceptionTableEntry) [] (htab.trans rfl) (fun zz hz => by rw [List.mem_singleton.mp hz]; exact Or.inr ⟨by decide, "java/lang/IndexOutOfBoundsException", hT.use (List.mem_of_getElem? (i := 666) (by decide +kernel)) rfl, hSO.2.2.2.2.2.2.2.1⟩) (by decide) (by decide) (hT.use (List.mem_of_getElem? (i := 680) (by decide +kernel)) rfl) (hT.use (List.mem_of_getElem? (i := 394) (by decide +kernel)) rfl) hce hcv hcl ?_
    refine lv_astore (lv' := [(4, .ref q9), (0, .ref (ad 0 0)), (1, .int x1), (2, .int x2), (3, .ref (A 13))]) hx hb dL_ofPlayer_17 hl (by decide) rfl (fun ls hl => ?_)
    refine lv_iconst (v := 2) hx hb dL_ofPlayer_19 (by decide) ?_
    refine W.widen (k := 1) (n := 6) (Nat.le_of_ble_eq_true rfl) (Nat.le_of_ble_eq_true rfl) ?_
    exact nb_wret hA hx hb hr hlocks hW hF.gc hS dL_ofPlayer_20
def R_memory (x1 x2 k w9 w : Int32) : Prop := (∃ u9, f_X7_memory N0 u00 x1 x2 = some (.error "java/lang/IndexOutOfBoundsException", u9) ∧ k = 1 ∧ w9 = w)
theorem mfw_memory : MFw yL_memory cL_memory 5 [(0, 10, 13, 13)] 4 := ⟨List.mem_of_getElem? (i := 956) (by decide +kernel), List.mem_of_getElem? (i := 60) (by decide +kernel), List.mem_of_getElem? (i := 957) (by decide +kernel), by decide +kernel, by decide +kernel, by decide +kernel⟩
set_option maxRecDepth 100000 in
set_option maxHeartbeats 4000000 in
theorem w_memory (l : Launch) (hfl : l.stackTraces = false) (z : Zt) (o : Ot) (ad : Ad) (X : Gt) (hA : Raw ad) (A : Nat → Nat) (w : Int32) (hF : FM z (GC z ad N0 X u00) A (mW w)) (x1 : Int32) (x2 : Int32) {k w9 : Int32} (h : R_memory x1 x2 k w9 w) : MW l z o yL_memory cL_memory 5 [(0, 10, 13, 13)] { frames := 8, cells := 1, slots := 6, locals := 125 } 1 6 [.ref (ad 0 0), .int x1, .int x2, .ref (A 13)] ad (GC z ad N0 X u00) (MQw z A k w9) := by
  refine va_MetW (hh := [(0, 10, 13, 13)]) (cc := cL_memory) (maxL := 5) (ret := some .int) (by decide) rfl ?_
  intro p e s m args below meth c s₁ B hml hv
  obtain ⟨rfl, hSW, hSO, hW⟩ := hv
  have hx := B.exec; have hb := B.bytes; have hr := B.returns; have hlocks := B.notSynchronized
  have hown : s.vm.findClass RL = some m.cls := findClass_of_methodNamed B.named
  have htab : c.exceptionTable.toList = tableOf [(0, 10, 13, 13)] := vx_table (x := yL_memory) B (atoms_spec (ws := [Cond.codeWith yL_memory cL_memory 5 (some .int) [(0, 10, 13, 13)]]) B.pre _ List.mem_cons_self)
  obtain ⟨hT, hK, hST, hB0⟩ := id hSW
  have hS : va_S (zA z) s.heap s.heap [] := va_S.rf
  have hl := lv_entry ([.ref (ad 0 0), .int x1, .int x2, .ref (A 13)]) (n := 5) (Nat.le_of_ble_eq_true rfl)
  rw [lg_entry_eq]
  generalize (lg_sl ([.ref (ad 0 0), .int x1, .int x2, .ref (A 13)]) ++ List.replicate (5 - (lg_sl ([.ref (ad 0 0), .int x1, .int x2, .ref (A 13)])).length) Slot.unset).toArray = ls at hl ⊢
  have hl : lv_has ls 5 [(0, .ref (ad 0 0)), (1, .int x1), (2, .int x2), (3, .ref (A 13))] := hl
  obtain ⟨u9, h, rfl, rfl⟩ := h
  refine lv_aload_n hx hb dL_memory_0 rfl (lv_at hl 3 rfl) ?_
  refine lv_iconst (v := 0) hx hb dL_memory_1 (by decide) ?_
  refine lv_aload_n hx hb dL_memory_2 rfl (lv_at hl 0 rfl) ?_
  refine lv_iload_n hx hb dL_memory_3 rfl (lv_at hl 1 rfl) ?_
  refine lv_iload_n hx hb dL_memory_4 rfl (lv_at hl 2 rfl) ?_
  refine nx_ci (nx_runV (As := [.int x1, .int x2]) (rest := [.int 0, .ref (A 13)]) (kd := 0) (k := 0) hx hb hml hown hSW hS hW (cx_X7_memory l z ad N0 X u00 x1 x2 hfl h) mf_X7_memory (List.mem_of_getElem? (i := 958) (by decide +kernel)) (by rfl) rfl rfl ⟨rfl, rfl⟩ ⟨Nat.le_of_ble_eq_true rfl, Nat.le_of_ble_eq_true rfl⟩ hl.1 (Nat.le_of_ble_eq_true rfl) dL_memory_5 ⟨Nat.le_of_ble_eq_true rfl, Nat.le_of_ble_eq_true rfl⟩) hS (fun ce q9 H locs hce hcv hcl hW hS => ?_)
  refine vx_catch (E := "java/lang/IndexOutOfBoundsException") (name := "java/lang/IndexOutOfBoundsException") hown [] (⟨0, 10, 13, 13⟩ : ExceptionTableEntry) [] (htab.trans rfl) (fun zz hz => absurd hz List.not_mem_nil) (by decide) (by decide) (hT.use (List.mem_of_getElem? (i := 666) (by decide +kernel)) rfl) (hT.use (List.mem_of_getElem? (i := 477) (by decide +kernel)) rfl) hce hcv hcl ?_
  refine lv_astore (lv' := [(4, .ref q9), (0, .ref (ad 0 0)), (1, .int x1), (2, .int x2), (3, .ref (A 13))]) hx hb dL_memory_13 hl (by decide) rfl (fun ls hl => ?_)
  refine lv_iconst (v := 1) hx hb dL_memory_15 (by decide) ?_
  refine W.widen (k := 1) (n := 6) (Nat.le_of_ble_eq_true rfl) (Nat.le_of_ble_eq_true rfl) ?_
  exact nb_wret hA hx hb hr hlocks hW hF.gc hS dL_memory_16
def R_ofPlace (x1 x2 k w9 w : Int32) : Prop := (∃ u9, f_X7_ofPlace N0 u00 x1 x2 = some (.error "java/lang/IndexOutOfBoundsException", u9) ∧ k = 1 ∧ w9 = w) ∨ (∃ u9, f_X7_ofPlace N0 u00 x1 x2 = some (.error "java/lang/IllegalArgumentException", u9) ∧ k = 2 ∧ w9 = w)
theorem mfw_ofPlace : MFw yL_ofPlace cL_ofPlace 5 [(0, 10, 13, 13), (0, 10, 17, 21)] 4 := ⟨List.mem_of_getElem? (i := 960) (by decide +kernel), List.mem_of_getElem? (i := 60) (by decide +kernel), List.mem_of_getElem? (i := 961) (by decide +kernel), by decide +kernel, by decide +kernel, by decide +kernel⟩
set_option maxRecDepth 100000 in
set_option maxHeartbeats 4000000 in
theorem w_ofPlace (l : Launch) (hfl : l.stackTraces = false) (z : Zt) (o : Ot) (ad : Ad) (X : Gt) (hA : Raw ad) (A : Nat → Nat) (w : Int32) (hF : FM z (GC z ad N0 X u00) A (mW w)) (x1 : Int32) (x2 : Int32) {k w9 : Int32} (h : R_ofPlace x1 x2 k w9 w) : MW l z o yL_ofPlace cL_ofPlace 5 [(0, 10, 13, 13), (0, 10, 17, 21)] { frames := 8, cells := 1, slots := 6, locals := 125 } 1 6 [.ref (ad 0 0), .int x1, .int x2, .ref (A 13)] ad (GC z ad N0 X u00) (MQw z A k w9) := by
  refine va_MetW (hh := [(0, 10, 13, 13), (0, 10, 17, 21)]) (cc := cL_ofPlace) (maxL := 5) (ret := some .int) (by decide) rfl ?_
  intro p e s m args below meth c s₁ B hml hv
  obtain ⟨rfl, hSW, hSO, hW⟩ := hv
  have hx := B.exec; have hb := B.bytes; have hr := B.returns; have hlocks := B.notSynchronized
  have hown : s.vm.findClass RL = some m.cls := findClass_of_methodNamed B.named
  have htab : c.exceptionTable.toList = tableOf [(0, 10, 13, 13), (0, 10, 17, 21)] := vx_table (x := yL_ofPlace) B (atoms_spec (ws := [Cond.codeWith yL_ofPlace cL_ofPlace 5 (some .int) [(0, 10, 13, 13), (0, 10, 17, 21)]]) B.pre _ List.mem_cons_self)
  obtain ⟨hT, hK, hST, hB0⟩ := id hSW
  have hS : va_S (zA z) s.heap s.heap [] := va_S.rf
  have hl := lv_entry ([.ref (ad 0 0), .int x1, .int x2, .ref (A 13)]) (n := 5) (Nat.le_of_ble_eq_true rfl)
  rw [lg_entry_eq]
  generalize (lg_sl ([.ref (ad 0 0), .int x1, .int x2, .ref (A 13)]) ++ List.replicate (5 - (lg_sl ([.ref (ad 0 0), .int x1, .int x2, .ref (A 13)])).length) Slot.unset).toArray = ls at hl ⊢
  have hl : lv_has ls 5 [(0, .ref (ad 0 0)), (1, .int x1), (2, .int x2), (3, .ref (A 13))] := hl
  rcases h with ⟨u9, h, rfl, rfl⟩ | ⟨u9, h, rfl, rfl⟩
  · refine lv_aload_n hx hb dL_ofPlace_0 rfl (lv_at hl 3 rfl) ?_
    refine lv_iconst (v := 0) hx hb dL_ofPlace_1 (by decide) ?_
    refine lv_aload_n hx hb dL_ofPlace_2 rfl (lv_at hl 0 rfl) ?_
    refine lv_iload_n hx hb dL_ofPlace_3 rfl (lv_at hl 1 rfl) ?_
    refine lv_iload_n hx hb dL_ofPlace_4 rfl (lv_at hl 2 rfl) ?_
    refine nx_ci (nx_runV (As := [.int x1, .int x2]) (rest := [.int 0, .ref (A 13)]) (kd := 0) (k := 0) hx hb hml hown hSW hS hW (cx_X7_ofPlace l z ad N0 X u00 x1 x2 hfl h) mf_X7_ofPlace (List.mem_of_getElem? (i := 962) (by decide +kernel)) (by rfl) rfl rfl ⟨rfl, rfl⟩ ⟨Nat.le_of_ble_eq_true rfl, Nat.le_of_ble_eq_true rfl⟩ hl.1 (Nat.le_of_ble_eq_true rfl) dL_ofPlace_5 ⟨Nat.le_of_ble_eq_true rfl, Nat.le_of_ble_eq_true rfl⟩) hS (fun ce q9 H locs hce hcv hcl hW hS => ?_)
    refine vx_catch (E := "java/lang/IndexOutOfBoundsException") (name := "java/lang/IndexOutOfBoundsException") hown [] (⟨0, 10, 13, 13⟩ : ExceptionTableEntry) [(⟨0, 10, 17, 21⟩ : ExceptionTableEntry)] (htab.trans rfl) (fun zz hz => absurd hz List.not_mem_nil) (by decide) (by decide) (hT.use (List.mem_of_getElem? (i := 666) (by decide +kernel)) rfl) (hT.use (List.mem_of_getElem? (i := 477) (by decide +kernel)) rfl) hce hcv hcl ?_
    refine lv_astore (lv' := [(4, .ref q9), (0, .ref (ad 0 0)), (1, .int x1), (2, .int x2), (3, .ref (A 13))]) hx hb dL_ofPlace_13 hl (by decide) rfl (fun ls hl => ?_)
    refine lv_iconst (v := 1) hx hb dL_ofPlace_15 (by decide) ?_
    refine W.widen (k := 1) (n := 6) (Nat.le_of_ble_eq_true rfl) (Nat.le_of_ble_eq_true rfl) ?_
    exact nb_wret hA hx hb hr hlocks hW hF.gc hS dL_ofPlace_16
  · refine lv_aload_n hx hb dL_ofPlace_0 rfl (lv_at hl 3 rfl) ?_
    refine lv_iconst (v := 0) hx hb dL_ofPlace_1 (by decide) ?_
    refine lv_aload_n hx hb dL_ofPlace_2 rfl (lv_at hl 0 rfl) ?_
    refine lv_iload_n hx hb dL_ofPlace_3 rfl (lv_at hl 1 rfl) ?_
    refine lv_iload_n hx hb dL_ofPlace_4 rfl (lv_at hl 2 rfl) ?_
    refine nx_ci (nx_runV (As := [.int x1, .int x2]) (rest := [.int 0, .ref (A 13)]) (kd := 0) (k := 0) hx hb hml hown hSW hS hW (cx_X7_ofPlace l z ad N0 X u00 x1 x2 hfl h) mf_X7_ofPlace (List.mem_of_getElem? (i := 962) (by decide +kernel)) (by rfl) rfl rfl ⟨rfl, rfl⟩ ⟨Nat.le_of_ble_eq_true rfl, Nat.le_of_ble_eq_true rfl⟩ hl.1 (Nat.le_of_ble_eq_true rfl) dL_ofPlace_5 ⟨Nat.le_of_ble_eq_true rfl, Nat.le_of_ble_eq_true rfl⟩) hS (fun ce q9 H locs hce hcv hcl hW hS => ?_)
    refine vx_catch (E := "java/lang/IllegalArgumentException") (name := "java/lang/IllegalArgumentException") hown [(⟨0, 10, 13, 13⟩ : ExceptionTableEntry)] (⟨0, 10, 17, 21⟩ : ExceptionTableEntry) [] (htab.trans rfl) (fun zz hz => by rw [List.mem_singleton.mp hz]; exact Or.inr ⟨by decide, "java/lang/IndexOutOfBoundsException", hT.use (List.mem_of_getElem? (i := 666) (by decide +kernel)) rfl, hSO.2.2.2.2.2.2.2.1⟩) (by decide) (by decide) (hT.use (List.mem_of_getElem? (i := 680) (by decide +kernel)) rfl) (hT.use (List.mem_of_getElem? (i := 394) (by decide +kernel)) rfl) hce hcv hcl ?_
    refine lv_astore (lv' := [(4, .ref q9), (0, .ref (ad 0 0)), (1, .int x1), (2, .int x2), (3, .ref (A 13))]) hx hb dL_ofPlace_17 hl (by decide) rfl (fun ls hl => ?_)
    refine lv_iconst (v := 2) hx hb dL_ofPlace_19 (by decide) ?_
    refine W.widen (k := 1) (n := 6) (Nat.le_of_ble_eq_true rfl) (Nat.le_of_ble_eq_true rfl) ?_
    exact nb_wret hA hx hb hr hlocks hW hF.gc hS dL_ofPlace_20
def R_mark (x1 k w9 w : Int32) : Prop := (∃ u9, f_X7_mark N0 u00 x1 = some (.ok w9, u9) ∧ k = 0) ∨ (∃ u9, f_X7_mark N0 u00 x1 = some (.error "java/lang/IndexOutOfBoundsException", u9) ∧ k = 1 ∧ w9 = w)
theorem mfw_mark : MFw yL_mark cL_mark 4 [(0, 9, 12, 13)] 3 := ⟨List.mem_of_getElem? (i := 964) (by decide +kernel), List.mem_of_getElem? (i := 60) (by decide +kernel), List.mem_of_getElem? (i := 965) (by decide +kernel), by decide +kernel, by decide +kernel, by decide +kernel⟩
set_option maxRecDepth 100000 in
set_option maxHeartbeats 4000000 in
theorem w_mark (l : Launch) (hfl : l.stackTraces = false) (z : Zt) (o : Ot) (ad : Ad) (X : Gt) (hA : Raw ad) (A : Nat → Nat) (w : Int32) (hF : FM z (GC z ad N0 X u00) A (mW w)) (x1 : Int32) {k w9 : Int32} (h : R_mark x1 k w9 w) : MW l z o yL_mark cL_mark 4 [(0, 9, 12, 13)] { frames := 7, cells := 1, slots := 6, locals := 115 } 1 6 [.ref (ad 0 0), .int x1, .ref (A 13)] ad (GC z ad N0 X u00) (MQw z A k w9) := by
  refine va_MetW (hh := [(0, 9, 12, 13)]) (cc := cL_mark) (maxL := 4) (ret := some .int) (by decide) rfl ?_
  intro p e s m args below meth c s₁ B hml hv
  obtain ⟨rfl, hSW, hSO, hW⟩ := hv
  have hx := B.exec; have hb := B.bytes; have hr := B.returns; have hlocks := B.notSynchronized
  have hown : s.vm.findClass RL = some m.cls := findClass_of_methodNamed B.named
  have htab : c.exceptionTable.toList = tableOf [(0, 9, 12, 13)] := vx_table (x := yL_mark) B (atoms_spec (ws := [Cond.codeWith yL_mark cL_mark 4 (some .int) [(0, 9, 12, 13)]]) B.pre _ List.mem_cons_self)
  obtain ⟨hT, hK, hST, hB0⟩ := id hSW
  have hS : va_S (zA z) s.heap s.heap [] := va_S.rf
  have hl := lv_entry ([.ref (ad 0 0), .int x1, .ref (A 13)]) (n := 4) (Nat.le_of_ble_eq_true rfl)
  rw [lg_entry_eq]
  generalize (lg_sl ([.ref (ad 0 0), .int x1, .ref (A 13)]) ++ List.replicate (4 - (lg_sl ([.ref (ad 0 0), .int x1, .ref (A 13)])).length) Slot.unset).toArray = ls at hl ⊢
  have hl : lv_has ls 4 [(0, .ref (ad 0 0)), (1, .int x1), (2, .ref (A 13))] := hl
  rcases h with ⟨u9, h, rfl⟩ | ⟨u9, h, rfl, rfl⟩
  · refine lv_aload_n hx hb dL_mark_0 rfl (lv_at hl 2 rfl) ?_
    refine lv_iconst (v := 0) hx hb dL_mark_1 (by decide) ?_
    refine lv_aload_n hx hb dL_mark_2 rfl (lv_at hl 0 rfl) ?_
    refine lv_iload_n hx hb dL_mark_3 rfl (lv_at hl 1 rfl) ?_
    refine nb_ci (nb_runV (As := [.int x1]) (rest := [.int 0, .ref (A 13)]) (kd := 0) (k := 0) hx hb hml hown hSW hS hW (c_X7_mark l z ad N0 X u00 x1 h) mf_X7_mark (Or.inl (List.mem_of_getElem? (i := 966) (by decide +kernel))) (by rfl) rfl rfl ⟨rfl, rfl⟩ ⟨Nat.le_of_ble_eq_true rfl, Nat.le_of_ble_eq_true rfl⟩ hl.1 (Nat.le_of_ble_eq_true rfl) dL_mark_4 ⟨Nat.le_of_ble_eq_true rfl, Nat.le_of_ble_eq_true rfl⟩) hS (fun H locs hW hS => ?_)
    refine lv_i2l hx hb dL_mark_7 rfl ?_
    refine nb_out hA hx hb hK hW hS (hF.gc) rfl dL_mark_8 (fun H locs G9 hF9 hW hS => ?_)
    refine lv_goto (tgt := 15) hx hb dL_mark_9 (by decide) ?_
    refine lv_iconst (v := 0) hx hb dL_mark_15 (by decide) ?_
    refine W.widen (k := 1) (n := 6) (Nat.le_of_ble_eq_true rfl) (Nat.le_of_ble_eq_true rfl) ?_
    exact nb_wret hA hx hb hr hlocks hW hF9 hS dL_mark_16
  · refine lv_aload_n hx hb dL_mark_0 rfl (lv_at hl 2 rfl) ?_
    refine lv_iconst (v := 0) hx hb dL_mark_1 (by decide) ?_
    refine lv_aload_n hx hb dL_mark_2 rfl (lv_at hl 0 rfl) ?_
    refine lv_iload_n hx hb dL_mark_3 rfl (lv_at hl 1 rfl) ?_
    refine nx_ci (nx_runV (As := [.int x1]) (rest := [.int 0, .ref (A 13)]) (kd := 0) (k := 0) hx hb hml hown hSW hS hW (cx_X7_mark l z ad N0 X u00 x1 hfl h) mf_X7_mark (List.mem_of_getElem? (i := 966) (by decide +kernel)) (by rfl) rfl rfl ⟨rfl, rfl⟩ ⟨Nat.le_of_ble_eq_true rfl, Nat.le_of_ble_eq_true rfl⟩ hl.1 (Nat.le_of_ble_eq_true rfl) dL_mark_4 ⟨Nat.le_of_ble_eq_true rfl, Nat.le_of_ble_eq_true rfl⟩) hS (fun ce q9 H locs hce hcv hcl hW hS => ?_)
    refine vx_catch (E := "java/lang/IndexOutOfBoundsException") (name := "java/lang/IndexOutOfBoundsException") hown [] (⟨0, 9, 12, 13⟩ : ExceptionTableEntry) [] (htab.trans rfl) (fun zz hz => absurd hz List.not_mem_nil) (by decide) (by decide) (hT.use (List.mem_of_getElem? (i := 666) (by decide +kernel)) rfl) (hT.use (List.mem_of_getElem? (i := 477) (by decide +kernel)) rfl) hce hcv hcl ?_
    refine lv_astore_n (lv' := [(3, .ref q9), (0, .ref (ad 0 0)), (1, .int x1), (2, .ref (A 13))]) hx hb dL_mark_12 rfl hl (by decide) rfl (fun ls hl => ?_)
    refine lv_iconst (v := 1) hx hb dL_mark_13 (by decide) ?_
    refine W.widen (k := 1) (n := 6) (Nat.le_of_ble_eq_true rfl) (Nat.le_of_ble_eq_true rfl) ?_
    exact nb_wret hA hx hb hr hlocks hW hF.gc hS dL_mark_14
def R_ofRound (x1 x2 k w9 w : Int32) : Prop := (∃ u9, f_X7_ofRound N0 u00 x1 x2 = some (.ok w9, u9) ∧ k = 0) ∨ (∃ u9, f_X7_ofRound N0 u00 x1 x2 = some (.error "java/lang/IndexOutOfBoundsException", u9) ∧ k = 1 ∧ w9 = w) ∨ (∃ u9, f_X7_ofRound N0 u00 x1 x2 = some (.error "java/lang/IllegalArgumentException", u9) ∧ k = 2 ∧ w9 = w)
theorem mfw_ofRound : MFw yL_ofRound cL_ofRound 5 [(0, 10, 13, 13), (0, 10, 17, 21)] 4 := ⟨List.mem_of_getElem? (i := 968) (by decide +kernel), List.mem_of_getElem? (i := 60) (by decide +kernel), List.mem_of_getElem? (i := 969) (by decide +kernel), by decide +kernel, by decide +kernel, by decide +kernel⟩
set_option maxRecDepth 100000 in
set_option maxHeartbeats 4000000 in
theorem w_ofRound (l : Launch) (hfl : l.stackTraces = false) (z : Zt) (o : Ot) (ad : Ad) (X : Gt) (hA : Raw ad) (A : Nat → Nat) (w : Int32) (hF : FM z (GC z ad N0 X u00) A (mW w)) (x1 : Int32) (x2 : Int32) {k w9 : Int32} (h : R_ofRound x1 x2 k w9 w) : MW l z o yL_ofRound cL_ofRound 5 [(0, 10, 13, 13), (0, 10, 17, 21)] { frames := 7, cells := 1, slots := 6, locals := 104 } 1 6 [.ref (ad 0 0), .int x1, .int x2, .ref (A 13)] ad (GC z ad N0 X u00) (MQw z A k w9) := by
  refine va_MetW (hh := [(0, 10, 13, 13), (0, 10, 17, 21)]) (cc := cL_ofRound) (maxL := 5) (ret := some .int) (by decide) rfl ?_
  intro p e s m args below meth c s₁ B hml hv
  obtain ⟨rfl, hSW, hSO, hW⟩ := hv
  have hx := B.exec; have hb := B.bytes; have hr := B.returns; have hlocks := B.notSynchronized
  have hown : s.vm.findClass RL = some m.cls := findClass_of_methodNamed B.named
  have htab : c.exceptionTable.toList = tableOf [(0, 10, 13, 13), (0, 10, 17, 21)] := vx_table (x := yL_ofRound) B (atoms_spec (ws := [Cond.codeWith yL_ofRound cL_ofRound 5 (some .int) [(0, 10, 13, 13), (0, 10, 17, 21)]]) B.pre _ List.mem_cons_self)
  obtain ⟨hT, hK, hST, hB0⟩ := id hSW
  have hS : va_S (zA z) s.heap s.heap [] := va_S.rf
  have hl := lv_entry ([.ref (ad 0 0), .int x1, .int x2, .ref (A 13)]) (n := 5) (Nat.le_of_ble_eq_true rfl)
  rw [lg_entry_eq]
  generalize (lg_sl ([.ref (ad 0 0), .int x1, .int x2, .ref (A 13)]) ++ List.replicate (5 - (lg_sl ([.ref (ad 0 0), .int x1, .int x2, .ref (A 13)])).length) Slot.unset).toArray = ls at hl ⊢
  have hl : lv_has ls 5 [(0, .ref (ad 0 0)), (1, .int x1), (2, .int x2), (3, .ref (A 13))] := hl
  rcases h with ⟨u9, h, rfl⟩ | ⟨u9, h, rfl, rfl⟩ | ⟨u9, h, rfl, rfl⟩
  · refine lv_aload_n hx hb dL_ofRound_0 rfl (lv_at hl 3 rfl) ?_
    refine lv_iconst (v := 0) hx hb dL_ofRound_1 (by decide) ?_
    refine lv_aload_n hx hb dL_ofRound_2 rfl (lv_at hl 0 rfl) ?_
    refine lv_iload_n hx hb dL_ofRound_3 rfl (lv_at hl 1 rfl) ?_
    refine lv_iload_n hx hb dL_ofRound_4 rfl (lv_at hl 2 rfl) ?_
    refine nb_ci (nb_runV (As := [.int x1, .int x2]) (rest := [.int 0, .ref (A 13)]) (kd := 0) (k := 0) hx hb hml hown hSW hS hW (c_X7_ofRound l z ad N0 X u00 x1 x2 h) mf_X7_ofRound (Or.inl (List.mem_of_getElem? (i := 970) (by decide +kernel))) (by rfl) rfl rfl ⟨rfl, rfl⟩ ⟨Nat.le_of_ble_eq_true rfl, Nat.le_of_ble_eq_true rfl⟩ hl.1 (Nat.le_of_ble_eq_true rfl) dL_ofRound_5 ⟨Nat.le_of_ble_eq_true rfl, Nat.le_of_ble_eq_true rfl⟩) hS (fun H locs hW hS => ?_)
    refine lv_i2l hx hb dL_ofRound_8 rfl ?_
    refine nb_out hA hx hb hK hW hS (hF.gc) rfl dL_ofRound_9 (fun H locs G9 hF9 hW hS => ?_)
    refine lv_goto (tgt := 21) hx hb dL_ofRound_10 (by decide) ?_
    refine lv_iconst (v := 0) hx hb dL_ofRound_21 (by decide) ?_
    refine W.widen (k := 1) (n := 6) (Nat.le_of_ble_eq_true rfl) (Nat.le_of_ble_eq_true rfl) ?_
    exact nb_wret hA hx hb hr hlocks hW hF9 hS dL_ofRound_22
  · refine lv_aload_n hx hb dL_ofRound_0 rfl (lv_at hl 3 rfl) ?_
    refine lv_iconst (v := 0) hx hb dL_ofRound_1 (by decide) ?_
    refine lv_aload_n hx hb dL_ofRound_2 rfl (lv_at hl 0 rfl) ?_
    refine lv_iload_n hx hb dL_ofRound_3 rfl (lv_at hl 1 rfl) ?_
    refine lv_iload_n hx hb dL_ofRound_4 rfl (lv_at hl 2 rfl) ?_
    refine nx_ci (nx_runV (As := [.int x1, .int x2]) (rest := [.int 0, .ref (A 13)]) (kd := 0) (k := 0) hx hb hml hown hSW hS hW (cx_X7_ofRound l z ad N0 X u00 x1 x2 hfl h) mf_X7_ofRound (List.mem_of_getElem? (i := 970) (by decide +kernel)) (by rfl) rfl rfl ⟨rfl, rfl⟩ ⟨Nat.le_of_ble_eq_true rfl, Nat.le_of_ble_eq_true rfl⟩ hl.1 (Nat.le_of_ble_eq_true rfl) dL_ofRound_5 ⟨Nat.le_of_ble_eq_true rfl, Nat.le_of_ble_eq_true rfl⟩) hS (fun ce q9 H locs hce hcv hcl hW hS => ?_)
    refine vx_catch (E := "java/lang/IndexOutOfBoundsException") (name := "java/lang/IndexOutOfBoundsException") hown [] (⟨0, 10, 13, 13⟩ : ExceptionTableEntry) [(⟨0, 10, 17, 21⟩ : ExceptionTableEntry)] (htab.trans rfl) (fun zz hz => absurd hz List.not_mem_nil) (by decide) (by decide) (hT.use (List.mem_of_getElem? (i := 666) (by decide +kernel)) rfl) (hT.use (List.mem_of_getElem? (i := 477) (by decide +kernel)) rfl) hce hcv hcl ?_
    refine lv_astore (lv' := [(4, .ref q9), (0, .ref (ad 0 0)), (1, .int x1), (2, .int x2), (3, .ref (A 13))]) hx hb dL_ofRound_13 hl (by decide) rfl (fun ls hl => ?_)
    refine lv_iconst (v := 1) hx hb dL_ofRound_15 (by decide) ?_
    refine W.widen (k := 1) (n := 6) (Nat.le_of_ble_eq_true rfl) (Nat.le_of_ble_eq_true rfl) ?_
    exact nb_wret hA hx hb hr hlocks hW hF.gc hS dL_ofRound_16
  · refine lv_aload_n hx hb dL_ofRound_0 rfl (lv_at hl 3 rfl) ?_
    refine lv_iconst (v := 0) hx hb dL_ofRound_1 (by decide) ?_
    refine lv_aload_n hx hb dL_ofRound_2 rfl (lv_at hl 0 rfl) ?_
    refine lv_iload_n hx hb dL_ofRound_3 rfl (lv_at hl 1 rfl) ?_
    refine lv_iload_n hx hb dL_ofRound_4 rfl (lv_at hl 2 rfl) ?_
    refine nx_ci (nx_runV (As := [.int x1, .int x2]) (rest := [.int 0, .ref (A 13)]) (kd := 0) (k := 0) hx hb hml hown hSW hS hW (cx_X7_ofRound l z ad N0 X u00 x1 x2 hfl h) mf_X7_ofRound (List.mem_of_getElem? (i := 970) (by decide +kernel)) (by rfl) rfl rfl ⟨rfl, rfl⟩ ⟨Nat.le_of_ble_eq_true rfl, Nat.le_of_ble_eq_true rfl⟩ hl.1 (Nat.le_of_ble_eq_true rfl) dL_ofRound_5 ⟨Nat.le_of_ble_eq_true rfl, Nat.le_of_ble_eq_true rfl⟩) hS (fun ce q9 H locs hce hcv hcl hW hS => ?_)
    refine vx_catch (E := "java/lang/IllegalArgumentException") (name := "java/lang/IllegalArgumentException") hown [(⟨0, 10, 13, 13⟩ : ExceptionTableEntry)] (⟨0, 10, 17, 21⟩ : ExceptionTableEntry) [] (htab.trans rfl) (fun zz hz => by rw [List.mem_singleton.mp hz]; exact Or.inr ⟨by decide, "java/lang/IndexOutOfBoundsException", hT.use (List.mem_of_getElem? (i := 666) (by decide +kernel)) rfl, hSO.2.2.2.2.2.2.2.1⟩) (by decide) (by decide) (hT.use (List.mem_of_getElem? (i := 680) (by decide +kernel)) rfl) (hT.use (List.mem_of_getElem? (i := 394) (by decide +kernel)) rfl) hce hcv hcl ?_
    refine lv_astore (lv' := [(4, .ref q9), (0, .ref (ad 0 0)), (1, .int x1), (2, .int x2), (3, .ref (A 13))]) hx hb dL_ofRound_17 hl (by decide) rfl (fun ls hl => ?_)
    refine lv_iconst (v := 2) hx hb dL_ofRound_19 (by decide) ?_
    refine W.widen (k := 1) (n := 6) (Nat.le_of_ble_eq_true rfl) (Nat.le_of_ble_eq_true rfl) ?_
    exact nb_wret hA hx hb hr hlocks hW hF.gc hS dL_ofRound_20
def R_many (x1 k w9 w : Int32) : Prop := (∃ u9, f_X7_many N0 u00 x1 = some (.ok w9, u9) ∧ k = 0) ∨ (∃ u9, f_X7_many N0 u00 x1 = some (.error "java/lang/IllegalArgumentException", u9) ∧ k = 1 ∧ w9 = w)
theorem mfw_many : MFw yL_many cL_many 4 [(0, 9, 12, 21)] 3 := ⟨List.mem_of_getElem? (i := 972) (by decide +kernel), List.mem_of_getElem? (i := 60) (by decide +kernel), List.mem_of_getElem? (i := 973) (by decide +kernel), by decide +kernel, by decide +kernel, by decide +kernel⟩
set_option maxRecDepth 100000 in
set_option maxHeartbeats 4000000 in
theorem w_many (l : Launch) (hfl : l.stackTraces = false) (z : Zt) (o : Ot) (ad : Ad) (X : Gt) (hA : Raw ad) (A : Nat → Nat) (w : Int32) (hF : FM z (GC z ad N0 X u00) A (mW w)) (x1 : Int32) {k w9 : Int32} (h : R_many x1 k w9 w) : MW l z o yL_many cL_many 4 [(0, 9, 12, 21)] { frames := 7, cells := 1, slots := 6, locals := 135 } 1 6 [.ref (ad 0 0), .int x1, .ref (A 13)] ad (GC z ad N0 X u00) (MQw z A k w9) := by
  refine va_MetW (hh := [(0, 9, 12, 21)]) (cc := cL_many) (maxL := 4) (ret := some .int) (by decide) rfl ?_
  intro p e s m args below meth c s₁ B hml hv
  obtain ⟨rfl, hSW, hSO, hW⟩ := hv
  have hx := B.exec; have hb := B.bytes; have hr := B.returns; have hlocks := B.notSynchronized
  have hown : s.vm.findClass RL = some m.cls := findClass_of_methodNamed B.named
  have htab : c.exceptionTable.toList = tableOf [(0, 9, 12, 21)] := vx_table (x := yL_many) B (atoms_spec (ws := [Cond.codeWith yL_many cL_many 4 (some .int) [(0, 9, 12, 21)]]) B.pre _ List.mem_cons_self)
  obtain ⟨hT, hK, hST, hB0⟩ := id hSW
  have hS : va_S (zA z) s.heap s.heap [] := va_S.rf
  have hl := lv_entry ([.ref (ad 0 0), .int x1, .ref (A 13)]) (n := 4) (Nat.le_of_ble_eq_true rfl)
  rw [lg_entry_eq]
  generalize (lg_sl ([.ref (ad 0 0), .int x1, .ref (A 13)]) ++ List.replicate (4 - (lg_sl ([.ref (ad 0 0), .int x1, .ref (A 13)])).length) Slot.unset).toArray = ls at hl ⊢
  have hl : lv_has ls 4 [(0, .ref (ad 0 0)), (1, .int x1), (2, .ref (A 13))] := hl
  rcases h with ⟨u9, h, rfl⟩ | ⟨u9, h, rfl, rfl⟩
  · refine lv_aload_n hx hb dL_many_0 rfl (lv_at hl 2 rfl) ?_
    refine lv_iconst (v := 0) hx hb dL_many_1 (by decide) ?_
    refine lv_aload_n hx hb dL_many_2 rfl (lv_at hl 0 rfl) ?_
    refine lv_iload_n hx hb dL_many_3 rfl (lv_at hl 1 rfl) ?_
    refine nb_ci (nb_runV (As := [.int x1]) (rest := [.int 0, .ref (A 13)]) (kd := 0) (k := 0) hx hb hml hown hSW hS hW (c_X7_many l z ad N0 X u00 x1 h) mf_X7_many (Or.inl (List.mem_of_getElem? (i := 974) (by decide +kernel))) (by rfl) rfl rfl ⟨rfl, rfl⟩ ⟨Nat.le_of_ble_eq_true rfl, Nat.le_of_ble_eq_true rfl⟩ hl.1 (Nat.le_of_ble_eq_true rfl) dL_many_4 ⟨Nat.le_of_ble_eq_true rfl, Nat.le_of_ble_eq_true rfl⟩) hS (fun H locs hW hS => ?_)
    refine lv_i2l hx hb dL_many_7 rfl ?_
    refine nb_out hA hx hb hK hW hS (hF.gc) rfl dL_many_8 (fun H locs G9 hF9 hW hS => ?_)
    refine lv_goto (tgt := 15) hx hb dL_many_9 (by decide) ?_
    refine lv_iconst (v := 0) hx hb dL_many_15 (by decide) ?_
    refine W.widen (k := 1) (n := 6) (Nat.le_of_ble_eq_true rfl) (Nat.le_of_ble_eq_true rfl) ?_
    exact nb_wret hA hx hb hr hlocks hW hF9 hS dL_many_16
  · refine lv_aload_n hx hb dL_many_0 rfl (lv_at hl 2 rfl) ?_
    refine lv_iconst (v := 0) hx hb dL_many_1 (by decide) ?_
    refine lv_aload_n hx hb dL_many_2 rfl (lv_at hl 0 rfl) ?_
    refine lv_iload_n hx hb dL_many_3 rfl (lv_at hl 1 rfl) ?_
    refine nx_ci (nx_runV (As := [.int x1]) (rest := [.int 0, .ref (A 13)]) (kd := 0) (k := 0) hx hb hml hown hSW hS hW (cx_X7_many l z ad N0 X u00 x1 hfl h) mf_X7_many (List.mem_of_getElem? (i := 974) (by decide +kernel)) (by rfl) rfl rfl ⟨rfl, rfl⟩ ⟨Nat.le_of_ble_eq_true rfl, Nat.le_of_ble_eq_true rfl⟩ hl.1 (Nat.le_of_ble_eq_true rfl) dL_many_4 ⟨Nat.le_of_ble_eq_true rfl, Nat.le_of_ble_eq_true rfl⟩) hS (fun ce q9 H locs hce hcv hcl hW hS => ?_)
    refine vx_catch (E := "java/lang/IllegalArgumentException") (name := "java/lang/IllegalArgumentException") hown [] (⟨0, 9, 12, 21⟩ : ExceptionTableEntry) [] (htab.trans rfl) (fun zz hz => absurd hz List.not_mem_nil) (by decide) (by decide) (hT.use (List.mem_of_getElem? (i := 680) (by decide +kernel)) rfl) (hT.use (List.mem_of_getElem? (i := 394) (by decide +kernel)) rfl) hce hcv hcl ?_
    refine lv_astore_n (lv' := [(3, .ref q9), (0, .ref (ad 0 0)), (1, .int x1), (2, .ref (A 13))]) hx hb dL_many_12 rfl hl (by decide) rfl (fun ls hl => ?_)
    refine lv_iconst (v := 1) hx hb dL_many_13 (by decide) ?_
    refine W.widen (k := 1) (n := 6) (Nat.le_of_ble_eq_true rfl) (Nat.le_of_ble_eq_true rfl) ?_
    exact nb_wret hA hx hb hr hlocks hW hF.gc hS dL_many_14
def R_wouldTotal (x1 k w9 w : Int32) : Prop := (∃ u9, f_X7_wouldTotal N0 u00 x1 = some (.ok w9, u9) ∧ k = 0) ∨ (∃ u9, f_X7_wouldTotal N0 u00 x1 = some (.error "java/lang/IllegalArgumentException", u9) ∧ k = 1 ∧ w9 = w)
theorem mfw_wouldTotal : MFw yL_wouldTotal cL_wouldTotal 4 [(0, 9, 12, 21)] 3 := ⟨List.mem_of_getElem? (i := 976) (by decide +kernel), List.mem_of_getElem? (i := 60) (by decide +kernel), List.mem_of_getElem? (i := 977) (by decide +kernel), by decide +kernel, by decide +kernel, by decide +kernel⟩
set_option maxRecDepth 100000 in
set_option maxHeartbeats 4000000 in
theorem w_wouldTotal (l : Launch) (hfl : l.stackTraces = false) (z : Zt) (o : Ot) (ad : Ad) (X : Gt) (hA : Raw ad) (A : Nat → Nat) (w : Int32) (hF : FM z (GC z ad N0 X u00) A (mW w)) (x1 : Int32) {k w9 : Int32} (h : R_wouldTotal x1 k w9 w) : MW l z o yL_wouldTotal cL_wouldTotal 4 [(0, 9, 12, 21)] { frames := 7, cells := 1, slots := 6, locals := 116 } 1 6 [.ref (ad 0 0), .int x1, .ref (A 13)] ad (GC z ad N0 X u00) (MQw z A k w9) := by
  refine va_MetW (hh := [(0, 9, 12, 21)]) (cc := cL_wouldTotal) (maxL := 4) (ret := some .int) (by decide) rfl ?_
  intro p e s m args below meth c s₁ B hml hv
  obtain ⟨rfl, hSW, hSO, hW⟩ := hv
  have hx := B.exec; have hb := B.bytes; have hr := B.returns; have hlocks := B.notSynchronized
  have hown : s.vm.findClass RL = some m.cls := findClass_of_methodNamed B.named
  have htab : c.exceptionTable.toList = tableOf [(0, 9, 12, 21)] := vx_table (x := yL_wouldTotal) B (atoms_spec (ws := [Cond.codeWith yL_wouldTotal cL_wouldTotal 4 (some .int) [(0, 9, 12, 21)]]) B.pre _ List.mem_cons_self)
  obtain ⟨hT, hK, hST, hB0⟩ := id hSW
  have hS : va_S (zA z) s.heap s.heap [] := va_S.rf
  have hl := lv_entry ([.ref (ad 0 0), .int x1, .ref (A 13)]) (n := 4) (Nat.le_of_ble_eq_true rfl)
  rw [lg_entry_eq]
  generalize (lg_sl ([.ref (ad 0 0), .int x1, .ref (A 13)]) ++ List.replicate (4 - (lg_sl ([.ref (ad 0 0), .int x1, .ref (A 13)])).length) Slot.unset).toArray = ls at hl ⊢
  have hl : lv_has ls 4 [(0, .ref (ad 0 0)), (1, .int x1), (2, .ref (A 13))] := hl
  rcases h with ⟨u9, h, rfl⟩ | ⟨u9, h, rfl, rfl⟩
  · refine lv_aload_n hx hb dL_wouldTotal_0 rfl (lv_at hl 2 rfl) ?_
    refine lv_iconst (v := 0) hx hb dL_wouldTotal_1 (by decide) ?_
    refine lv_aload_n hx hb dL_wouldTotal_2 rfl (lv_at hl 0 rfl) ?_
    refine lv_iload_n hx hb dL_wouldTotal_3 rfl (lv_at hl 1 rfl) ?_
    refine nb_ci (nb_runV (As := [.int x1]) (rest := [.int 0, .ref (A 13)]) (kd := 0) (k := 0) hx hb hml hown hSW hS hW (c_X7_wouldTotal l z ad N0 X u00 x1 h) mf_X7_wouldTotal (Or.inl (List.mem_of_getElem? (i := 978) (by decide +kernel))) (by rfl) rfl rfl ⟨rfl, rfl⟩ ⟨Nat.le_of_ble_eq_true rfl, Nat.le_of_ble_eq_true rfl⟩ hl.1 (Nat.le_of_ble_eq_true rfl) dL_wouldTotal_4 ⟨Nat.le_of_ble_eq_true rfl, Nat.le_of_ble_eq_true rfl⟩) hS (fun H locs hW hS => ?_)
    refine lv_i2l hx hb dL_wouldTotal_7 rfl ?_
    refine nb_out hA hx hb hK hW hS (hF.gc) rfl dL_wouldTotal_8 (fun H locs G9 hF9 hW hS => ?_)
    refine lv_goto (tgt := 15) hx hb dL_wouldTotal_9 (by decide) ?_
    refine lv_iconst (v := 0) hx hb dL_wouldTotal_15 (by decide) ?_
    refine W.widen (k := 1) (n := 6) (Nat.le_of_ble_eq_true rfl) (Nat.le_of_ble_eq_true rfl) ?_
    exact nb_wret hA hx hb hr hlocks hW hF9 hS dL_wouldTotal_16
  · refine lv_aload_n hx hb dL_wouldTotal_0 rfl (lv_at hl 2 rfl) ?_
    refine lv_iconst (v := 0) hx hb dL_wouldTotal_1 (by decide) ?_
    refine lv_aload_n hx hb dL_wouldTotal_2 rfl (lv_at hl 0 rfl) ?_
    refine lv_iload_n hx hb dL_wouldTotal_3 rfl (lv_at hl 1 rfl) ?_
    refine nx_ci (nx_runV (As := [.int x1]) (rest := [.int 0, .ref (A 13)]) (kd := 0) (k := 0) hx hb hml hown hSW hS hW (cx_X7_wouldTotal l z ad N0 X u00 x1 hfl h) mf_X7_wouldTotal (List.mem_of_getElem? (i := 978) (by decide +kernel)) (by rfl) rfl rfl ⟨rfl, rfl⟩ ⟨Nat.le_of_ble_eq_true rfl, Nat.le_of_ble_eq_true rfl⟩ hl.1 (Nat.le_of_ble_eq_true rfl) dL_wouldTotal_4 ⟨Nat.le_of_ble_eq_true rfl, Nat.le_of_ble_eq_true rfl⟩) hS (fun ce q9 H locs hce hcv hcl hW hS => ?_)
    refine vx_catch (E := "java/lang/IllegalArgumentException") (name := "java/lang/IllegalArgumentException") hown [] (⟨0, 9, 12, 21⟩ : ExceptionTableEntry) [] (htab.trans rfl) (fun zz hz => absurd hz List.not_mem_nil) (by decide) (by decide) (hT.use (List.mem_of_getElem? (i := 680) (by decide +kernel)) rfl) (hT.use (List.mem_of_getElem? (i := 394) (by decide +kernel)) rfl) hce hcv hcl ?_
    refine lv_astore_n (lv' := [(3, .ref q9), (0, .ref (ad 0 0)), (1, .int x1), (2, .ref (A 13))]) hx hb dL_wouldTotal_12 rfl hl (by decide) rfl (fun ls hl => ?_)
    refine lv_iconst (v := 1) hx hb dL_wouldTotal_13 (by decide) ?_
    refine W.widen (k := 1) (n := 6) (Nat.le_of_ble_eq_true rfl) (Nat.le_of_ble_eq_true rfl) ?_
    exact nb_wret hA hx hb hr hlocks hW hF.gc hS dL_wouldTotal_14
def R_bestOrder (k w9 w : Int32) : Prop := (∃ u9, f_X7_bestOrder N0 u00 = some (.ok w9, u9) ∧ k = 0) ∨ (∃ u9, f_X7_bestOrder N0 u00 = some (.error "java/lang/IllegalStateException", u9) ∧ k = 1 ∧ w9 = w)
theorem mfw_bestOrder : MFw yL_bestOrder cL_bestOrder 3 [(0, 8, 11, 15)] 2 := ⟨List.mem_of_getElem? (i := 980) (by decide +kernel), List.mem_of_getElem? (i := 60) (by decide +kernel), List.mem_of_getElem? (i := 981) (by decide +kernel), by decide +kernel, by decide +kernel, by decide +kernel⟩
set_option maxRecDepth 100000 in
set_option maxHeartbeats 4000000 in
theorem w_bestOrder (l : Launch) (hfl : l.stackTraces = false) (z : Zt) (o : Ot) (ad : Ad) (X : Gt) (hA : Raw ad) (A : Nat → Nat) (w : Int32) (hF : FM z (GC z ad N0 X u00) A (mW w)) {k w9 : Int32} (h : R_bestOrder k w9 w) : MW l z o yL_bestOrder cL_bestOrder 3 [(0, 8, 11, 15)] { frames := 7, cells := 1, slots := 6, locals := 118 } 1 6 [.ref (ad 0 0), .ref (A 13)] ad (GC z ad N0 X u00) (MQw z A k w9) := by
  refine va_MetW (hh := [(0, 8, 11, 15)]) (cc := cL_bestOrder) (maxL := 3) (ret := some .int) (by decide) rfl ?_
  intro p e s m args below meth c s₁ B hml hv
  obtain ⟨rfl, hSW, hSO, hW⟩ := hv
  have hx := B.exec; have hb := B.bytes; have hr := B.returns; have hlocks := B.notSynchronized
  have hown : s.vm.findClass RL = some m.cls := findClass_of_methodNamed B.named
  have htab : c.exceptionTable.toList = tableOf [(0, 8, 11, 15)] := vx_table (x := yL_bestOrder) B (atoms_spec (ws := [Cond.codeWith yL_bestOrder cL_bestOrder 3 (some .int) [(0, 8, 11, 15)]]) B.pre _ List.mem_cons_self)
  obtain ⟨hT, hK, hST, hB0⟩ := id hSW
  have hS : va_S (zA z) s.heap s.heap [] := va_S.rf
  have hl := lv_entry ([.ref (ad 0 0), .ref (A 13)]) (n := 3) (Nat.le_of_ble_eq_true rfl)
  rw [lg_entry_eq]
  generalize (lg_sl ([.ref (ad 0 0), .ref (A 13)]) ++ List.replicate (3 - (lg_sl ([.ref (ad 0 0), .ref (A 13)])).length) Slot.unset).toArray = ls at hl ⊢
  have hl : lv_has ls 3 [(0, .ref (ad 0 0)), (1, .ref (A 13))] := hl
  rcases h with ⟨u9, h, rfl⟩ | ⟨u9, h, rfl, rfl⟩
  · refine lv_aload_n hx hb dL_bestOrder_0 rfl (lv_at hl 1 rfl) ?_
    refine lv_iconst (v := 0) hx hb dL_bestOrder_1 (by decide) ?_
    refine lv_aload_n hx hb dL_bestOrder_2 rfl (lv_at hl 0 rfl) ?_
    refine nb_ci (nb_runV (As := []) (rest := [.int 0, .ref (A 13)]) (kd := 0) (k := 0) hx hb hml hown hSW hS hW (c_X7_bestOrder l z ad N0 X u00 h) mf_X7_bestOrder (Or.inl (List.mem_of_getElem? (i := 982) (by decide +kernel))) (by rfl) rfl rfl ⟨rfl, rfl⟩ ⟨Nat.le_of_ble_eq_true rfl, Nat.le_of_ble_eq_true rfl⟩ hl.1 (Nat.le_of_ble_eq_true rfl) dL_bestOrder_3 ⟨Nat.le_of_ble_eq_true rfl, Nat.le_of_ble_eq_true rfl⟩) hS (fun H locs hW hS => ?_)
    refine lv_i2l hx hb dL_bestOrder_6 rfl ?_
    refine nb_out hA hx hb hK hW hS (hF.gc) rfl dL_bestOrder_7 (fun H locs G9 hF9 hW hS => ?_)
    refine lv_goto (tgt := 14) hx hb dL_bestOrder_8 (by decide) ?_
    refine lv_iconst (v := 0) hx hb dL_bestOrder_14 (by decide) ?_
    refine W.widen (k := 1) (n := 6) (Nat.le_of_ble_eq_true rfl) (Nat.le_of_ble_eq_true rfl) ?_
    exact nb_wret hA hx hb hr hlocks hW hF9 hS dL_bestOrder_15
  · refine lv_aload_n hx hb dL_bestOrder_0 rfl (lv_at hl 1 rfl) ?_
    refine lv_iconst (v := 0) hx hb dL_bestOrder_1 (by decide) ?_
    refine lv_aload_n hx hb dL_bestOrder_2 rfl (lv_at hl 0 rfl) ?_
    refine nx_ci (nx_runV (As := []) (rest := [.int 0, .ref (A 13)]) (kd := 0) (k := 0) hx hb hml hown hSW hS hW (cx_X7_bestOrder l z ad N0 X u00 hfl h) mf_X7_bestOrder (List.mem_of_getElem? (i := 982) (by decide +kernel)) (by rfl) rfl rfl ⟨rfl, rfl⟩ ⟨Nat.le_of_ble_eq_true rfl, Nat.le_of_ble_eq_true rfl⟩ hl.1 (Nat.le_of_ble_eq_true rfl) dL_bestOrder_3 ⟨Nat.le_of_ble_eq_true rfl, Nat.le_of_ble_eq_true rfl⟩) hS (fun ce q9 H locs hce hcv hcl hW hS => ?_)
    refine vx_catch (E := "java/lang/IllegalStateException") (name := "java/lang/IllegalStateException") hown [] (⟨0, 8, 11, 15⟩ : ExceptionTableEntry) [] (htab.trans rfl) (fun zz hz => absurd hz List.not_mem_nil) (by decide) (by decide) (hT.use (List.mem_of_getElem? (i := 667) (by decide +kernel)) rfl) (hT.use (List.mem_of_getElem? (i := 640) (by decide +kernel)) rfl) hce hcv hcl ?_
    refine lv_astore_n (lv' := [(2, .ref q9), (0, .ref (ad 0 0)), (1, .ref (A 13))]) hx hb dL_bestOrder_11 rfl hl (by decide) rfl (fun ls hl => ?_)
    refine lv_iconst (v := 1) hx hb dL_bestOrder_12 (by decide) ?_
    refine W.widen (k := 1) (n := 6) (Nat.le_of_ble_eq_true rfl) (Nat.le_of_ble_eq_true rfl) ?_
    exact nb_wret hA hx hb hr hlocks hW hF.gc hS dL_bestOrder_13
def R_bestTeach (x1 x2 k w9 w : Int32) : Prop := (∃ u9, f_X7_bestTeach N0 u00 x1 x2 = some (.error "java/lang/IndexOutOfBoundsException", u9) ∧ k = 1 ∧ w9 = w) ∨ (∃ u9, f_X7_bestTeach N0 u00 x1 x2 = some (.error "java/lang/IllegalArgumentException", u9) ∧ k = 2 ∧ w9 = w)
theorem mfw_bestTeach : MFw yL_bestTeach cL_bestTeach 5 [(0, 10, 13, 13), (0, 10, 17, 21)] 4 := ⟨List.mem_of_getElem? (i := 984) (by decide +kernel), List.mem_of_getElem? (i := 60) (by decide +kernel), List.mem_of_getElem? (i := 985) (by decide +kernel), by decide +kernel, by decide +kernel, by decide +kernel⟩
set_option maxRecDepth 100000 in
set_option maxHeartbeats 4000000 in
theorem w_bestTeach (l : Launch) (hfl : l.stackTraces = false) (z : Zt) (o : Ot) (ad : Ad) (X : Gt) (hA : Raw ad) (A : Nat → Nat) (w : Int32) (hF : FM z (GC z ad N0 X u00) A (mW w)) (x1 : Int32) (x2 : Int32) {k w9 : Int32} (h : R_bestTeach x1 x2 k w9 w) : MW l z o yL_bestTeach cL_bestTeach 5 [(0, 10, 13, 13), (0, 10, 17, 21)] { frames := 8, cells := 1, slots := 6, locals := 139 } 1 6 [.ref (ad 0 0), .int x1, .int x2, .ref (A 13)] ad (GC z ad N0 X u00) (MQw z A k w9) := by
  refine va_MetW (hh := [(0, 10, 13, 13), (0, 10, 17, 21)]) (cc := cL_bestTeach) (maxL := 5) (ret := some .int) (by decide) rfl ?_
  intro p e s m args below meth c s₁ B hml hv
  obtain ⟨rfl, hSW, hSO, hW⟩ := hv
  have hx := B.exec; have hb := B.bytes; have hr := B.returns; have hlocks := B.notSynchronized
  have hown : s.vm.findClass RL = some m.cls := findClass_of_methodNamed B.named
  have htab : c.exceptionTable.toList = tableOf [(0, 10, 13, 13), (0, 10, 17, 21)] := vx_table (x := yL_bestTeach) B (atoms_spec (ws := [Cond.codeWith yL_bestTeach cL_bestTeach 5 (some .int) [(0, 10, 13, 13), (0, 10, 17, 21)]]) B.pre _ List.mem_cons_self)
  obtain ⟨hT, hK, hST, hB0⟩ := id hSW
  have hS : va_S (zA z) s.heap s.heap [] := va_S.rf
  have hl := lv_entry ([.ref (ad 0 0), .int x1, .int x2, .ref (A 13)]) (n := 5) (Nat.le_of_ble_eq_true rfl)
  rw [lg_entry_eq]
  generalize (lg_sl ([.ref (ad 0 0), .int x1, .int x2, .ref (A 13)]) ++ List.replicate (5 - (lg_sl ([.ref (ad 0 0), .int x1, .int x2, .ref (A 13)])).length) Slot.unset).toArray = ls at hl ⊢
  have hl : lv_has ls 5 [(0, .ref (ad 0 0)), (1, .int x1), (2, .int x2), (3, .ref (A 13))] := hl
  rcases h with ⟨u9, h, rfl, rfl⟩ | ⟨u9, h, rfl, rfl⟩
  · refine lv_aload_n hx hb dL_bestTeach_0 rfl (lv_at hl 3 rfl) ?_
    refine lv_iconst (v := 0) hx hb dL_bestTeach_1 (by decide) ?_
    refine lv_aload_n hx hb dL_bestTeach_2 rfl (lv_at hl 0 rfl) ?_
    refine lv_iload_n hx hb dL_bestTeach_3 rfl (lv_at hl 1 rfl) ?_
    refine lv_iload_n hx hb dL_bestTeach_4 rfl (lv_at hl 2 rfl) ?_
    refine nx_ci (nx_runV (As := [.int x1, .int x2]) (rest := [.int 0, .ref (A 13)]) (kd := 0) (k := 0) hx hb hml hown hSW hS hW (cx_X7_bestTeach l z ad N0 X u00 x1 x2 hfl h) mf_X7_bestTeach (List.mem_of_getElem? (i := 986) (by decide +kernel)) (by rfl) rfl rfl ⟨rfl, rfl⟩ ⟨Nat.le_of_ble_eq_true rfl, Nat.le_of_ble_eq_true rfl⟩ hl.1 (Nat.le_of_ble_eq_true rfl) dL_bestTeach_5 ⟨Nat.le_of_ble_eq_true rfl, Nat.le_of_ble_eq_true rfl⟩) hS (fun ce q9 H locs hce hcv hcl hW hS => ?_)
    refine vx_catch (E := "java/lang/IndexOutOfBoundsException") (name := "java/lang/IndexOutOfBoundsException") hown [] (⟨0, 10, 13, 13⟩ : ExceptionTableEntry) [(⟨0, 10, 17, 21⟩ : ExceptionTableEntry)] (htab.trans rfl) (fun zz hz => absurd hz List.not_mem_nil) (by decide) (by decide) (hT.use (List.mem_of_getElem? (i := 666) (by decide +kernel)) rfl) (hT.use (List.mem_of_getElem? (i := 477) (by decide +kernel)) rfl) hce hcv hcl ?_
    refine lv_astore (lv' := [(4, .ref q9), (0, .ref (ad 0 0)), (1, .int x1), (2, .int x2), (3, .ref (A 13))]) hx hb dL_bestTeach_13 hl (by decide) rfl (fun ls hl => ?_)
    refine lv_iconst (v := 1) hx hb dL_bestTeach_15 (by decide) ?_
    refine W.widen (k := 1) (n := 6) (Nat.le_of_ble_eq_true rfl) (Nat.le_of_ble_eq_true rfl) ?_
    exact nb_wret hA hx hb hr hlocks hW hF.gc hS dL_bestTeach_16
  · refine lv_aload_n hx hb dL_bestTeach_0 rfl (lv_at hl 3 rfl) ?_
    refine lv_iconst (v := 0) hx hb dL_bestTeach_1 (by decide) ?_
    refine lv_aload_n hx hb dL_bestTeach_2 rfl (lv_at hl 0 rfl) ?_
    refine lv_iload_n hx hb dL_bestTeach_3 rfl (lv_at hl 1 rfl) ?_
    refine lv_iload_n hx hb dL_bestTeach_4 rfl (lv_at hl 2 rfl) ?_
    refine nx_ci (nx_runV (As := [.int x1, .int x2]) (rest := [.int 0, .ref (A 13)]) (kd := 0) (k := 0) hx hb hml hown hSW hS hW (cx_X7_bestTeach l z ad N0 X u00 x1 x2 hfl h) mf_X7_bestTeach (List.mem_of_getElem? (i := 986) (by decide +kernel)) (by rfl) rfl rfl ⟨rfl, rfl⟩ ⟨Nat.le_of_ble_eq_true rfl, Nat.le_of_ble_eq_true rfl⟩ hl.1 (Nat.le_of_ble_eq_true rfl) dL_bestTeach_5 ⟨Nat.le_of_ble_eq_true rfl, Nat.le_of_ble_eq_true rfl⟩) hS (fun ce q9 H locs hce hcv hcl hW hS => ?_)
    refine vx_catch (E := "java/lang/IllegalArgumentException") (name := "java/lang/IllegalArgumentException") hown [(⟨0, 10, 13, 13⟩ : ExceptionTableEntry)] (⟨0, 10, 17, 21⟩ : ExceptionTableEntry) [] (htab.trans rfl) (fun zz hz => by rw [List.mem_singleton.mp hz]; exact Or.inr ⟨by decide, "java/lang/IndexOutOfBoundsException", hT.use (List.mem_of_getElem? (i := 666) (by decide +kernel)) rfl, hSO.2.2.2.2.2.2.2.1⟩) (by decide) (by decide) (hT.use (List.mem_of_getElem? (i := 680) (by decide +kernel)) rfl) (hT.use (List.mem_of_getElem? (i := 394) (by decide +kernel)) rfl) hce hcv hcl ?_
    refine lv_astore (lv' := [(4, .ref q9), (0, .ref (ad 0 0)), (1, .int x1), (2, .int x2), (3, .ref (A 13))]) hx hb dL_bestTeach_17 hl (by decide) rfl (fun ls hl => ?_)
    refine lv_iconst (v := 2) hx hb dL_bestTeach_19 (by decide) ?_
    refine W.widen (k := 1) (n := 6) (Nat.le_of_ble_eq_true rfl) (Nat.le_of_ble_eq_true rfl) ?_
    exact nb_wret hA hx hb hr hlocks hW hF.gc hS dL_bestTeach_20
def R_blowsFor (x1 k w9 w : Int32) : Prop := (∃ u9, f_X7_blowsFor N0 u00 x1 = some (.error "java/lang/IndexOutOfBoundsException", u9) ∧ k = 1 ∧ w9 = w)
theorem mfw_blowsFor : MFw yL_blowsFor cL_blowsFor 4 [(0, 9, 12, 13)] 3 := ⟨List.mem_of_getElem? (i := 988) (by decide +kernel), List.mem_of_getElem? (i := 60) (by decide +kernel), List.mem_of_getElem? (i := 989) (by decide +kernel), by decide +kernel, by decide +kernel, by decide +kernel⟩
set_option maxRecDepth 100000 in
set_option maxHeartbeats 4000000 in
theorem w_blowsFor (l : Launch) (hfl : l.stackTraces = false) (z : Zt) (o : Ot) (ad : Ad) (X : Gt) (hA : Raw ad) (A : Nat → Nat) (w : Int32) (hF : FM z (GC z ad N0 X u00) A (mW w)) (x1 : Int32) {k w9 : Int32} (h : R_blowsFor x1 k w9 w) : MW l z o yL_blowsFor cL_blowsFor 4 [(0, 9, 12, 13)] { frames := 8, cells := 1, slots := 6, locals := 132 } 1 6 [.ref (ad 0 0), .int x1, .ref (A 13)] ad (GC z ad N0 X u00) (MQw z A k w9) := by
  refine va_MetW (hh := [(0, 9, 12, 13)]) (cc := cL_blowsFor) (maxL := 4) (ret := some .int) (by decide) rfl ?_
  intro p e s m args below meth c s₁ B hml hv
  obtain ⟨rfl, hSW, hSO, hW⟩ := hv
  have hx := B.exec; have hb := B.bytes; have hr := B.returns; have hlocks := B.notSynchronized
  have hown : s.vm.findClass RL = some m.cls := findClass_of_methodNamed B.named
  have htab : c.exceptionTable.toList = tableOf [(0, 9, 12, 13)] := vx_table (x := yL_blowsFor) B (atoms_spec (ws := [Cond.codeWith yL_blowsFor cL_blowsFor 4 (some .int) [(0, 9, 12, 13)]]) B.pre _ List.mem_cons_self)
  obtain ⟨hT, hK, hST, hB0⟩ := id hSW
  have hS : va_S (zA z) s.heap s.heap [] := va_S.rf
  have hl := lv_entry ([.ref (ad 0 0), .int x1, .ref (A 13)]) (n := 4) (Nat.le_of_ble_eq_true rfl)
  rw [lg_entry_eq]
  generalize (lg_sl ([.ref (ad 0 0), .int x1, .ref (A 13)]) ++ List.replicate (4 - (lg_sl ([.ref (ad 0 0), .int x1, .ref (A 13)])).length) Slot.unset).toArray = ls at hl ⊢
  have hl : lv_has ls 4 [(0, .ref (ad 0 0)), (1, .int x1), (2, .ref (A 13))] := hl
  obtain ⟨u9, h, rfl, rfl⟩ := h
  refine lv_aload_n hx hb dL_blowsFor_0 rfl (lv_at hl 2 rfl) ?_
  refine lv_iconst (v := 0) hx hb dL_blowsFor_1 (by decide) ?_
  refine lv_aload_n hx hb dL_blowsFor_2 rfl (lv_at hl 0 rfl) ?_
  refine lv_iload_n hx hb dL_blowsFor_3 rfl (lv_at hl 1 rfl) ?_
  refine nx_ci (nx_runV (As := [.int x1]) (rest := [.int 0, .ref (A 13)]) (kd := 0) (k := 0) hx hb hml hown hSW hS hW (cx_X7_blowsFor l z ad N0 X u00 x1 hfl h) mf_X7_blowsFor (List.mem_of_getElem? (i := 990) (by decide +kernel)) (by rfl) rfl rfl ⟨rfl, rfl⟩ ⟨Nat.le_of_ble_eq_true rfl, Nat.le_of_ble_eq_true rfl⟩ hl.1 (Nat.le_of_ble_eq_true rfl) dL_blowsFor_4 ⟨Nat.le_of_ble_eq_true rfl, Nat.le_of_ble_eq_true rfl⟩) hS (fun ce q9 H locs hce hcv hcl hW hS => ?_)
  refine vx_catch (E := "java/lang/IndexOutOfBoundsException") (name := "java/lang/IndexOutOfBoundsException") hown [] (⟨0, 9, 12, 13⟩ : ExceptionTableEntry) [] (htab.trans rfl) (fun zz hz => absurd hz List.not_mem_nil) (by decide) (by decide) (hT.use (List.mem_of_getElem? (i := 666) (by decide +kernel)) rfl) (hT.use (List.mem_of_getElem? (i := 477) (by decide +kernel)) rfl) hce hcv hcl ?_
  refine lv_astore_n (lv' := [(3, .ref q9), (0, .ref (ad 0 0)), (1, .int x1), (2, .ref (A 13))]) hx hb dL_blowsFor_12 rfl hl (by decide) rfl (fun ls hl => ?_)
  refine lv_iconst (v := 1) hx hb dL_blowsFor_13 (by decide) ?_
  refine W.widen (k := 1) (n := 6) (Nat.le_of_ble_eq_true rfl) (Nat.le_of_ble_eq_true rfl) ?_
  exact nb_wret hA hx hb hr hlocks hW hF.gc hS dL_blowsFor_14
