/-! 31: the helpers of the law -/
theorem lk_L_26 : LK RL 26 yX7_ofPan := Or.inl (List.mem_of_getElem? (i := 537) (by decide +kernel))
theorem lk_L_117 : LK RL 117 yX7_off := Or.inl (List.mem_of_getElem? (i := 781) (by decide +kernel))
theorem lk_L_120 : LK RL 120 yX7_blow := Or.inl (List.mem_of_getElem? (i := 782) (by decide +kernel))
theorem mf_X7_blow : MFv yX7_blow cX7_blow 5 (some .int) 3 := ⟨List.mem_of_getElem? (i := 783) (by decide +kernel), List.mem_of_getElem? (i := 784) (by decide +kernel), List.mem_of_getElem? (i := 29) (by decide +kernel), List.mem_of_getElem? (i := 785) (by decide +kernel), by decide +kernel, by decide +kernel, by decide +kernel⟩
theorem lm_L_123 : Cond.methodLink RL 123 Lib.Math.min.name ∈ lw_tbl := List.mem_of_getElem? (i := 788) (by decide +kernel)
theorem lm_L_128 : Cond.methodLink RL 128 Lib.Math.max.name ∈ lw_tbl := List.mem_of_getElem? (i := 789) (by decide +kernel)
theorem lm_L_131 : Cond.methodLink RL 131 Lib.Math.abs.name ∈ lw_tbl := List.mem_of_getElem? (i := 790) (by decide +kernel)
theorem lk_L_134 : LK RL 134 yX7_blowsFor := Or.inl (List.mem_of_getElem? (i := 794) (by decide +kernel))
theorem lk_L_65 : LK RL 65 yX7_many := Or.inl (List.mem_of_getElem? (i := 595) (by decide +kernel))
theorem lk_L_137 : LK RL 137 yX7_tuner := Or.inl (List.mem_of_getElem? (i := 795) (by decide +kernel))
theorem mf_X7_tuner : MFv yX7_tuner cX7_tuner 4 (some .int) 2 := ⟨List.mem_of_getElem? (i := 796) (by decide +kernel), List.mem_of_getElem? (i := 797) (by decide +kernel), List.mem_of_getElem? (i := 29) (by decide +kernel), List.mem_of_getElem? (i := 798) (by decide +kernel), by decide +kernel, by decide +kernel, by decide +kernel⟩
theorem lk_L_161 : LK RL 161 yX7_mark := Or.inl (List.mem_of_getElem? (i := 864) (by decide +kernel))
theorem lk_L_77 : LK RL 77 yX7_ofPlayer := Or.inl (List.mem_of_getElem? (i := 563) (by decide +kernel))
theorem lk_L_59 : LK RL 59 yX7_ofPhrase := Or.inl (List.mem_of_getElem? (i := 555) (by decide +kernel))
theorem lk_L_156 : LK RL 156 yJ6_bitCount_0f7a4 := Or.inl (List.mem_of_getElem? (i := 863) (by decide +kernel))
theorem lk_L_56 : LK RL 56 yX7_memory := Or.inl (List.mem_of_getElem? (i := 568) (by decide +kernel))
theorem lk_L_140 : LK RL 140 yX7_teach := Or.inl (List.mem_of_getElem? (i := 804) (by decide +kernel))
theorem mf_X7_teach : MFv yX7_teach cX7_teach 5 (some .int) 3 := ⟨List.mem_of_getElem? (i := 805) (by decide +kernel), List.mem_of_getElem? (i := 806) (by decide +kernel), List.mem_of_getElem? (i := 29) (by decide +kernel), List.mem_of_getElem? (i := 807) (by decide +kernel), by decide +kernel, by decide +kernel, by decide +kernel⟩
theorem lk_L_145 : LK RL 145 yX7_play := Or.inl (List.mem_of_getElem? (i := 814) (by decide +kernel))
theorem mf_X7_play : MFv yX7_play cX7_play 3 (some .int) 0 := ⟨List.mem_of_getElem? (i := 815) (by decide +kernel), List.mem_of_getElem? (i := 816) (by decide +kernel), List.mem_of_getElem? (i := 29) (by decide +kernel), List.mem_of_getElem? (i := 817) (by decide +kernel), by decide +kernel, by decide +kernel, by decide +kernel⟩
theorem lk_L_148 : LK RL 148 yX7_ofRound := Or.inl (List.mem_of_getElem? (i := 837) (by decide +kernel))
theorem mna_151 : Cond.classLink RL 151 "[[I" ∈ lw_tbl ∧ Cond.arrayOver (.array .int) ∈ lw_tbl ∧ Cond.arrayClass .int ∈ lw_tbl := ⟨List.mem_of_getElem? (i := 841) (by decide +kernel), List.mem_of_getElem? (i := 83) (by decide +kernel), List.mem_of_getElem? (i := 75) (by decide +kernel)⟩
theorem lk_L_101 : LK RL 101 yX7_wouldTotal := Or.inl (List.mem_of_getElem? (i := 648) (by decide +kernel))
theorem lk_L_153 : LK RL 153 yX7_pass := Or.inl (List.mem_of_getElem? (i := 842) (by decide +kernel))
theorem mf_X7_pass : MFv yX7_pass cX7_pass 5 (some .int) 3 := ⟨List.mem_of_getElem? (i := 843) (by decide +kernel), List.mem_of_getElem? (i := 844) (by decide +kernel), List.mem_of_getElem? (i := 29) (by decide +kernel), List.mem_of_getElem? (i := 845) (by decide +kernel), by decide +kernel, by decide +kernel, by decide +kernel⟩
/-- below -/
def f_L_below (N : Nt) (u : St) (x0 : Int32) (x1 : Int32) : Option (Int32 × St) :=
  gd (¬ x1 = 0) <|
  nm (irem (x0 &&& 2147483647) x1) fun v2 =>
  some (v2, u)
set_option maxRecDepth 100000 in
set_option maxHeartbeats 4000000 in
theorem c_L_below (l : Launch) (z : Zt) (ad : Ad) (N : Nt) (X : Gt) (u : St) (x0 : Int32) (x1 : Int32) {r9 : Int32} {u9 : St} (h : f_L_below N u x0 x1 = some (r9, u9)) : MC l z yL_below cL_below 2 (some .int) { frames := 0, cells := 0, slots := 0, locals := 0 } 0 0 [.int x0, .int x1] ad (GC z ad N X u) (QI z ad (GC z ad N X u9) r9) := by
  refine Met.ofW (cc := cL_below) (maxL := 2) (ret := (some .int)) (by decide) rfl ?_
  intro p e s m args below meth c s₁ B hml hv
  obtain ⟨rfl, hSW, hW⟩ := hv
  have hx := B.exec; have hb := B.bytes; have hr := B.returns; have hlocks := B.notSynchronized
  have hown : s.vm.findClass RL = some m.cls := findClass_of_methodNamed B.named
  obtain ⟨hT, hK, hST, hB0⟩ := id hSW
  have hS : va_S (zA z) s.heap s.heap [] := va_S.rf
  have hl := lv_entry ([.int x0, .int x1]) (n := 2) (Nat.le_of_ble_eq_true rfl)
  rw [lg_entry_eq]
  generalize (lg_sl ([.int x0, .int x1]) ++ List.replicate (2 - (lg_sl ([.int x0, .int x1])).length) Slot.unset).toArray = ls at hl ⊢
  have hl : lv_has ls 2 [(0, .int x0), (1, .int x1)] := hl
  unfold f_L_below at h
  refine lv_iload_n hx hb dL_below_0 rfl (lv_at hl 0 rfl) ?_
  refine lv_ldc (v := 2147483647) hx hb hown (hT.use (List.mem_of_getElem? (i := 773) (by decide +kernel)) rfl) dL_below_1 ?_
  refine lv_iand hx hb dL_below_3 ?_
  refine lv_iload_n hx hb dL_below_4 rfl (lv_at hl 1 rfl) ?_
  obtain ⟨g1, h⟩ := gd_s h
  refine lv_irem hx hb dL_below_5 g1 ?_
  refine lv_topi (fun v2 ev2 => ?_)
  replace h := nm_at ev2 h
  exact ne_iret hx hb hr rfl hlocks hW hS dL_below_6 h
/-- isHit -/
def f_L_isHit (N : Nt) (u : St) (x1 : Int32) (x2 : Int32) (x3 : Int32) : Option (Except String Int32 × St) :=
  if x3 = 0 then
    some (.ok 1, u)
  else
    xb (f_X7_ofPan N u x1 1) fun r2 u4 =>
    xb (f_X7_off N u4 x1 x2) fun r5 u7 =>
    nm (irem (x2 + 4) 8) fun v8 =>
    xb (f_X7_off N u7 x1 v8) fun r09 u11 =>
    xb (f_X7_blow N u11 x1 x2 x3) fun r12 u14 =>
    nm (mmin 99 (r5 + x3)) fun v15 =>
    nm (mmax (-99) v15) fun v16 =>
    if r12 = v16 then
      nm (irem (x2 + 4) 8) fun v18 =>
      xb (f_X7_off N u14 x1 v18) fun r19 u21 =>
      if r19 = r09 then
        xb (f_X7_ofPan N u21 x1 1) fun r23 u25 =>
        nm (mabs x3) fun v26 =>
        if r23 = (r2 + v26) then
          some (.ok 1, u25)
        else
          some (.ok 0, u25)
      else
        some (.ok 0, u21)
    else
      some (.ok 0, u14)
set_option maxRecDepth 100000 in
set_option maxHeartbeats 4000000 in
theorem c_L_isHit (l : Launch) (z : Zt) (ad : Ad) (N : Nt) (X : Gt) (u : St) (x1 : Int32) (x2 : Int32) (x3 : Int32) {r9 : Int32} {u9 : St} (h : f_L_isHit N u x1 x2 x3 = some (.ok r9, u9)) : MC l z yL_isHit cL_isHit 8 (some .boolean) { frames := 4, cells := 0, slots := 0, locals := 90 } 0 0 [.ref (ad 0 0), .int x1, .int x2, .int x3] ad (GC z ad N X u) (QI z ad (GC z ad N X u9) r9) := by
  refine Met.ofW (cc := cL_isHit) (maxL := 8) (ret := (some .boolean)) (by decide) rfl ?_
  intro p e s m args below meth c s₁ B hml hv
  obtain ⟨rfl, hSW, hW⟩ := hv
  have hx := B.exec; have hb := B.bytes; have hr := B.returns; have hlocks := B.notSynchronized
  have hown : s.vm.findClass RL = some m.cls := findClass_of_methodNamed B.named
  obtain ⟨hT, hK, hST, hB0⟩ := id hSW
  have hS : va_S (zA z) s.heap s.heap [] := va_S.rf
  have hl := lv_entry ([.ref (ad 0 0), .int x1, .int x2, .int x3]) (n := 8) (Nat.le_of_ble_eq_true rfl)
  rw [lg_entry_eq]
  generalize (lg_sl ([.ref (ad 0 0), .int x1, .int x2, .int x3]) ++ List.replicate (8 - (lg_sl ([.ref (ad 0 0), .int x1, .int x2, .int x3])).length) Slot.unset).toArray = ls at hl ⊢
  have hl : lv_has ls 8 [(0, .ref (ad 0 0)), (1, .int x1), (2, .int x2), (3, .int x3)] := hl
  unfold f_L_isHit at h
  refine lv_iload_n hx hb dL_isHit_0 rfl (lv_at hl 3 rfl) ?_
  refine lv_if_ne (tgt := 6) hx hb dL_isHit_1 (by decide) (fun c1 => ?_) (fun c1 => ?_)
  · replace h := ite_f h c1
    refine lv_aload_n hx hb dL_isHit_6 rfl (lv_at hl 0 rfl) ?_
    refine lv_iload_n hx hb dL_isHit_7 rfl (lv_at hl 1 rfl) ?_
    refine lv_iconst (v := 1) hx hb dL_isHit_8 (by decide) ?_
    obtain ⟨r2, u4, h3, h⟩ := xb_s h
    refine nb_ci (nb_runV (As := [.int x1, .int 1]) (rest := []) hx hb hml hown hSW hS hW (c_X7_ofPan l z ad N X u x1 1 h3) mf_X7_ofPan lk_L_26 kr_0 rfl rfl ⟨rfl, rfl⟩ ⟨Nat.le_of_ble_eq_true rfl, Nat.le_of_ble_eq_true rfl⟩ hl.1 (Nat.le_of_ble_eq_true rfl) dL_isHit_9 ⟨Nat.le_of_ble_eq_true rfl, Nat.le_of_ble_eq_true rfl⟩) hS (fun H locs (hW : GW z ad (GC z ad N X u4) H) hS => ?_)
    refine lv_istore (lv' := [(4, .int r2), (0, .ref (ad 0 0)), (1, .int x1), (2, .int x2), (3, .int x3)]) hx hb dL_isHit_12 hl (by decide) rfl (fun ls hl => ?_)
    refine lv_aload_n hx hb dL_isHit_14 rfl (lv_at hl 1 rfl) ?_
    refine lv_iload_n hx hb dL_isHit_15 rfl (lv_at hl 2 rfl) ?_
    refine lv_iload_n hx hb dL_isHit_16 rfl (lv_at hl 3 rfl) ?_
    obtain ⟨r5, u7, h6, h⟩ := xb_s h
    refine nb_ci (nb_runV (As := [.int x1, .int x2]) (rest := []) hx hb hml hown hSW hS hW (c_X7_off l z ad N X u4 x1 x2 h6) mf_X7_off lk_L_117 kr_0 rfl rfl ⟨rfl, rfl⟩ ⟨Nat.le_of_ble_eq_true rfl, Nat.le_of_ble_eq_true rfl⟩ hl.1 (Nat.le_of_ble_eq_true rfl) dL_isHit_17 ⟨Nat.le_of_ble_eq_true rfl, Nat.le_of_ble_eq_true rfl⟩) hS (fun H locs (hW : GW z ad (GC z ad N X u7) H) hS => ?_)
    refine lv_istore (lv' := [(5, .int r5), (4, .int r2), (0, .ref (ad 0 0)), (1, .int x1), (2, .int x2), (3, .int x3)]) hx hb dL_isHit_20 hl (by decide) rfl (fun ls hl => ?_)
    refine lv_aload_n hx hb dL_isHit_22 rfl (lv_at hl 2 rfl) ?_
    refine lv_iload_n hx hb dL_isHit_23 rfl (lv_at hl 3 rfl) ?_
    refine lv_iload_n hx hb dL_isHit_24 rfl (lv_at hl 4 rfl) ?_
    refine lv_iconst (v := 4) hx hb dL_isHit_25 (by decide) ?_
    refine lv_iadd hx hb dL_isHit_26 ?_
    refine lv_bipush (v := 8) hx hb dL_isHit_27 (by decide) ?_
    refine lv_irem hx hb dL_isHit_29 (by decide) ?_
    refine lv_topi (fun v8 ev8 => ?_)
    replace h := nm_at ev8 h
    obtain ⟨r09, u11, h10, h⟩ := xb_s h
    refine nb_ci (nb_runV (As := [.int x1, .int v8]) (rest := []) hx hb hml hown hSW hS hW (c_X7_off l z ad N X u7 x1 v8 h10) mf_X7_off lk_L_117 kr_0 rfl rfl ⟨rfl, rfl⟩ ⟨Nat.le_of_ble_eq_true rfl, Nat.le_of_ble_eq_true rfl⟩ hl.1 (Nat.le_of_ble_eq_true rfl) dL_isHit_30 ⟨Nat.le_of_ble_eq_true rfl, Nat.le_of_ble_eq_true rfl⟩) hS (fun H locs (hW : GW z ad (GC z ad N X u11) H) hS => ?_)
    refine lv_istore (lv' := [(6, .int r09), (5, .int r5), (4, .int r2), (0, .ref (ad 0 0)), (1, .int x1), (2, .int x2), (3, .int x3)]) hx hb dL_isHit_33 hl (by decide) rfl (fun ls hl => ?_)
    refine lv_aload_n hx hb dL_isHit_35 rfl (lv_at hl 3 rfl) ?_
    refine lv_iload_n hx hb dL_isHit_36 rfl (lv_at hl 4 rfl) ?_
    refine lv_iload_n hx hb dL_isHit_37 rfl (lv_at hl 5 rfl) ?_
    refine lv_iload_n hx hb dL_isHit_38 rfl (lv_at hl 6 rfl) ?_
    obtain ⟨r12, u14, h13, h⟩ := xb_s h
    refine nb_ci (nb_runV (As := [.int x1, .int x2, .int x3]) (rest := []) hx hb hml hown hSW hS hW (c_X7_blow l z ad N X u11 x1 x2 x3 h13) mf_X7_blow lk_L_120 kr_0 rfl rfl ⟨rfl, rfl⟩ ⟨Nat.le_of_ble_eq_true rfl, Nat.le_of_ble_eq_true rfl⟩ hl.1 (Nat.le_of_ble_eq_true rfl) dL_isHit_39 ⟨Nat.le_of_ble_eq_true rfl, Nat.le_of_ble_eq_true rfl⟩) hS (fun H locs (hW : GW z ad (GC z ad N X u14) H) hS => ?_)
    refine lv_istore (lv' := [(7, .int r12), (6, .int r09), (5, .int r5), (4, .int r2), (0, .ref (ad 0 0)), (1, .int x1), (2, .int x2), (3, .int x3)]) hx hb dL_isHit_42 hl (by decide) rfl (fun ls hl => ?_)
    refine lv_iload hx hb dL_isHit_44 (lv_at hl 0 rfl) ?_
    refine lv_bipush (v := (-99)) hx hb dL_isHit_46 (by decide) ?_
    refine lv_bipush (v := 99) hx hb dL_isHit_48 (by decide) ?_
    refine lv_iload hx hb dL_isHit_50 (lv_at hl 2 rfl) ?_
    refine lv_iload_n hx hb dL_isHit_52 rfl (lv_at hl 7 rfl) ?_
    refine lv_iadd hx hb dL_isHit_53 ?_
    refine nb_mmin hx hb hml hl.1 hown hT lm_L_123 mf_Math_min ⟨Nat.le_of_ble_eq_true rfl, Nat.le_of_ble_eq_true rfl⟩ ⟨Nat.le_of_ble_eq_true rfl, Nat.le_of_ble_eq_true rfl⟩ dL_isHit_54 ?_
    refine lv_topi (fun v15 ev15 => ?_)
    replace h := nm_at ev15 h
    refine nb_mmax hx hb hml hl.1 hown hT lm_L_128 mf_Math_max ⟨Nat.le_of_ble_eq_true rfl, Nat.le_of_ble_eq_true rfl⟩ ⟨Nat.le_of_ble_eq_true rfl, Nat.le_of_ble_eq_true rfl⟩ dL_isHit_57 ?_
    refine lv_topi (fun v16 ev16 => ?_)
    replace h := nm_at ev16 h
    refine lv_icmp_ne (tgt := 99) hx hb dL_isHit_60 (by decide) (fun c17 => ?_) (fun c17 => ?_)
    · replace h := ite_f h c17
      refine lv_iconst (v := 0) hx hb dL_isHit_99 (by decide) ?_
      exact ne_iretX hx hb hr rfl hlocks hW hS dL_isHit_100 h
    · replace h := ite_t h c17
      refine lv_aload_n hx hb dL_isHit_63 rfl (lv_at hl 4 rfl) ?_
      refine lv_iload_n hx hb dL_isHit_64 rfl (lv_at hl 5 rfl) ?_
      refine lv_iload_n hx hb dL_isHit_65 rfl (lv_at hl 6 rfl) ?_
      refine lv_iconst (v := 4) hx hb dL_isHit_66 (by decide) ?_
      refine lv_iadd hx hb dL_isHit_67 ?_
      refine lv_bipush (v := 8) hx hb dL_isHit_68 (by decide) ?_
      refine lv_irem hx hb dL_isHit_70 (by decide) ?_
      refine lv_topi (fun v18 ev18 => ?_)
      replace h := nm_at ev18 h
      obtain ⟨r19, u21, h20, h⟩ := xb_s h
      refine nb_ci (nb_runV (As := [.int x1, .int v18]) (rest := []) hx hb hml hown hSW hS hW (c_X7_off l z ad N X u14 x1 v18 h20) mf_X7_off lk_L_117 kr_0 rfl rfl ⟨rfl, rfl⟩ ⟨Nat.le_of_ble_eq_true rfl, Nat.le_of_ble_eq_true rfl⟩ hl.1 (Nat.le_of_ble_eq_true rfl) dL_isHit_71 ⟨Nat.le_of_ble_eq_true rfl, Nat.le_of_ble_eq_true rfl⟩) hS (fun H locs (hW : GW z ad (GC z ad N X u21) H) hS => ?_)
      refine lv_iload hx hb dL_isHit_74 (lv_at hl 1 rfl) ?_
      refine lv_icmp_ne (tgt := 99) hx hb dL_isHit_76 (by decide) (fun c22 => ?_) (fun c22 => ?_)
      · replace h := ite_f h c22
        refine lv_iconst (v := 0) hx hb dL_isHit_99 (by decide) ?_
        exact ne_iretX hx hb hr rfl hlocks hW hS dL_isHit_100 h
      · replace h := ite_t h c22
        refine lv_aload_n hx hb dL_isHit_79 rfl (lv_at hl 4 rfl) ?_
        refine lv_iload_n hx hb dL_isHit_80 rfl (lv_at hl 5 rfl) ?_
        refine lv_iconst (v := 1) hx hb dL_isHit_81 (by decide) ?_
        obtain ⟨r23, u25, h24, h⟩ := xb_s h
        refine nb_ci (nb_runV (As := [.int x1, .int 1]) (rest := []) hx hb hml hown hSW hS hW (c_X7_ofPan l z ad N X u21 x1 1 h24) mf_X7_ofPan lk_L_26 kr_0 rfl rfl ⟨rfl, rfl⟩ ⟨Nat.le_of_ble_eq_true rfl, Nat.le_of_ble_eq_true rfl⟩ hl.1 (Nat.le_of_ble_eq_true rfl) dL_isHit_82 ⟨Nat.le_of_ble_eq_true rfl, Nat.le_of_ble_eq_true rfl⟩) hS (fun H locs (hW : GW z ad (GC z ad N X u25) H) hS => ?_)
        refine lv_iload hx hb dL_isHit_85 (lv_at hl 3 rfl) ?_
        refine lv_iload_n hx hb dL_isHit_87 rfl (lv_at hl 7 rfl) ?_
        refine nb_mabs hx hb hml hl.1 hown hT lm_L_131 mf_Math_abs ⟨Nat.le_of_ble_eq_true rfl, Nat.le_of_ble_eq_true rfl⟩ ⟨Nat.le_of_ble_eq_true rfl, Nat.le_of_ble_eq_true rfl⟩ dL_isHit_88 ?_
        refine lv_topi (fun v26 ev26 => ?_)
        replace h := nm_at ev26 h
        refine lv_iadd hx hb dL_isHit_91 ?_
        refine lv_icmp_ne (tgt := 99) hx hb dL_isHit_92 (by decide) (fun c27 => ?_) (fun c27 => ?_)
        · replace h := ite_f h c27
          refine lv_iconst (v := 0) hx hb dL_isHit_99 (by decide) ?_
          exact ne_iretX hx hb hr rfl hlocks hW hS dL_isHit_100 h
        · replace h := ite_t h c27
          refine lv_iconst (v := 1) hx hb dL_isHit_95 (by decide) ?_
          refine lv_goto (tgt := 100) hx hb dL_isHit_96 (by decide) ?_
          exact ne_iretX hx hb hr rfl hlocks hW hS dL_isHit_100 h
  · replace h := ite_t h c1
    refine lv_iconst (v := 1) hx hb dL_isHit_4 (by decide) ?_
    exact ne_iretX hx hb hr rfl hlocks hW hS dL_isHit_5 h
/-- isTuned -/
def f_L_isTuned_B83 (N : Nt) (y6 : Int32) (y1 : Int32) (y2 : Int32) (u : St) : Option (Except String Int32 × St) :=
  xb (f_X7_ofPan N u y1 2) fun r23 u25 =>
  if r23 = 1 then
    some (.ok 1, u25)
  else
    xb (f_X7_ofPan N u25 y1 3) fun r27 u29 =>
    if 8 ≤ r27 then
      some (.ok 0, u29)
    else
      if y6 = (y2 / 10) then
        some (.ok 1, u29)
      else
        some (.ok 0, u29)
def f_L_isTuned (N : Nt) (u : St) (x1 : Int32) (x2 : Int32) : Option (Except String Int32 × St) :=
  xb (f_X7_blowsFor N u x1) fun r1 u3 =>
  xb (f_X7_many N u3 7) fun r4 u6 =>
  xb (f_X7_ofPan N u6 x1 4) fun r7 u09 =>
  xb (f_X7_tuner N u09 x1 x2) fun r10 u12 =>
  if (x2 / 10) < r10 then
    some (.ok 0, u12)
  else
    xb (f_X7_many N u12 7) fun r14 u16 =>
    if r14 = (r4 - (4 * r10)) then
      xb (f_X7_ofPan N u16 x1 4) fun r18 u20 =>
      if r18 = (r7 + r10) then
        if r1 < 0 then
          f_L_isTuned_B83 N r10 x1 x2 u20
        else
          if r1 ≤ (x2 / 10) then
            if r10 = r1 then
              xb (f_X7_ofPan N u20 x1 3) fun r34 u36 =>
              if r34 = 8 then
                xb (f_X7_blowsFor N u36 x1) fun r38 u40 =>
                if r38 = 0 then
                  some (.ok 1, u40)
                else
                  some (.ok 0, u40)
              else
                some (.ok 0, u36)
            else
              some (.ok 0, u20)
          else
            f_L_isTuned_B83 N r10 x1 x2 u20
      else
        some (.ok 0, u20)
    else
      some (.ok 0, u16)
set_option maxRecDepth 100000 in
set_option maxHeartbeats 4000000 in
theorem c_L_isTuned (l : Launch) (z : Zt) (ad : Ad) (N : Nt) (X : Gt) (u : St) (x1 : Int32) (x2 : Int32) {r9 : Int32} {u9 : St} (h : f_L_isTuned N u x1 x2 = some (.ok r9, u9)) : MC l z yL_isTuned cL_isTuned 7 (some .boolean) { frames := 6, cells := 0, slots := 0, locals := 135 } 0 0 [.ref (ad 0 0), .int x1, .int x2] ad (GC z ad N X u) (QI z ad (GC z ad N X u9) r9) := by
  refine Met.ofW (cc := cL_isTuned) (maxL := 7) (ret := (some .boolean)) (by decide) rfl ?_
  intro p e s m args below meth c s₁ B hml hv
  obtain ⟨rfl, hSW, hW⟩ := hv
  have hx := B.exec; have hb := B.bytes; have hr := B.returns; have hlocks := B.notSynchronized
  have hown : s.vm.findClass RL = some m.cls := findClass_of_methodNamed B.named
  obtain ⟨hT, hK, hST, hB0⟩ := id hSW
  have hS : va_S (zA z) s.heap s.heap [] := va_S.rf
  have hl := lv_entry ([.ref (ad 0 0), .int x1, .int x2]) (n := 7) (Nat.le_of_ble_eq_true rfl)
  rw [lg_entry_eq]
  generalize (lg_sl ([.ref (ad 0 0), .int x1, .int x2]) ++ List.replicate (7 - (lg_sl ([.ref (ad 0 0), .int x1, .int x2])).length) Slot.unset).toArray = ls at hl ⊢
  have hl : lv_has ls 7 [(0, .ref (ad 0 0)), (1, .int x1), (2, .int x2)] := hl
  let WW : Nat → Nat → Heap → List Loc → JFrame → Prop := fun c9 s9 H locs g => W p l e (headSpec [Cond.code yL_isTuned cL_isTuned 7 (some .boolean)] { frames := 6, cells := 0, slots := 0, locals := 135 }).room s m [.ref (ad 0 0), .int x1, .int x2].toArray below meth c H locs c9 s9 (MQ below (QI z ad (GC z ad N X u9) r9) [.ref (ad 0 0), .int x1, .int x2].toArray s 0 0 (zA z)) g
  have hB83 : ∀ (y6 : Int32) (y1 : Int32) (y2 : Int32) (u : St) (H : Heap) (locs : List Loc) (ls : Array Slot), lv_has ls 7 [(6, .int y6), (0, .ref (ad 0 0)), (1, .int y1), (2, .int y2)] → GW z ad (GC z ad N X u) H → va_S (zA z) s.heap H locs → f_L_isTuned_B83 N y6 y1 y2 u = some (.ok r9, u9) → WW 0 0 H locs (F0 m 83 ls []) := by
    intro y6 y1 y2 u H locs ls hl hW hS h
    change W p l e _ s m _ below meth c H locs 0 0 _ (F0 m 83 ls [])
    unfold f_L_isTuned_B83 at h
    refine lv_aload_n hx hb dL_isTuned_83 rfl (lv_at hl 1 rfl) ?_
    refine lv_iload_n hx hb dL_isTuned_84 rfl (lv_at hl 2 rfl) ?_
    refine lv_iconst (v := 2) hx hb dL_isTuned_85 (by decide) ?_
    obtain ⟨r23, u25, h24, h⟩ := xb_s h
    refine nb_ci (nb_runV (As := [.int y1, .int 2]) (rest := []) hx hb hml hown hSW hS hW (c_X7_ofPan l z ad N X u y1 2 h24) mf_X7_ofPan lk_L_26 kr_0 rfl rfl ⟨rfl, rfl⟩ ⟨Nat.le_of_ble_eq_true rfl, Nat.le_of_ble_eq_true rfl⟩ hl.1 (Nat.le_of_ble_eq_true rfl) dL_isTuned_86 ⟨Nat.le_of_ble_eq_true rfl, Nat.le_of_ble_eq_true rfl⟩) hS (fun H locs (hW : GW z ad (GC z ad N X u25) H) hS => ?_)
    refine lv_iconst (v := 1) hx hb dL_isTuned_89 (by decide) ?_
    refine lv_icmp_eq (tgt := 113) hx hb dL_isTuned_90 (by decide) (fun c26 => ?_) (fun c26 => ?_)
    · replace h := ite_t h c26
      refine lv_iconst (v := 1) hx hb dL_isTuned_113 (by decide) ?_
      refine lv_goto (tgt := 118) hx hb dL_isTuned_114 (by decide) ?_
      exact ne_iretX hx hb hr rfl hlocks hW hS dL_isTuned_118 h
    · replace h := ite_f h c26
      refine lv_aload_n hx hb dL_isTuned_93 rfl (lv_at hl 1 rfl) ?_
      refine lv_iload_n hx hb dL_isTuned_94 rfl (lv_at hl 2 rfl) ?_
      refine lv_iconst (v := 3) hx hb dL_isTuned_95 (by decide) ?_
      obtain ⟨r27, u29, h28, h⟩ := xb_s h
      refine nb_ci (nb_runV (As := [.int y1, .int 3]) (rest := []) hx hb hml hown hSW hS hW (c_X7_ofPan l z ad N X u25 y1 3 h28) mf_X7_ofPan lk_L_26 kr_0 rfl rfl ⟨rfl, rfl⟩ ⟨Nat.le_of_ble_eq_true rfl, Nat.le_of_ble_eq_true rfl⟩ hl.1 (Nat.le_of_ble_eq_true rfl) dL_isTuned_96 ⟨Nat.le_of_ble_eq_true rfl, Nat.le_of_ble_eq_true rfl⟩) hS (fun H locs (hW : GW z ad (GC z ad N X u29) H) hS => ?_)
      refine lv_bipush (v := 8) hx hb dL_isTuned_99 (by decide) ?_
      refine lv_icmp_ge (tgt := 117) hx hb dL_isTuned_101 (by decide) (fun c30 => ?_) (fun c30 => ?_)
      · replace h := ite_t h c30
        refine lv_iconst (v := 0) hx hb dL_isTuned_117 (by decide) ?_
        exact ne_iretX hx hb hr rfl hlocks hW hS dL_isTuned_118 h
      · replace h := ite_f h c30
        refine lv_iload hx hb dL_isTuned_104 (lv_at hl 0 rfl) ?_
        refine lv_iload_n hx hb dL_isTuned_106 rfl (lv_at hl 3 rfl) ?_
        refine lv_bipush (v := 10) hx hb dL_isTuned_107 (by decide) ?_
        refine lv_idiv hx hb dL_isTuned_109 (by decide) ?_
        refine lv_icmp_ne (tgt := 117) hx hb dL_isTuned_110 (by decide) (fun c31 => ?_) (fun c31 => ?_)
        · replace h := ite_f h c31
          refine lv_iconst (v := 0) hx hb dL_isTuned_117 (by decide) ?_
          exact ne_iretX hx hb hr rfl hlocks hW hS dL_isTuned_118 h
        · replace h := ite_t h c31
          refine lv_iconst (v := 1) hx hb dL_isTuned_113 (by decide) ?_
          refine lv_goto (tgt := 118) hx hb dL_isTuned_114 (by decide) ?_
          exact ne_iretX hx hb hr rfl hlocks hW hS dL_isTuned_118 h
  unfold f_L_isTuned at h
  refine lv_aload_n hx hb dL_isTuned_0 rfl (lv_at hl 0 rfl) ?_
  refine lv_iload_n hx hb dL_isTuned_1 rfl (lv_at hl 1 rfl) ?_
  obtain ⟨r1, u3, h2, h⟩ := xb_s h
  refine nb_ci (nb_runV (As := [.int x1]) (rest := []) hx hb hml hown hSW hS hW (c_X7_blowsFor l z ad N X u x1 h2) mf_X7_blowsFor lk_L_134 kr_0 rfl rfl ⟨rfl, rfl⟩ ⟨Nat.le_of_ble_eq_true rfl, Nat.le_of_ble_eq_true rfl⟩ hl.1 (Nat.le_of_ble_eq_true rfl) dL_isTuned_2 ⟨Nat.le_of_ble_eq_true rfl, Nat.le_of_ble_eq_true rfl⟩) hS (fun H locs (hW : GW z ad (GC z ad N X u3) H) hS => ?_)
  refine lv_istore_n (lv' := [(3, .int r1), (0, .ref (ad 0 0)), (1, .int x1), (2, .int x2)]) hx hb dL_isTuned_5 rfl hl (by decide) rfl (fun ls hl => ?_)
  refine lv_aload_n hx hb dL_isTuned_6 rfl (lv_at hl 1 rfl) ?_
  refine lv_bipush (v := 7) hx hb dL_isTuned_7 (by decide) ?_
  obtain ⟨r4, u6, h5, h⟩ := xb_s h
  refine nb_ci (nb_runV (As := [.int 7]) (rest := []) hx hb hml hown hSW hS hW (c_X7_many l z ad N X u3 7 h5) mf_X7_many lk_L_65 kr_0 rfl rfl ⟨rfl, rfl⟩ ⟨Nat.le_of_ble_eq_true rfl, Nat.le_of_ble_eq_true rfl⟩ hl.1 (Nat.le_of_ble_eq_true rfl) dL_isTuned_9 ⟨Nat.le_of_ble_eq_true rfl, Nat.le_of_ble_eq_true rfl⟩) hS (fun H locs (hW : GW z ad (GC z ad N X u6) H) hS => ?_)
  refine lv_istore (lv' := [(4, .int r4), (3, .int r1), (0, .ref (ad 0 0)), (1, .int x1), (2, .int x2)]) hx hb dL_isTuned_12 hl (by decide) rfl (fun ls hl => ?_)
  refine lv_aload_n hx hb dL_isTuned_14 rfl (lv_at hl 2 rfl) ?_
  refine lv_iload_n hx hb dL_isTuned_15 rfl (lv_at hl 3 rfl) ?_
  refine lv_iconst (v := 4) hx hb dL_isTuned_16 (by decide) ?_
  obtain ⟨r7, u09, h8, h⟩ := xb_s h
  refine nb_ci (nb_runV (As := [.int x1, .int 4]) (rest := []) hx hb hml hown hSW hS hW (c_X7_ofPan l z ad N X u6 x1 4 h8) mf_X7_ofPan lk_L_26 kr_0 rfl rfl ⟨rfl, rfl⟩ ⟨Nat.le_of_ble_eq_true rfl, Nat.le_of_ble_eq_true rfl⟩ hl.1 (Nat.le_of_ble_eq_true rfl) dL_isTuned_17 ⟨Nat.le_of_ble_eq_true rfl, Nat.le_of_ble_eq_true rfl⟩) hS (fun H locs (hW : GW z ad (GC z ad N X u09) H) hS => ?_)
  refine lv_istore (lv' := [(5, .int r7), (4, .int r4), (3, .int r1), (0, .ref (ad 0 0)), (1, .int x1), (2, .int x2)]) hx hb dL_isTuned_20 hl (by decide) rfl (fun ls hl => ?_)
  refine lv_aload_n hx hb dL_isTuned_22 rfl (lv_at hl 3 rfl) ?_
  refine lv_iload_n hx hb dL_isTuned_23 rfl (lv_at hl 4 rfl) ?_
  refine lv_iload_n hx hb dL_isTuned_24 rfl (lv_at hl 5 rfl) ?_
  obtain ⟨r10, u12, h11, h⟩ := xb_s h
  refine nb_ci (nb_runV (As := [.int x1, .int x2]) (rest := []) hx hb hml hown hSW hS hW (c_X7_tuner l z ad N X u09 x1 x2 h11) mf_X7_tuner lk_L_137 kr_0 rfl rfl ⟨rfl, rfl⟩ ⟨Nat.le_of_ble_eq_true rfl, Nat.le_of_ble_eq_true rfl⟩ hl.1 (Nat.le_of_ble_eq_true rfl) dL_isTuned_25 ⟨Nat.le_of_ble_eq_true rfl, Nat.le_of_ble_eq_true rfl⟩) hS (fun H locs (hW : GW z ad (GC z ad N X u12) H) hS => ?_)
  refine lv_istore (lv' := [(6, .int r10), (5, .int r7), (4, .int r4), (3, .int r1), (0, .ref (ad 0 0)), (1, .int x1), (2, .int x2)]) hx hb dL_isTuned_28 hl (by decide) rfl (fun ls hl => ?_)
  refine lv_iload hx hb dL_isTuned_30 (lv_at hl 0 rfl) ?_
  refine lv_iload_n hx hb dL_isTuned_32 rfl (lv_at hl 6 rfl) ?_
  refine lv_bipush (v := 10) hx hb dL_isTuned_33 (by decide) ?_
  refine lv_idiv hx hb dL_isTuned_35 (by decide) ?_
  refine lv_icmp_gt (tgt := 69) hx hb dL_isTuned_36 (by decide) (fun c13 => ?_) (fun c13 => ?_)
  · replace h := ite_t h c13
    refine lv_iconst (v := 0) hx hb dL_isTuned_69 (by decide) ?_
    exact ne_iretX hx hb hr rfl hlocks hW hS dL_isTuned_70 h
  · replace h := ite_f h c13
    refine lv_aload_n hx hb dL_isTuned_39 rfl (lv_at hl 4 rfl) ?_
    refine lv_bipush (v := 7) hx hb dL_isTuned_40 (by decide) ?_
    obtain ⟨r14, u16, h15, h⟩ := xb_s h
    refine nb_ci (nb_runV (As := [.int 7]) (rest := []) hx hb hml hown hSW hS hW (c_X7_many l z ad N X u12 7 h15) mf_X7_many lk_L_65 kr_0 rfl rfl ⟨rfl, rfl⟩ ⟨Nat.le_of_ble_eq_true rfl, Nat.le_of_ble_eq_true rfl⟩ hl.1 (Nat.le_of_ble_eq_true rfl) dL_isTuned_42 ⟨Nat.le_of_ble_eq_true rfl, Nat.le_of_ble_eq_true rfl⟩) hS (fun H locs (hW : GW z ad (GC z ad N X u16) H) hS => ?_)
    refine lv_iload hx hb dL_isTuned_45 (lv_at hl 2 rfl) ?_
    refine lv_iconst (v := 4) hx hb dL_isTuned_47 (by decide) ?_
    refine lv_iload hx hb dL_isTuned_48 (lv_at hl 0 rfl) ?_
    refine lv_imul hx hb dL_isTuned_50 ?_
    refine lv_isub hx hb dL_isTuned_51 ?_
    refine lv_icmp_ne (tgt := 69) hx hb dL_isTuned_52 (by decide) (fun c17 => ?_) (fun c17 => ?_)
    · replace h := ite_f h c17
      refine lv_iconst (v := 0) hx hb dL_isTuned_69 (by decide) ?_
      exact ne_iretX hx hb hr rfl hlocks hW hS dL_isTuned_70 h
    · replace h := ite_t h c17
      refine lv_aload_n hx hb dL_isTuned_55 rfl (lv_at hl 4 rfl) ?_
      refine lv_iload_n hx hb dL_isTuned_56 rfl (lv_at hl 5 rfl) ?_
      refine lv_iconst (v := 4) hx hb dL_isTuned_57 (by decide) ?_
      obtain ⟨r18, u20, h19, h⟩ := xb_s h
      refine nb_ci (nb_runV (As := [.int x1, .int 4]) (rest := []) hx hb hml hown hSW hS hW (c_X7_ofPan l z ad N X u16 x1 4 h19) mf_X7_ofPan lk_L_26 kr_0 rfl rfl ⟨rfl, rfl⟩ ⟨Nat.le_of_ble_eq_true rfl, Nat.le_of_ble_eq_true rfl⟩ hl.1 (Nat.le_of_ble_eq_true rfl) dL_isTuned_58 ⟨Nat.le_of_ble_eq_true rfl, Nat.le_of_ble_eq_true rfl⟩) hS (fun H locs (hW : GW z ad (GC z ad N X u20) H) hS => ?_)
      refine lv_iload hx hb dL_isTuned_61 (lv_at hl 1 rfl) ?_
      refine lv_iload hx hb dL_isTuned_63 (lv_at hl 0 rfl) ?_
      refine lv_iadd hx hb dL_isTuned_65 ?_
      refine lv_icmp_eq (tgt := 71) hx hb dL_isTuned_66 (by decide) (fun c21 => ?_) (fun c21 => ?_)
      · replace h := ite_t h c21
        refine lv_iload_n hx hb dL_isTuned_71 rfl (lv_at hl 3 rfl) ?_
        refine lv_if_lt (tgt := 83) hx hb dL_isTuned_72 (by decide) (fun c22 => ?_) (fun c22 => ?_)
        · replace h := ite_t h c22
          exact hB83 _ _ _ _ _ _ _ (lv_sub hl [0, 4, 5, 6] rfl) hW hS h
        · replace h := ite_f h c22
          refine lv_iload_n hx hb dL_isTuned_75 rfl (lv_at hl 3 rfl) ?_
          refine lv_iload_n hx hb dL_isTuned_76 rfl (lv_at hl 6 rfl) ?_
          refine lv_bipush (v := 10) hx hb dL_isTuned_77 (by decide) ?_
          refine lv_idiv hx hb dL_isTuned_79 (by decide) ?_
          refine lv_icmp_le (tgt := 119) hx hb dL_isTuned_80 (by decide) (fun c32 => ?_) (fun c32 => ?_)
          · replace h := ite_t h c32
            refine lv_iload hx hb dL_isTuned_119 (lv_at hl 0 rfl) ?_
            refine lv_iload_n hx hb dL_isTuned_121 rfl (lv_at hl 3 rfl) ?_
            refine lv_icmp_ne (tgt := 148) hx hb dL_isTuned_122 (by decide) (fun c33 => ?_) (fun c33 => ?_)
            · replace h := ite_f h c33
              refine lv_iconst (v := 0) hx hb dL_isTuned_148 (by decide) ?_
              exact ne_iretX hx hb hr rfl hlocks hW hS dL_isTuned_149 h
            · replace h := ite_t h c33
              refine lv_aload_n hx hb dL_isTuned_125 rfl (lv_at hl 4 rfl) ?_
              refine lv_iload_n hx hb dL_isTuned_126 rfl (lv_at hl 5 rfl) ?_
              refine lv_iconst (v := 3) hx hb dL_isTuned_127 (by decide) ?_
              obtain ⟨r34, u36, h35, h⟩ := xb_s h
              refine nb_ci (nb_runV (As := [.int x1, .int 3]) (rest := []) hx hb hml hown hSW hS hW (c_X7_ofPan l z ad N X u20 x1 3 h35) mf_X7_ofPan lk_L_26 kr_0 rfl rfl ⟨rfl, rfl⟩ ⟨Nat.le_of_ble_eq_true rfl, Nat.le_of_ble_eq_true rfl⟩ hl.1 (Nat.le_of_ble_eq_true rfl) dL_isTuned_128 ⟨Nat.le_of_ble_eq_true rfl, Nat.le_of_ble_eq_true rfl⟩) hS (fun H locs (hW : GW z ad (GC z ad N X u36) H) hS => ?_)
              refine lv_bipush (v := 8) hx hb dL_isTuned_131 (by decide) ?_
              refine lv_icmp_ne (tgt := 148) hx hb dL_isTuned_133 (by decide) (fun c37 => ?_) (fun c37 => ?_)
              · replace h := ite_f h c37
                refine lv_iconst (v := 0) hx hb dL_isTuned_148 (by decide) ?_
                exact ne_iretX hx hb hr rfl hlocks hW hS dL_isTuned_149 h
              · replace h := ite_t h c37
                refine lv_aload_n hx hb dL_isTuned_136 rfl (lv_at hl 4 rfl) ?_
                refine lv_iload_n hx hb dL_isTuned_137 rfl (lv_at hl 5 rfl) ?_
                obtain ⟨r38, u40, h39, h⟩ := xb_s h
                refine nb_ci (nb_runV (As := [.int x1]) (rest := []) hx hb hml hown hSW hS hW (c_X7_blowsFor l z ad N X u36 x1 h39) mf_X7_blowsFor lk_L_134 kr_0 rfl rfl ⟨rfl, rfl⟩ ⟨Nat.le_of_ble_eq_true rfl, Nat.le_of_ble_eq_true rfl⟩ hl.1 (Nat.le_of_ble_eq_true rfl) dL_isTuned_138 ⟨Nat.le_of_ble_eq_true rfl, Nat.le_of_ble_eq_true rfl⟩) hS (fun H locs (hW : GW z ad (GC z ad N X u40) H) hS => ?_)
                refine lv_if_ne (tgt := 148) hx hb dL_isTuned_141 (by decide) (fun c41 => ?_) (fun c41 => ?_)
                · replace h := ite_f h c41
                  refine lv_iconst (v := 0) hx hb dL_isTuned_148 (by decide) ?_
                  exact ne_iretX hx hb hr rfl hlocks hW hS dL_isTuned_149 h
                · replace h := ite_t h c41
                  refine lv_iconst (v := 1) hx hb dL_isTuned_144 (by decide) ?_
                  refine lv_goto (tgt := 149) hx hb dL_isTuned_145 (by decide) ?_
                  exact ne_iretX hx hb hr rfl hlocks hW hS dL_isTuned_149 h
          · replace h := ite_f h c32
            exact hB83 _ _ _ _ _ _ _ (lv_sub hl [0, 4, 5, 6] rfl) hW hS h
      · replace h := ite_f h c21
        refine lv_iconst (v := 0) hx hb dL_isTuned_69 (by decide) ?_
        exact ne_iretX hx hb hr rfl hlocks hW hS dL_isTuned_70 h
/-- isSound -/
def f_L_isSound_B258 (N : Nt) (ih153 : Int32 → Int32 → St → Option (Except String Int32 × St)) (y4 : Int32) (y2 : Int32) (y1 : Int32) (w0 : Int32) (w1 : Int32) (u : St) : Option (Except String Int32 × St) :=
  if w1 = w0 then
    if y4 = 0 then
      xb (f_X7_ofPan N u y2 1) fun r51 u53 =>
      if r51 ≤ 299 then
        nm (y2 + 1) fun v55 =>
        ih153 v55 y1 u53
      else
        some (.ok 0, u53)
    else
      nm (y2 + 1) fun v50 =>
      ih153 v50 y1 u
  else
    some (.ok 0, u)
def f_L_isSound_B240 (N : Nt) (ih153 : Int32 → Int32 → St → Option (Except String Int32 × St)) (y3 : Int32) (y2 : Int32) (y1 : Int32) (w0 : Int32) (u : St) : Option (Except String Int32 × St) :=
  xb (f_X7_ofPan N u y2 3) fun r44 u46 =>
  if w0 = 0 then
    f_L_isSound_B258 N ih153 w0 y2 y1 y3 r44 u46
  else
    f_L_isSound_B258 N ih153 w0 y2 y1 0 r44 u46
def f_L_isSound_L163b (N : Nt) (ih153 : Int32 → Int32 → St → Option (Except String Int32 × St)) (ih163 : Int32 → Int32 → Int32 → Int32 → St → Option (Except String Int32 × St)) (y4 : Int32) (y3 : Int32) (y2 : Int32) (y1 : Int32) (u : St) : Option (Except String Int32 × St) :=
  if 8 ≤ y4 then
    xb (f_X7_ofPan N u y2 2) fun r40 u42 =>
    if r40 = 1 then
      f_L_isSound_B240 N ih153 y3 y2 y1 1 u42
    else
      f_L_isSound_B240 N ih153 y3 y2 y1 0 u42
  else
    xb (f_X7_off N u y2 y4) fun r56 u58 =>
    nm (mabs r56) fun v59 =>
    if v59 ≤ 99 then
      xb (f_X7_off N u58 y2 y4) fun r61 u63 =>
      nm (mabs r61) fun v64 =>
      xb (f_X7_ofPan N u63 y2 0) fun r65 u67 =>
      if (6 + (2 * r65)) < v64 then
        nm (y3 + 0) fun v69 =>
        nm (y4 + 1) fun v70 =>
        ih163 v70 v69 y2 y1 u67
      else
        nm (y3 + 1) fun v71 =>
        nm (y4 + 1) fun v72 =>
        ih163 v72 v71 y2 y1 u67
    else
      some (.ok 0, u58)
def f_L_isSound_L163 (N : Nt) (ih153 : Int32 → Int32 → St → Option (Except String Int32 × St)) : Nat → Int32 → Int32 → Int32 → Int32 → St → Option (Except String Int32 × St) := lp (fun _ _ _ _ _ => none) (f_L_isSound_L163b N ih153)
def f_L_isSound_L153b (N : Nt) (ih153 : Int32 → Int32 → St → Option (Except String Int32 × St)) (y2 : Int32) (y1 : Int32) (u : St) : Option (Except String Int32 × St) :=
  if 4 ≤ y2 then
    xb (f_X7_mark N u 0) fun r3 u5 =>
    xb (f_X7_mark N u5 1) fun r6 u8 =>
    xb (f_X7_mark N u8 2) fun r09 u11 =>
    xb (f_X7_mark N u11 3) fun r12 u14 =>
    nm (((r3 + r6) + r09) + r12) fun v15 =>
    xb (f_X7_many N u14 5) fun r16 u18 =>
    if r16 = y1 then
      xb (f_X7_many N u18 10) fun r20 u22 =>
      if r20 = v15 then
        xb (f_X7_mark N u22 3) fun r24 u26 =>
        xb (f_X7_mark N u26 0) fun r27 u29 =>
        if r27 < r24 then
          some (.ok 0, u29)
        else
          xb (f_X7_mark N u29 1) fun r31 u33 =>
          if 96 < r31 then
            some (.ok 0, u33)
          else
            xb (f_X7_mark N u33 2) fun r35 u37 =>
            if 100 < r35 then
              some (.ok 0, u37)
            else
              some (.ok 1, u37)
      else
        some (.ok 0, u22)
    else
      some (.ok 0, u18)
  else
    f_L_isSound_L163 N ih153 1000000 0 0 y2 y1 u
def f_L_isSound_L153 (N : Nt) : Nat → Int32 → Int32 → St → Option (Except String Int32 × St) := lp (fun _ _ _ => none) (f_L_isSound_L153b N)
def f_L_isSound_B113 (N : Nt) (ih4 : Int32 → Int32 → St → Option (Except String Int32 × St)) (ih80 : Int32 → Int32 → Int32 → St → Option (Except String Int32 × St)) (y5 : Int32) (y1 : Int32) (y2 : Int32) (w0 : Int32) (u : St) : Option (Except String Int32 × St) :=
  xb (f_X7_memory N u y2 y5) fun r99 u101 =>
  if r99 < 0 then
    some (.ok 0, u101)
  else
    xb (f_X7_memory N u101 y2 y5) fun r103 u105 =>
    if r103 ≤ w0 then
      nm (y5 + 1) fun v107 =>
      ih80 v107 y1 y2 u105
    else
      some (.ok 0, u105)
def f_L_isSound_L80b (N : Nt) (ih4 : Int32 → Int32 → St → Option (Except String Int32 × St)) (ih80 : Int32 → Int32 → Int32 → St → Option (Except String Int32 × St)) (y5 : Int32) (y1 : Int32) (y2 : Int32) (u : St) : Option (Except String Int32 × St) :=
  if 6 ≤ y5 then
    nm (y2 + 1) fun v88 =>
    ih4 v88 y1 u
  else
    xb (f_X7_ofPhrase N u y5 2) fun r89 u91 =>
    sb (f_J6_bitCount_0f7a4 N u91 r89) fun r92 u94 =>
    xb (f_X7_ofPlayer N u94 y2 2) fun r95 u97 =>
    if r92 ≤ r95 then
      f_L_isSound_B113 N ih4 ih80 y5 y1 y2 100 u97
    else
      f_L_isSound_B113 N ih4 ih80 y5 y1 y2 70 u97
def f_L_isSound_L80 (N : Nt) (ih4 : Int32 → Int32 → St → Option (Except String Int32 × St)) : Nat → Int32 → Int32 → Int32 → St → Option (Except String Int32 × St) := lp (fun _ _ _ _ => none) (f_L_isSound_L80b N ih4)
def f_L_isSound_B57 (N : Nt) (ih4 : Int32 → Int32 → St → Option (Except String Int32 × St)) (y4 : Int32) (y2 : Int32) (y1 : Int32) (w0 : Int32) (u : St) : Option (Except String Int32 × St) :=
  if w0 = y4 then
    if y4 = 0 then
      nm (y1 + 0) fun v86 =>
      f_L_isSound_L80 N ih4 1000000 0 v86 y2 u
    else
      nm (y1 + 1) fun v108 =>
      f_L_isSound_L80 N ih4 1000000 0 v108 y2 u
  else
    some (.ok 0, u)
def f_L_isSound_B40 (N : Nt) (ih4 : Int32 → Int32 → St → Option (Except String Int32 × St)) (y2 : Int32) (y1 : Int32) (w0 : Int32) (u : St) : Option (Except String Int32 × St) :=
  xb (f_X7_ofPlayer N u y2 5) fun r80 u82 =>
  if r80 = 1 then
    f_L_isSound_B57 N ih4 w0 y2 y1 1 u82
  else
    f_L_isSound_B57 N ih4 w0 y2 y1 0 u82
def f_L_isSound_B39 (N : Nt) (ih4 : Int32 → Int32 → St → Option (Except String Int32 × St)) (y2 : Int32) (y1 : Int32) (u : St) : Option (Except String Int32 × St) :=
  f_L_isSound_B40 N ih4 y2 y1 0 u
def f_L_isSound_L4b (N : Nt) (ih4 : Int32 → Int32 → St → Option (Except String Int32 × St)) (y2 : Int32) (y1 : Int32) (u : St) : Option (Except String Int32 × St) :=
  if 6 ≤ y2 then
    f_L_isSound_L153 N 1000000 0 y1 u
  else
    xb (f_X7_ofPlayer N u y2 3) fun r73 u75 =>
    xb (f_X7_ofPlayer N u75 y2 4) fun r76 u78 =>
    if r76 = 0 then
      xb (f_X7_ofPan N u78 r73 2) fun r109 u111 =>
      if r109 = 0 then
        f_L_isSound_B40 N ih4 y2 y1 1 u111
      else
        f_L_isSound_B39 N ih4 y2 y1 u111
    else
      f_L_isSound_B39 N ih4 y2 y1 u78
def f_L_isSound_L4 (N : Nt) : Nat → Int32 → Int32 → St → Option (Except String Int32 × St) := lp (fun _ _ _ => none) (f_L_isSound_L4b N)
def f_L_isSound (N : Nt) (u : St) : Option (Except String Int32 × St) :=
  f_L_isSound_L4 N 1000000 0 0 u
set_option maxRecDepth 100000 in
set_option maxHeartbeats 4000000 in
theorem c_L_isSound (l : Launch) (z : Zt) (ad : Ad) (N : Nt) (X : Gt) (u : St) {r9 : Int32} {u9 : St} (h : f_L_isSound N u = some (.ok r9, u9)) : MC l z yL_isSound cL_isSound 7 (some .boolean) { frames := 6, cells := 0, slots := 0, locals := 135 } 0 0 [.ref (ad 0 0)] ad (GC z ad N X u) (QI z ad (GC z ad N X u9) r9) := by
  refine Met.ofW (cc := cL_isSound) (maxL := 7) (ret := (some .boolean)) (by decide) rfl ?_
  intro p e s m args below meth c s₁ B hml hv
  obtain ⟨rfl, hSW, hW⟩ := hv
  have hx := B.exec; have hb := B.bytes; have hr := B.returns; have hlocks := B.notSynchronized
  have hown : s.vm.findClass RL = some m.cls := findClass_of_methodNamed B.named
  obtain ⟨hT, hK, hST, hB0⟩ := id hSW
  have hS : va_S (zA z) s.heap s.heap [] := va_S.rf
  have hl := lv_entry ([.ref (ad 0 0)]) (n := 7) (Nat.le_of_ble_eq_true rfl)
  rw [lg_entry_eq]
  generalize (lg_sl ([.ref (ad 0 0)]) ++ List.replicate (7 - (lg_sl ([.ref (ad 0 0)])).length) Slot.unset).toArray = ls at hl ⊢
  have hl : lv_has ls 7 [(0, .ref (ad 0 0))] := hl
  let WW : Nat → Nat → Heap → List Loc → JFrame → Prop := fun c9 s9 H locs g => W p l e (headSpec [Cond.code yL_isSound cL_isSound 7 (some .boolean)] { frames := 6, cells := 0, slots := 0, locals := 135 }).room s m [.ref (ad 0 0)].toArray below meth c H locs c9 s9 (MQ below (QI z ad (GC z ad N X u9) r9) [.ref (ad 0 0)].toArray s 0 0 (zA z)) g
  have hB258 : ∀ (ih153 : Int32 → Int32 → St → Option (Except String Int32 × St)) (hih153 : ∀ (y2 : Int32) (y1 : Int32) (u : St) (H : Heap) (locs : List Loc) (ls : Array Slot), lv_has ls 7 [(2, .int y2), (1, .int y1), (0, .ref (ad 0 0))] → GW z ad (GC z ad N X u) H → va_S (zA z) s.heap H locs → ih153 y2 y1 u = some (.ok r9, u9) → WW 0 0 H locs (F0 m 153 ls [])), ∀ (y4 : Int32) (y2 : Int32) (y1 : Int32) (w0 : Int32) (w1 : Int32) (u : St) (H : Heap) (locs : List Loc) (ls : Array Slot), lv_has ls 7 [(4, .int y4), (2, .int y2), (1, .int y1), (0, .ref (ad 0 0))] → GW z ad (GC z ad N X u) H → va_S (zA z) s.heap H locs → f_L_isSound_B258 N ih153 y4 y2 y1 w0 w1 u = some (.ok r9, u9) → WW 0 0 H locs (F0 m 258 ls [.int w0, .int w1]) := by
    intro ih153 hih153 y4 y2 y1 w0 w1 u H locs ls hl hW hS h
    change W p l e _ s m _ below meth c H locs 0 0 _ (F0 m 258 ls [.int w0, .int w1])
    unfold f_L_isSound_B258 at h
    refine lv_icmp_ne (tgt := 278) hx hb dL_isSound_258 (by decide) (fun c48 => ?_) (fun c48 => ?_)
    · replace h := ite_f h c48
      refine lv_iconst (v := 0) hx hb dL_isSound_278 (by decide) ?_
      exact ne_iretX hx hb hr rfl hlocks hW hS dL_isSound_279 h
    · replace h := ite_t h c48
      refine lv_iload hx hb dL_isSound_261 (lv_at hl 0 rfl) ?_
      refine lv_if_ne (tgt := 280) hx hb dL_isSound_263 (by decide) (fun c49 => ?_) (fun c49 => ?_)
      · replace h := ite_f h c49
        obtain ⟨v50, ev50, h⟩ := nm_s h
        refine lv_iinc (v := v50) (lv' := [(2, .int v50), (4, .int y4), (1, .int y1), (0, .ref (ad 0 0))]) hx hb dL_isSound_280 hl (k := 1) rfl (by rw [ev50]; rfl) (by decide) rfl (fun ls hl => ?_)
        refine lv_goto (tgt := 153) hx hb dL_isSound_283 (by decide) ?_
        exact hih153 _ _ _ _ _ _ (lv_sub hl [0, 2, 3] rfl) hW hS h
      · replace h := ite_t h c49
        refine lv_aload_n hx hb dL_isSound_266 rfl (lv_at hl 3 rfl) ?_
        refine lv_iload_n hx hb dL_isSound_267 rfl (lv_at hl 1 rfl) ?_
        refine lv_iconst (v := 1) hx hb dL_isSound_268 (by decide) ?_
        obtain ⟨r51, u53, h52, h⟩ := xb_s h
        refine nb_ci (nb_runV (As := [.int y2, .int 1]) (rest := []) hx hb hml hown hSW hS hW (c_X7_ofPan l z ad N X u y2 1 h52) mf_X7_ofPan lk_L_26 kr_0 rfl rfl ⟨rfl, rfl⟩ ⟨Nat.le_of_ble_eq_true rfl, Nat.le_of_ble_eq_true rfl⟩ hl.1 (Nat.le_of_ble_eq_true rfl) dL_isSound_269 ⟨Nat.le_of_ble_eq_true rfl, Nat.le_of_ble_eq_true rfl⟩) hS (fun H locs (hW : GW z ad (GC z ad N X u53) H) hS => ?_)
        refine lv_sipush (v := 299) hx hb dL_isSound_272 (by decide) ?_
        refine lv_icmp_le (tgt := 280) hx hb dL_isSound_275 (by decide) (fun c54 => ?_) (fun c54 => ?_)
        · replace h := ite_t h c54
          obtain ⟨v55, ev55, h⟩ := nm_s h
          refine lv_iinc (v := v55) (lv' := [(2, .int v55), (4, .int y4), (1, .int y1), (0, .ref (ad 0 0))]) hx hb dL_isSound_280 hl (k := 1) rfl (by rw [ev55]; rfl) (by decide) rfl (fun ls hl => ?_)
          refine lv_goto (tgt := 153) hx hb dL_isSound_283 (by decide) ?_
          exact hih153 _ _ _ _ _ _ (lv_sub hl [0, 2, 3] rfl) hW hS h
        · replace h := ite_f h c54
          refine lv_iconst (v := 0) hx hb dL_isSound_278 (by decide) ?_
          exact ne_iretX hx hb hr rfl hlocks hW hS dL_isSound_279 h
  have hB240 : ∀ (ih153 : Int32 → Int32 → St → Option (Except String Int32 × St)) (hih153 : ∀ (y2 : Int32) (y1 : Int32) (u : St) (H : Heap) (locs : List Loc) (ls : Array Slot), lv_has ls 7 [(2, .int y2), (1, .int y1), (0, .ref (ad 0 0))] → GW z ad (GC z ad N X u) H → va_S (zA z) s.heap H locs → ih153 y2 y1 u = some (.ok r9, u9) → WW 0 0 H locs (F0 m 153 ls [])), ∀ (y3 : Int32) (y2 : Int32) (y1 : Int32) (w0 : Int32) (u : St) (H : Heap) (locs : List Loc) (ls : Array Slot), lv_has ls 7 [(3, .int y3), (2, .int y2), (1, .int y1), (0, .ref (ad 0 0))] → GW z ad (GC z ad N X u) H → va_S (zA z) s.heap H locs → f_L_isSound_B240 N ih153 y3 y2 y1 w0 u = some (.ok r9, u9) → WW 0 0 H locs (F0 m 240 ls [.int w0]) := by
    intro ih153 hih153 y3 y2 y1 w0 u H locs ls hl hW hS h
    change W p l e _ s m _ below meth c H locs 0 0 _ (F0 m 240 ls [.int w0])
    unfold f_L_isSound_B240 at h
    refine lv_istore (lv' := [(4, .int w0), (3, .int y3), (2, .int y2), (1, .int y1), (0, .ref (ad 0 0))]) hx hb dL_isSound_240 hl (by decide) rfl (fun ls hl => ?_)
    refine lv_aload_n hx hb dL_isSound_242 rfl (lv_at hl 4 rfl) ?_
    refine lv_iload_n hx hb dL_isSound_243 rfl (lv_at hl 2 rfl) ?_
    refine lv_iconst (v := 3) hx hb dL_isSound_244 (by decide) ?_
    obtain ⟨r44, u46, h45, h⟩ := xb_s h
    refine nb_ci (nb_runV (As := [.int y2, .int 3]) (rest := []) hx hb hml hown hSW hS hW (c_X7_ofPan l z ad N X u y2 3 h45) mf_X7_ofPan lk_L_26 kr_0 rfl rfl ⟨rfl, rfl⟩ ⟨Nat.le_of_ble_eq_true rfl, Nat.le_of_ble_eq_true rfl⟩ hl.1 (Nat.le_of_ble_eq_true rfl) dL_isSound_245 ⟨Nat.le_of_ble_eq_true rfl, Nat.le_of_ble_eq_true rfl⟩) hS (fun H locs (hW : GW z ad (GC z ad N X u46) H) hS => ?_)
    refine lv_iload hx hb dL_isSound_248 (lv_at hl 0 rfl) ?_
    refine lv_if_eq (tgt := 257) hx hb dL_isSound_250 (by decide) (fun c47 => ?_) (fun c47 => ?_)
    · replace h := ite_t h c47
      refine lv_iload_n hx hb dL_isSound_257 rfl (lv_at hl 1 rfl) ?_
      exact hB258 ih153 hih153 _ _ _ _ _ _ _ _ _ (lv_sub hl [0, 2, 3, 4] rfl) hW hS h
    · replace h := ite_f h c47
      refine lv_iconst (v := 0) hx hb dL_isSound_253 (by decide) ?_
      refine lv_goto (tgt := 258) hx hb dL_isSound_254 (by decide) ?_
      exact hB258 ih153 hih153 _ _ _ _ _ _ _ _ _ (lv_sub hl [0, 2, 3, 4] rfl) hW hS h
  have hL163b : ∀ (ih153 : Int32 → Int32 → St → Option (Except String Int32 × St)) (hih153 : ∀ (y2 : Int32) (y1 : Int32) (u : St) (H : Heap) (locs : List Loc) (ls : Array Slot), lv_has ls 7 [(2, .int y2), (1, .int y1), (0, .ref (ad 0 0))] → GW z ad (GC z ad N X u) H → va_S (zA z) s.heap H locs → ih153 y2 y1 u = some (.ok r9, u9) → WW 0 0 H locs (F0 m 153 ls [])), ∀ (ih163 : Int32 → Int32 → Int32 → Int32 → St → Option (Except String Int32 × St)) (hih163 : ∀ (y4 : Int32) (y3 : Int32) (y2 : Int32) (y1 : Int32) (u : St) (H : Heap) (locs : List Loc) (ls : Array Slot), lv_has ls 7 [(4, .int y4), (3, .int y3), (2, .int y2), (1, .int y1), (0, .ref (ad 0 0))] → GW z ad (GC z ad N X u) H → va_S (zA z) s.heap H locs → ih163 y4 y3 y2 y1 u = some (.ok r9, u9) → WW 0 0 H locs (F0 m 163 ls [])), ∀ (y4 : Int32) (y3 : Int32) (y2 : Int32) (y1 : Int32) (u : St) (H : Heap) (locs : List Loc) (ls : Array Slot), lv_has ls 7 [(4, .int y4), (3, .int y3), (2, .int y2), (1, .int y1), (0, .ref (ad 0 0))] → GW z ad (GC z ad N X u) H → va_S (zA z) s.heap H locs → f_L_isSound_L163b N ih153 ih163 y4 y3 y2 y1 u = some (.ok r9, u9) → WW 0 0 H locs (F0 m 163 ls []) := by
    intro ih153 hih153 ih163 hih163 y4 y3 y2 y1 u H locs ls hl hW hS h
    change W p l e _ s m _ below meth c H locs 0 0 _ (F0 m 163 ls [])
    unfold f_L_isSound_L163b at h
    refine lv_iload hx hb dL_isSound_163 (lv_at hl 0 rfl) ?_
    refine lv_bipush (v := 8) hx hb dL_isSound_165 (by decide) ?_
    refine lv_icmp_ge (tgt := 225) hx hb dL_isSound_167 (by decide) (fun c39 => ?_) (fun c39 => ?_)
    · replace h := ite_t h c39
      refine lv_aload_n hx hb dL_isSound_225 rfl (lv_at hl 4 rfl) ?_
      refine lv_iload_n hx hb dL_isSound_226 rfl (lv_at hl 2 rfl) ?_
      refine lv_iconst (v := 2) hx hb dL_isSound_227 (by decide) ?_
      obtain ⟨r40, u42, h41, h⟩ := xb_s h
      refine nb_ci (nb_runV (As := [.int y2, .int 2]) (rest := []) hx hb hml hown hSW hS hW (c_X7_ofPan l z ad N X u y2 2 h41) mf_X7_ofPan lk_L_26 kr_0 rfl rfl ⟨rfl, rfl⟩ ⟨Nat.le_of_ble_eq_true rfl, Nat.le_of_ble_eq_true rfl⟩ hl.1 (Nat.le_of_ble_eq_true rfl) dL_isSound_228 ⟨Nat.le_of_ble_eq_true rfl, Nat.le_of_ble_eq_true rfl⟩) hS (fun H locs (hW : GW z ad (GC z ad N X u42) H) hS => ?_)
      refine lv_iconst (v := 1) hx hb dL_isSound_231 (by decide) ?_
      refine lv_icmp_ne (tgt := 239) hx hb dL_isSound_232 (by decide) (fun c43 => ?_) (fun c43 => ?_)
      · replace h := ite_f h c43
        refine lv_iconst (v := 0) hx hb dL_isSound_239 (by decide) ?_
        exact hB240 ih153 hih153 _ _ _ _ _ _ _ _ (lv_sub hl [1, 2, 3, 4] rfl) hW hS h
      · replace h := ite_t h c43
        refine lv_iconst (v := 1) hx hb dL_isSound_235 (by decide) ?_
        refine lv_goto (tgt := 240) hx hb dL_isSound_236 (by decide) ?_
        exact hB240 ih153 hih153 _ _ _ _ _ _ _ _ (lv_sub hl [1, 2, 3, 4] rfl) hW hS h
    · replace h := ite_f h c39
      refine lv_aload_n hx hb dL_isSound_170 rfl (lv_at hl 4 rfl) ?_
      refine lv_iload_n hx hb dL_isSound_171 rfl (lv_at hl 2 rfl) ?_
      refine lv_iload hx hb dL_isSound_172 (lv_at hl 0 rfl) ?_
      obtain ⟨r56, u58, h57, h⟩ := xb_s h
      refine nb_ci (nb_runV (As := [.int y2, .int y4]) (rest := []) hx hb hml hown hSW hS hW (c_X7_off l z ad N X u y2 y4 h57) mf_X7_off lk_L_117 kr_0 rfl rfl ⟨rfl, rfl⟩ ⟨Nat.le_of_ble_eq_true rfl, Nat.le_of_ble_eq_true rfl⟩ hl.1 (Nat.le_of_ble_eq_true rfl) dL_isSound_174 ⟨Nat.le_of_ble_eq_true rfl, Nat.le_of_ble_eq_true rfl⟩) hS (fun H locs (hW : GW z ad (GC z ad N X u58) H) hS => ?_)
      refine nb_mabs hx hb hml hl.1 hown hT lm_L_131 mf_Math_abs ⟨Nat.le_of_ble_eq_true rfl, Nat.le_of_ble_eq_true rfl⟩ ⟨Nat.le_of_ble_eq_true rfl, Nat.le_of_ble_eq_true rfl⟩ dL_isSound_177 ?_
      refine lv_topi (fun v59 ev59 => ?_)
      replace h := nm_at ev59 h
      refine lv_bipush (v := 99) hx hb dL_isSound_180 (by decide) ?_
      refine lv_icmp_le (tgt := 187) hx hb dL_isSound_182 (by decide) (fun c60 => ?_) (fun c60 => ?_)
      · replace h := ite_t h c60
        refine lv_iload_n hx hb dL_isSound_187 rfl (lv_at hl 1 rfl) ?_
        refine lv_aload_n hx hb dL_isSound_188 rfl (lv_at hl 4 rfl) ?_
        refine lv_iload_n hx hb dL_isSound_189 rfl (lv_at hl 2 rfl) ?_
        refine lv_iload hx hb dL_isSound_190 (lv_at hl 0 rfl) ?_
        obtain ⟨r61, u63, h62, h⟩ := xb_s h
        refine nb_ci (nb_runV (As := [.int y2, .int y4]) (rest := [.int y3]) hx hb hml hown hSW hS hW (c_X7_off l z ad N X u58 y2 y4 h62) mf_X7_off lk_L_117 kr_0 rfl rfl ⟨rfl, rfl⟩ ⟨Nat.le_of_ble_eq_true rfl, Nat.le_of_ble_eq_true rfl⟩ hl.1 (Nat.le_of_ble_eq_true rfl) dL_isSound_192 ⟨Nat.le_of_ble_eq_true rfl, Nat.le_of_ble_eq_true rfl⟩) hS (fun H locs (hW : GW z ad (GC z ad N X u63) H) hS => ?_)
        refine nb_mabs hx hb hml hl.1 hown hT lm_L_131 mf_Math_abs ⟨Nat.le_of_ble_eq_true rfl, Nat.le_of_ble_eq_true rfl⟩ ⟨Nat.le_of_ble_eq_true rfl, Nat.le_of_ble_eq_true rfl⟩ dL_isSound_195 ?_
        refine lv_topi (fun v64 ev64 => ?_)
        replace h := nm_at ev64 h
        refine lv_bipush (v := 6) hx hb dL_isSound_198 (by decide) ?_
        refine lv_iconst (v := 2) hx hb dL_isSound_200 (by decide) ?_
        refine lv_aload_n hx hb dL_isSound_201 rfl (lv_at hl 4 rfl) ?_
        refine lv_iload_n hx hb dL_isSound_202 rfl (lv_at hl 2 rfl) ?_
        refine lv_iconst (v := 0) hx hb dL_isSound_203 (by decide) ?_
        obtain ⟨r65, u67, h66, h⟩ := xb_s h
        refine nb_ci (nb_runV (As := [.int y2, .int 0]) (rest := [.int 2, .int 6, .int v64, .int y3]) hx hb hml hown hSW hS hW (c_X7_ofPan l z ad N X u63 y2 0 h66) mf_X7_ofPan lk_L_26 kr_0 rfl rfl ⟨rfl, rfl⟩ ⟨Nat.le_of_ble_eq_true rfl, Nat.le_of_ble_eq_true rfl⟩ hl.1 (Nat.le_of_ble_eq_true rfl) dL_isSound_204 ⟨Nat.le_of_ble_eq_true rfl, Nat.le_of_ble_eq_true rfl⟩) hS (fun H locs (hW : GW z ad (GC z ad N X u67) H) hS => ?_)
        refine lv_imul hx hb dL_isSound_207 ?_
        refine lv_iadd hx hb dL_isSound_208 ?_
        refine lv_icmp_gt (tgt := 216) hx hb dL_isSound_209 (by decide) (fun c68 => ?_) (fun c68 => ?_)
        · replace h := ite_t h c68
          refine lv_iconst (v := 0) hx hb dL_isSound_216 (by decide) ?_
          refine lv_iadd hx hb dL_isSound_217 ?_
          refine lv_topi (fun v69 ev69 => ?_)
          replace h := nm_at ev69 h
          refine lv_istore_n (lv' := [(3, .int v69), (4, .int y4), (2, .int y2), (1, .int y1), (0, .ref (ad 0 0))]) hx hb dL_isSound_218 rfl hl (by decide) rfl (fun ls hl => ?_)
          obtain ⟨v70, ev70, h⟩ := nm_s h
          refine lv_iinc (v := v70) (lv' := [(4, .int v70), (3, .int v69), (2, .int y2), (1, .int y1), (0, .ref (ad 0 0))]) hx hb dL_isSound_219 hl (k := 1) rfl (by rw [ev70]; rfl) (by decide) rfl (fun ls hl => ?_)
          refine lv_goto (tgt := 163) hx hb dL_isSound_222 (by decide) ?_
          exact hih163 _ _ _ _ _ _ _ _ (lv_sub hl [0, 1, 2, 3, 4] rfl) hW hS h
        · replace h := ite_f h c68
          refine lv_iconst (v := 1) hx hb dL_isSound_212 (by decide) ?_
          refine lv_goto (tgt := 217) hx hb dL_isSound_213 (by decide) ?_
          refine lv_iadd hx hb dL_isSound_217 ?_
          refine lv_topi (fun v71 ev71 => ?_)
          replace h := nm_at ev71 h
          refine lv_istore_n (lv' := [(3, .int v71), (4, .int y4), (2, .int y2), (1, .int y1), (0, .ref (ad 0 0))]) hx hb dL_isSound_218 rfl hl (by decide) rfl (fun ls hl => ?_)
          obtain ⟨v72, ev72, h⟩ := nm_s h
          refine lv_iinc (v := v72) (lv' := [(4, .int v72), (3, .int v71), (2, .int y2), (1, .int y1), (0, .ref (ad 0 0))]) hx hb dL_isSound_219 hl (k := 1) rfl (by rw [ev72]; rfl) (by decide) rfl (fun ls hl => ?_)
          refine lv_goto (tgt := 163) hx hb dL_isSound_222 (by decide) ?_
          exact hih163 _ _ _ _ _ _ _ _ (lv_sub hl [0, 1, 2, 3, 4] rfl) hW hS h
      · replace h := ite_f h c60
        refine lv_iconst (v := 0) hx hb dL_isSound_185 (by decide) ?_
        exact ne_iretX hx hb hr rfl hlocks hW hS dL_isSound_186 h
  have hL163 : ∀ (ih153 : Int32 → Int32 → St → Option (Except String Int32 × St)) (hih153 : ∀ (y2 : Int32) (y1 : Int32) (u : St) (H : Heap) (locs : List Loc) (ls : Array Slot), lv_has ls 7 [(2, .int y2), (1, .int y1), (0, .ref (ad 0 0))] → GW z ad (GC z ad N X u) H → va_S (zA z) s.heap H locs → ih153 y2 y1 u = some (.ok r9, u9) → WW 0 0 H locs (F0 m 153 ls [])), ∀ (n : Nat), ∀ (y4 : Int32) (y3 : Int32) (y2 : Int32) (y1 : Int32) (u : St) (H : Heap) (locs : List Loc) (ls : Array Slot), lv_has ls 7 [(4, .int y4), (3, .int y3), (2, .int y2), (1, .int y1), (0, .ref (ad 0 0))] → GW z ad (GC z ad N X u) H → va_S (zA z) s.heap H locs → f_L_isSound_L163 N ih153 n y4 y3 y2 y1 u = some (.ok r9, u9) → WW 0 0 H locs (F0 m 163 ls []) := by
    intro ih153 hih153 n
    induction n with
    | zero => intro y4 y3 y2 y1 u H locs ls hl hW hS h; exact absurd h (by intro q; cases q)
    | succ n ihn => intro y4 y3 y2 y1 u H locs ls hl hW hS h; exact hL163b ih153 hih153 (f_L_isSound_L163 N ih153 n) ihn y4 y3 y2 y1 u H locs ls hl hW hS h
  have hL153b : ∀ (ih153 : Int32 → Int32 → St → Option (Except String Int32 × St)) (hih153 : ∀ (y2 : Int32) (y1 : Int32) (u : St) (H : Heap) (locs : List Loc) (ls : Array Slot), lv_has ls 7 [(2, .int y2), (1, .int y1), (0, .ref (ad 0 0))] → GW z ad (GC z ad N X u) H → va_S (zA z) s.heap H locs → ih153 y2 y1 u = some (.ok r9, u9) → WW 0 0 H locs (F0 m 153 ls [])), ∀ (y2 : Int32) (y1 : Int32) (u : St) (H : Heap) (locs : List Loc) (ls : Array Slot), lv_has ls 7 [(2, .int y2), (1, .int y1), (0, .ref (ad 0 0))] → GW z ad (GC z ad N X u) H → va_S (zA z) s.heap H locs → f_L_isSound_L153b N ih153 y2 y1 u = some (.ok r9, u9) → WW 0 0 H locs (F0 m 153 ls []) := by
    intro ih153 hih153 y2 y1 u H locs ls hl hW hS h
    change W p l e _ s m _ below meth c H locs 0 0 _ (F0 m 153 ls [])
    unfold f_L_isSound_L153b at h
    refine lv_iload_n hx hb dL_isSound_153 rfl (lv_at hl 0 rfl) ?_
    refine lv_iconst (v := 4) hx hb dL_isSound_154 (by decide) ?_
    refine lv_icmp_ge (tgt := 286) hx hb dL_isSound_155 (by decide) (fun c2 => ?_) (fun c2 => ?_)
    · replace h := ite_t h c2
      refine lv_aload_n hx hb dL_isSound_286 rfl (lv_at hl 2 rfl) ?_
      refine lv_iconst (v := 0) hx hb dL_isSound_287 (by decide) ?_
      obtain ⟨r3, u5, h4, h⟩ := xb_s h
      refine nb_ci (nb_runV (As := [.int 0]) (rest := []) hx hb hml hown hSW hS hW (c_X7_mark l z ad N X u 0 h4) mf_X7_mark lk_L_161 kr_0 rfl rfl ⟨rfl, rfl⟩ ⟨Nat.le_of_ble_eq_true rfl, Nat.le_of_ble_eq_true rfl⟩ hl.1 (Nat.le_of_ble_eq_true rfl) dL_isSound_288 ⟨Nat.le_of_ble_eq_true rfl, Nat.le_of_ble_eq_true rfl⟩) hS (fun H locs (hW : GW z ad (GC z ad N X u5) H) hS => ?_)
      refine lv_aload_n hx hb dL_isSound_291 rfl (lv_at hl 2 rfl) ?_
      refine lv_iconst (v := 1) hx hb dL_isSound_292 (by decide) ?_
      obtain ⟨r6, u8, h7, h⟩ := xb_s h
      refine nb_ci (nb_runV (As := [.int 1]) (rest := [.int r3]) hx hb hml hown hSW hS hW (c_X7_mark l z ad N X u5 1 h7) mf_X7_mark lk_L_161 kr_0 rfl rfl ⟨rfl, rfl⟩ ⟨Nat.le_of_ble_eq_true rfl, Nat.le_of_ble_eq_true rfl⟩ hl.1 (Nat.le_of_ble_eq_true rfl) dL_isSound_293 ⟨Nat.le_of_ble_eq_true rfl, Nat.le_of_ble_eq_true rfl⟩) hS (fun H locs (hW : GW z ad (GC z ad N X u8) H) hS => ?_)
      refine lv_iadd hx hb dL_isSound_296 ?_
      refine lv_aload_n hx hb dL_isSound_297 rfl (lv_at hl 2 rfl) ?_
      refine lv_iconst (v := 2) hx hb dL_isSound_298 (by decide) ?_
      obtain ⟨r09, u11, h10, h⟩ := xb_s h
      refine nb_ci (nb_runV (As := [.int 2]) (rest := [.int (r3 + r6)]) hx hb hml hown hSW hS hW (c_X7_mark l z ad N X u8 2 h10) mf_X7_mark lk_L_161 kr_0 rfl rfl ⟨rfl, rfl⟩ ⟨Nat.le_of_ble_eq_true rfl, Nat.le_of_ble_eq_true rfl⟩ hl.1 (Nat.le_of_ble_eq_true rfl) dL_isSound_299 ⟨Nat.le_of_ble_eq_true rfl, Nat.le_of_ble_eq_true rfl⟩) hS (fun H locs (hW : GW z ad (GC z ad N X u11) H) hS => ?_)
      refine lv_iadd hx hb dL_isSound_302 ?_
      refine lv_aload_n hx hb dL_isSound_303 rfl (lv_at hl 2 rfl) ?_
      refine lv_iconst (v := 3) hx hb dL_isSound_304 (by decide) ?_
      obtain ⟨r12, u14, h13, h⟩ := xb_s h
      refine nb_ci (nb_runV (As := [.int 3]) (rest := [.int ((r3 + r6) + r09)]) hx hb hml hown hSW hS hW (c_X7_mark l z ad N X u11 3 h13) mf_X7_mark lk_L_161 kr_0 rfl rfl ⟨rfl, rfl⟩ ⟨Nat.le_of_ble_eq_true rfl, Nat.le_of_ble_eq_true rfl⟩ hl.1 (Nat.le_of_ble_eq_true rfl) dL_isSound_305 ⟨Nat.le_of_ble_eq_true rfl, Nat.le_of_ble_eq_true rfl⟩) hS (fun H locs (hW : GW z ad (GC z ad N X u14) H) hS => ?_)
      refine lv_iadd hx hb dL_isSound_308 ?_
      refine lv_topi (fun v15 ev15 => ?_)
      replace h := nm_at ev15 h
      refine lv_istore_n (lv' := [(2, .int v15), (1, .int y1), (0, .ref (ad 0 0))]) hx hb dL_isSound_309 rfl hl (by decide) rfl (fun ls hl => ?_)
      refine lv_aload_n hx hb dL_isSound_310 rfl (lv_at hl 2 rfl) ?_
      refine lv_iconst (v := 5) hx hb dL_isSound_311 (by decide) ?_
      obtain ⟨r16, u18, h17, h⟩ := xb_s h
      refine nb_ci (nb_runV (As := [.int 5]) (rest := []) hx hb hml hown hSW hS hW (c_X7_many l z ad N X u14 5 h17) mf_X7_many lk_L_65 kr_0 rfl rfl ⟨rfl, rfl⟩ ⟨Nat.le_of_ble_eq_true rfl, Nat.le_of_ble_eq_true rfl⟩ hl.1 (Nat.le_of_ble_eq_true rfl) dL_isSound_312 ⟨Nat.le_of_ble_eq_true rfl, Nat.le_of_ble_eq_true rfl⟩) hS (fun H locs (hW : GW z ad (GC z ad N X u18) H) hS => ?_)
      refine lv_iload_n hx hb dL_isSound_315 rfl (lv_at hl 1 rfl) ?_
      refine lv_icmp_ne (tgt := 366) hx hb dL_isSound_316 (by decide) (fun c19 => ?_) (fun c19 => ?_)
      · replace h := ite_f h c19
        refine lv_iconst (v := 0) hx hb dL_isSound_366 (by decide) ?_
        exact ne_iretX hx hb hr rfl hlocks hW hS dL_isSound_367 h
      · replace h := ite_t h c19
        refine lv_aload_n hx hb dL_isSound_319 rfl (lv_at hl 2 rfl) ?_
        refine lv_bipush (v := 10) hx hb dL_isSound_320 (by decide) ?_
        obtain ⟨r20, u22, h21, h⟩ := xb_s h
        refine nb_ci (nb_runV (As := [.int 10]) (rest := []) hx hb hml hown hSW hS hW (c_X7_many l z ad N X u18 10 h21) mf_X7_many lk_L_65 kr_0 rfl rfl ⟨rfl, rfl⟩ ⟨Nat.le_of_ble_eq_true rfl, Nat.le_of_ble_eq_true rfl⟩ hl.1 (Nat.le_of_ble_eq_true rfl) dL_isSound_322 ⟨Nat.le_of_ble_eq_true rfl, Nat.le_of_ble_eq_true rfl⟩) hS (fun H locs (hW : GW z ad (GC z ad N X u22) H) hS => ?_)
        refine lv_iload_n hx hb dL_isSound_325 rfl (lv_at hl 0 rfl) ?_
        refine lv_icmp_ne (tgt := 366) hx hb dL_isSound_326 (by decide) (fun c23 => ?_) (fun c23 => ?_)
        · replace h := ite_f h c23
          refine lv_iconst (v := 0) hx hb dL_isSound_366 (by decide) ?_
          exact ne_iretX hx hb hr rfl hlocks hW hS dL_isSound_367 h
        · replace h := ite_t h c23
          refine lv_aload_n hx hb dL_isSound_329 rfl (lv_at hl 2 rfl) ?_
          refine lv_iconst (v := 3) hx hb dL_isSound_330 (by decide) ?_
          obtain ⟨r24, u26, h25, h⟩ := xb_s h
          refine nb_ci (nb_runV (As := [.int 3]) (rest := []) hx hb hml hown hSW hS hW (c_X7_mark l z ad N X u22 3 h25) mf_X7_mark lk_L_161 kr_0 rfl rfl ⟨rfl, rfl⟩ ⟨Nat.le_of_ble_eq_true rfl, Nat.le_of_ble_eq_true rfl⟩ hl.1 (Nat.le_of_ble_eq_true rfl) dL_isSound_331 ⟨Nat.le_of_ble_eq_true rfl, Nat.le_of_ble_eq_true rfl⟩) hS (fun H locs (hW : GW z ad (GC z ad N X u26) H) hS => ?_)
          refine lv_aload_n hx hb dL_isSound_334 rfl (lv_at hl 2 rfl) ?_
          refine lv_iconst (v := 0) hx hb dL_isSound_335 (by decide) ?_
          obtain ⟨r27, u29, h28, h⟩ := xb_s h
          refine nb_ci (nb_runV (As := [.int 0]) (rest := [.int r24]) hx hb hml hown hSW hS hW (c_X7_mark l z ad N X u26 0 h28) mf_X7_mark lk_L_161 kr_0 rfl rfl ⟨rfl, rfl⟩ ⟨Nat.le_of_ble_eq_true rfl, Nat.le_of_ble_eq_true rfl⟩ hl.1 (Nat.le_of_ble_eq_true rfl) dL_isSound_336 ⟨Nat.le_of_ble_eq_true rfl, Nat.le_of_ble_eq_true rfl⟩) hS (fun H locs (hW : GW z ad (GC z ad N X u29) H) hS => ?_)
          refine lv_icmp_gt (tgt := 366) hx hb dL_isSound_339 (by decide) (fun c30 => ?_) (fun c30 => ?_)
          · replace h := ite_t h c30
            refine lv_iconst (v := 0) hx hb dL_isSound_366 (by decide) ?_
            exact ne_iretX hx hb hr rfl hlocks hW hS dL_isSound_367 h
          · replace h := ite_f h c30
            refine lv_aload_n hx hb dL_isSound_342 rfl (lv_at hl 2 rfl) ?_
            refine lv_iconst (v := 1) hx hb dL_isSound_343 (by decide) ?_
            obtain ⟨r31, u33, h32, h⟩ := xb_s h
            refine nb_ci (nb_runV (As := [.int 1]) (rest := []) hx hb hml hown hSW hS hW (c_X7_mark l z ad N X u29 1 h32) mf_X7_mark lk_L_161 kr_0 rfl rfl ⟨rfl, rfl⟩ ⟨Nat.le_of_ble_eq_true rfl, Nat.le_of_ble_eq_true rfl⟩ hl.1 (Nat.le_of_ble_eq_true rfl) dL_isSound_344 ⟨Nat.le_of_ble_eq_true rfl, Nat.le_of_ble_eq_true rfl⟩) hS (fun H locs (hW : GW z ad (GC z ad N X u33) H) hS => ?_)
            refine lv_bipush (v := 96) hx hb dL_isSound_347 (by decide) ?_
            refine lv_icmp_gt (tgt := 366) hx hb dL_isSound_349 (by decide) (fun c34 => ?_) (fun c34 => ?_)
            · replace h := ite_t h c34
              refine lv_iconst (v := 0) hx hb dL_isSound_366 (by decide) ?_
              exact ne_iretX hx hb hr rfl hlocks hW hS dL_isSound_367 h
            · replace h := ite_f h c34
              refine lv_aload_n hx hb dL_isSound_352 rfl (lv_at hl 2 rfl) ?_
              refine lv_iconst (v := 2) hx hb dL_isSound_353 (by decide) ?_
              obtain ⟨r35, u37, h36, h⟩ := xb_s h
              refine nb_ci (nb_runV (As := [.int 2]) (rest := []) hx hb hml hown hSW hS hW (c_X7_mark l z ad N X u33 2 h36) mf_X7_mark lk_L_161 kr_0 rfl rfl ⟨rfl, rfl⟩ ⟨Nat.le_of_ble_eq_true rfl, Nat.le_of_ble_eq_true rfl⟩ hl.1 (Nat.le_of_ble_eq_true rfl) dL_isSound_354 ⟨Nat.le_of_ble_eq_true rfl, Nat.le_of_ble_eq_true rfl⟩) hS (fun H locs (hW : GW z ad (GC z ad N X u37) H) hS => ?_)
              refine lv_bipush (v := 100) hx hb dL_isSound_357 (by decide) ?_
              refine lv_icmp_gt (tgt := 366) hx hb dL_isSound_359 (by decide) (fun c38 => ?_) (fun c38 => ?_)
              · replace h := ite_t h c38
                refine lv_iconst (v := 0) hx hb dL_isSound_366 (by decide) ?_
                exact ne_iretX hx hb hr rfl hlocks hW hS dL_isSound_367 h
              · replace h := ite_f h c38
                refine lv_iconst (v := 1) hx hb dL_isSound_362 (by decide) ?_
                refine lv_goto (tgt := 367) hx hb dL_isSound_363 (by decide) ?_
                exact ne_iretX hx hb hr rfl hlocks hW hS dL_isSound_367 h
    · replace h := ite_f h c2
      refine lv_iconst (v := 0) hx hb dL_isSound_158 (by decide) ?_
      refine lv_istore_n (lv' := [(3, .int 0), (2, .int y2), (1, .int y1), (0, .ref (ad 0 0))]) hx hb dL_isSound_159 rfl hl (by decide) rfl (fun ls hl => ?_)
      refine lv_iconst (v := 0) hx hb dL_isSound_160 (by decide) ?_
      refine lv_istore (lv' := [(4, .int 0), (3, .int 0), (2, .int y2), (1, .int y1), (0, .ref (ad 0 0))]) hx hb dL_isSound_161 hl (by decide) rfl (fun ls hl => ?_)
      exact hL163 ih153 hih153 1000000 _ _ _ _ _ _ _ _ (lv_sub hl [0, 1, 2, 3, 4] rfl) hW hS h
  have hL153 : ∀ (n : Nat), ∀ (y2 : Int32) (y1 : Int32) (u : St) (H : Heap) (locs : List Loc) (ls : Array Slot), lv_has ls 7 [(2, .int y2), (1, .int y1), (0, .ref (ad 0 0))] → GW z ad (GC z ad N X u) H → va_S (zA z) s.heap H locs → f_L_isSound_L153 N n y2 y1 u = some (.ok r9, u9) → WW 0 0 H locs (F0 m 153 ls []) := by
    intro n
    induction n with
    | zero => intro y2 y1 u H locs ls hl hW hS h; exact absurd h (by intro q; cases q)
    | succ n ihn => intro y2 y1 u H locs ls hl hW hS h; exact hL153b (f_L_isSound_L153 N n) ihn y2 y1 u H locs ls hl hW hS h
  have hB113 : ∀ (ih4 : Int32 → Int32 → St → Option (Except String Int32 × St)) (hih4 : ∀ (y2 : Int32) (y1 : Int32) (u : St) (H : Heap) (locs : List Loc) (ls : Array Slot), lv_has ls 7 [(2, .int y2), (1, .int y1), (0, .ref (ad 0 0))] → GW z ad (GC z ad N X u) H → va_S (zA z) s.heap H locs → ih4 y2 y1 u = some (.ok r9, u9) → WW 0 0 H locs (F0 m 4 ls [])) (ih80 : Int32 → Int32 → Int32 → St → Option (Except String Int32 × St)) (hih80 : ∀ (y5 : Int32) (y1 : Int32) (y2 : Int32) (u : St) (H : Heap) (locs : List Loc) (ls : Array Slot), lv_has ls 7 [(5, .int y5), (1, .int y1), (2, .int y2), (0, .ref (ad 0 0))] → GW z ad (GC z ad N X u) H → va_S (zA z) s.heap H locs → ih80 y5 y1 y2 u = some (.ok r9, u9) → WW 0 0 H locs (F0 m 80 ls [])), ∀ (y5 : Int32) (y1 : Int32) (y2 : Int32) (w0 : Int32) (u : St) (H : Heap) (locs : List Loc) (ls : Array Slot), lv_has ls 7 [(5, .int y5), (1, .int y1), (2, .int y2), (0, .ref (ad 0 0))] → GW z ad (GC z ad N X u) H → va_S (zA z) s.heap H locs → f_L_isSound_B113 N ih4 ih80 y5 y1 y2 w0 u = some (.ok r9, u9) → WW 0 0 H locs (F0 m 113 ls [.int w0]) := by
    intro ih4 hih4 ih80 hih80 y5 y1 y2 w0 u H locs ls hl hW hS h
    change W p l e _ s m _ below meth c H locs 0 0 _ (F0 m 113 ls [.int w0])
    unfold f_L_isSound_B113 at h
    refine lv_istore (lv' := [(6, .int w0), (5, .int y5), (1, .int y1), (2, .int y2), (0, .ref (ad 0 0))]) hx hb dL_isSound_113 hl (by decide) rfl (fun ls hl => ?_)
    refine lv_aload_n hx hb dL_isSound_115 rfl (lv_at hl 4 rfl) ?_
    refine lv_iload_n hx hb dL_isSound_116 rfl (lv_at hl 3 rfl) ?_
    refine lv_iload hx hb dL_isSound_117 (lv_at hl 1 rfl) ?_
    obtain ⟨r99, u101, h100, h⟩ := xb_s h
    refine nb_ci (nb_runV (As := [.int y2, .int y5]) (rest := []) hx hb hml hown hSW hS hW (c_X7_memory l z ad N X u y2 y5 h100) mf_X7_memory lk_L_56 kr_0 rfl rfl ⟨rfl, rfl⟩ ⟨Nat.le_of_ble_eq_true rfl, Nat.le_of_ble_eq_true rfl⟩ hl.1 (Nat.le_of_ble_eq_true rfl) dL_isSound_119 ⟨Nat.le_of_ble_eq_true rfl, Nat.le_of_ble_eq_true rfl⟩) hS (fun H locs (hW : GW z ad (GC z ad N X u101) H) hS => ?_)
    refine lv_if_lt (tgt := 137) hx hb dL_isSound_122 (by decide) (fun c102 => ?_) (fun c102 => ?_)
    · replace h := ite_t h c102
      refine lv_iconst (v := 0) hx hb dL_isSound_137 (by decide) ?_
      exact ne_iretX hx hb hr rfl hlocks hW hS dL_isSound_138 h
    · replace h := ite_f h c102
      refine lv_aload_n hx hb dL_isSound_125 rfl (lv_at hl 4 rfl) ?_
      refine lv_iload_n hx hb dL_isSound_126 rfl (lv_at hl 3 rfl) ?_
      refine lv_iload hx hb dL_isSound_127 (lv_at hl 1 rfl) ?_
      obtain ⟨r103, u105, h104, h⟩ := xb_s h
      refine nb_ci (nb_runV (As := [.int y2, .int y5]) (rest := []) hx hb hml hown hSW hS hW (c_X7_memory l z ad N X u101 y2 y5 h104) mf_X7_memory lk_L_56 kr_0 rfl rfl ⟨rfl, rfl⟩ ⟨Nat.le_of_ble_eq_true rfl, Nat.le_of_ble_eq_true rfl⟩ hl.1 (Nat.le_of_ble_eq_true rfl) dL_isSound_129 ⟨Nat.le_of_ble_eq_true rfl, Nat.le_of_ble_eq_true rfl⟩) hS (fun H locs (hW : GW z ad (GC z ad N X u105) H) hS => ?_)
      refine lv_iload hx hb dL_isSound_132 (lv_at hl 0 rfl) ?_
      refine lv_icmp_le (tgt := 139) hx hb dL_isSound_134 (by decide) (fun c106 => ?_) (fun c106 => ?_)
      · replace h := ite_t h c106
        obtain ⟨v107, ev107, h⟩ := nm_s h
        refine lv_iinc (v := v107) (lv' := [(5, .int v107), (6, .int w0), (1, .int y1), (2, .int y2), (0, .ref (ad 0 0))]) hx hb dL_isSound_139 hl (k := 1) rfl (by rw [ev107]; rfl) (by decide) rfl (fun ls hl => ?_)
        refine lv_goto (tgt := 80) hx hb dL_isSound_142 (by decide) ?_
        exact hih80 _ _ _ _ _ _ _ (lv_sub hl [0, 2, 3, 4] rfl) hW hS h
      · replace h := ite_f h c106
        refine lv_iconst (v := 0) hx hb dL_isSound_137 (by decide) ?_
        exact ne_iretX hx hb hr rfl hlocks hW hS dL_isSound_138 h
  have hL80b : ∀ (ih4 : Int32 → Int32 → St → Option (Except String Int32 × St)) (hih4 : ∀ (y2 : Int32) (y1 : Int32) (u : St) (H : Heap) (locs : List Loc) (ls : Array Slot), lv_has ls 7 [(2, .int y2), (1, .int y1), (0, .ref (ad 0 0))] → GW z ad (GC z ad N X u) H → va_S (zA z) s.heap H locs → ih4 y2 y1 u = some (.ok r9, u9) → WW 0 0 H locs (F0 m 4 ls [])), ∀ (ih80 : Int32 → Int32 → Int32 → St → Option (Except String Int32 × St)) (hih80 : ∀ (y5 : Int32) (y1 : Int32) (y2 : Int32) (u : St) (H : Heap) (locs : List Loc) (ls : Array Slot), lv_has ls 7 [(5, .int y5), (1, .int y1), (2, .int y2), (0, .ref (ad 0 0))] → GW z ad (GC z ad N X u) H → va_S (zA z) s.heap H locs → ih80 y5 y1 y2 u = some (.ok r9, u9) → WW 0 0 H locs (F0 m 80 ls [])), ∀ (y5 : Int32) (y1 : Int32) (y2 : Int32) (u : St) (H : Heap) (locs : List Loc) (ls : Array Slot), lv_has ls 7 [(5, .int y5), (1, .int y1), (2, .int y2), (0, .ref (ad 0 0))] → GW z ad (GC z ad N X u) H → va_S (zA z) s.heap H locs → f_L_isSound_L80b N ih4 ih80 y5 y1 y2 u = some (.ok r9, u9) → WW 0 0 H locs (F0 m 80 ls []) := by
    intro ih4 hih4 ih80 hih80 y5 y1 y2 u H locs ls hl hW hS h
    change W p l e _ s m _ below meth c H locs 0 0 _ (F0 m 80 ls [])
    unfold f_L_isSound_L80b at h
    refine lv_iload hx hb dL_isSound_80 (lv_at hl 0 rfl) ?_
    refine lv_bipush (v := 6) hx hb dL_isSound_82 (by decide) ?_
    refine lv_icmp_ge (tgt := 145) hx hb dL_isSound_84 (by decide) (fun c87 => ?_) (fun c87 => ?_)
    · replace h := ite_t h c87
      obtain ⟨v88, ev88, h⟩ := nm_s h
      refine lv_iinc (v := v88) (lv' := [(2, .int v88), (5, .int y5), (1, .int y1), (0, .ref (ad 0 0))]) hx hb dL_isSound_145 hl (k := 2) rfl (by rw [ev88]; rfl) (by decide) rfl (fun ls hl => ?_)
      refine lv_goto (tgt := 4) hx hb dL_isSound_148 (by decide) ?_
      exact hih4 _ _ _ _ _ _ (lv_sub hl [0, 2, 3] rfl) hW hS h
    · replace h := ite_f h c87
      refine lv_aload_n hx hb dL_isSound_87 rfl (lv_at hl 3 rfl) ?_
      refine lv_iload hx hb dL_isSound_88 (lv_at hl 0 rfl) ?_
      refine lv_iconst (v := 2) hx hb dL_isSound_90 (by decide) ?_
      obtain ⟨r89, u91, h90, h⟩ := xb_s h
      refine nb_ci (nb_runV (As := [.int y5, .int 2]) (rest := []) hx hb hml hown hSW hS hW (c_X7_ofPhrase l z ad N X u y5 2 h90) mf_X7_ofPhrase lk_L_59 kr_0 rfl rfl ⟨rfl, rfl⟩ ⟨Nat.le_of_ble_eq_true rfl, Nat.le_of_ble_eq_true rfl⟩ hl.1 (Nat.le_of_ble_eq_true rfl) dL_isSound_91 ⟨Nat.le_of_ble_eq_true rfl, Nat.le_of_ble_eq_true rfl⟩) hS (fun H locs (hW : GW z ad (GC z ad N X u91) H) hS => ?_)
      obtain ⟨r92, u94, h93, h⟩ := sb_s h
      refine nb_ci (nb_runS (As := [.int r89]) (rest := []) hx hb hml hown hSW hS hW (c_J6_bitCount_0f7a4 l z ad N X u91 r89 h93) mf_J6_bitCount_0f7a4 lk_L_156 rfl ⟨rfl, rfl⟩ ⟨Nat.le_of_ble_eq_true rfl, Nat.le_of_ble_eq_true rfl⟩ hl.1 (Nat.le_of_ble_eq_true rfl) dL_isSound_94 ⟨Nat.le_of_ble_eq_true rfl, Nat.le_of_ble_eq_true rfl⟩) hS (fun H locs (hW : GW z ad (GC z ad N X u94) H) hS => ?_)
      refine lv_aload_n hx hb dL_isSound_97 rfl (lv_at hl 3 rfl) ?_
      refine lv_iload_n hx hb dL_isSound_98 rfl (lv_at hl 2 rfl) ?_
      refine lv_iconst (v := 2) hx hb dL_isSound_99 (by decide) ?_
      obtain ⟨r95, u97, h96, h⟩ := xb_s h
      refine nb_ci (nb_runV (As := [.int y2, .int 2]) (rest := [.int r92]) hx hb hml hown hSW hS hW (c_X7_ofPlayer l z ad N X u94 y2 2 h96) mf_X7_ofPlayer lk_L_77 kr_0 rfl rfl ⟨rfl, rfl⟩ ⟨Nat.le_of_ble_eq_true rfl, Nat.le_of_ble_eq_true rfl⟩ hl.1 (Nat.le_of_ble_eq_true rfl) dL_isSound_100 ⟨Nat.le_of_ble_eq_true rfl, Nat.le_of_ble_eq_true rfl⟩) hS (fun H locs (hW : GW z ad (GC z ad N X u97) H) hS => ?_)
      refine lv_icmp_le (tgt := 111) hx hb dL_isSound_103 (by decide) (fun c98 => ?_) (fun c98 => ?_)
      · replace h := ite_t h c98
        refine lv_bipush (v := 100) hx hb dL_isSound_111 (by decide) ?_
        exact hB113 ih4 hih4 ih80 hih80 _ _ _ _ _ _ _ _ (lv_sub hl [0, 1, 2, 3] rfl) hW hS h
      · replace h := ite_f h c98
        refine lv_bipush (v := 70) hx hb dL_isSound_106 (by decide) ?_
        refine lv_goto (tgt := 113) hx hb dL_isSound_108 (by decide) ?_
        exact hB113 ih4 hih4 ih80 hih80 _ _ _ _ _ _ _ _ (lv_sub hl [0, 1, 2, 3] rfl) hW hS h
  have hL80 : ∀ (ih4 : Int32 → Int32 → St → Option (Except String Int32 × St)) (hih4 : ∀ (y2 : Int32) (y1 : Int32) (u : St) (H : Heap) (locs : List Loc) (ls : Array Slot), lv_has ls 7 [(2, .int y2), (1, .int y1), (0, .ref (ad 0 0))] → GW z ad (GC z ad N X u) H → va_S (zA z) s.heap H locs → ih4 y2 y1 u = some (.ok r9, u9) → WW 0 0 H locs (F0 m 4 ls [])), ∀ (n : Nat), ∀ (y5 : Int32) (y1 : Int32) (y2 : Int32) (u : St) (H : Heap) (locs : List Loc) (ls : Array Slot), lv_has ls 7 [(5, .int y5), (1, .int y1), (2, .int y2), (0, .ref (ad 0 0))] → GW z ad (GC z ad N X u) H → va_S (zA z) s.heap H locs → f_L_isSound_L80 N ih4 n y5 y1 y2 u = some (.ok r9, u9) → WW 0 0 H locs (F0 m 80 ls []) := by
    intro ih4 hih4 n
    induction n with
    | zero => intro y5 y1 y2 u H locs ls hl hW hS h; exact absurd h (by intro q; cases q)
    | succ n ihn => intro y5 y1 y2 u H locs ls hl hW hS h; exact hL80b ih4 hih4 (f_L_isSound_L80 N ih4 n) ihn y5 y1 y2 u H locs ls hl hW hS h
  have hB57 : ∀ (ih4 : Int32 → Int32 → St → Option (Except String Int32 × St)) (hih4 : ∀ (y2 : Int32) (y1 : Int32) (u : St) (H : Heap) (locs : List Loc) (ls : Array Slot), lv_has ls 7 [(2, .int y2), (1, .int y1), (0, .ref (ad 0 0))] → GW z ad (GC z ad N X u) H → va_S (zA z) s.heap H locs → ih4 y2 y1 u = some (.ok r9, u9) → WW 0 0 H locs (F0 m 4 ls [])), ∀ (y4 : Int32) (y2 : Int32) (y1 : Int32) (w0 : Int32) (u : St) (H : Heap) (locs : List Loc) (ls : Array Slot), lv_has ls 7 [(4, .int y4), (2, .int y2), (1, .int y1), (0, .ref (ad 0 0))] → GW z ad (GC z ad N X u) H → va_S (zA z) s.heap H locs → f_L_isSound_B57 N ih4 y4 y2 y1 w0 u = some (.ok r9, u9) → WW 0 0 H locs (F0 m 57 ls [.int w0]) := by
    intro ih4 hih4 y4 y2 y1 w0 u H locs ls hl hW hS h
    change W p l e _ s m _ below meth c H locs 0 0 _ (F0 m 57 ls [.int w0])
    unfold f_L_isSound_B57 at h
    refine lv_iload hx hb dL_isSound_57 (lv_at hl 0 rfl) ?_
    refine lv_icmp_eq (tgt := 64) hx hb dL_isSound_59 (by decide) (fun c84 => ?_) (fun c84 => ?_)
    · replace h := ite_t h c84
      refine lv_iload_n hx hb dL_isSound_64 rfl (lv_at hl 2 rfl) ?_
      refine lv_iload hx hb dL_isSound_65 (lv_at hl 0 rfl) ?_
      refine lv_if_eq (tgt := 74) hx hb dL_isSound_67 (by decide) (fun c85 => ?_) (fun c85 => ?_)
      · replace h := ite_t h c85
        refine lv_iconst (v := 0) hx hb dL_isSound_74 (by decide) ?_
        refine lv_iadd hx hb dL_isSound_75 ?_
        refine lv_topi (fun v86 ev86 => ?_)
        replace h := nm_at ev86 h
        refine lv_istore_n (lv' := [(1, .int v86), (4, .int y4), (2, .int y2), (0, .ref (ad 0 0))]) hx hb dL_isSound_76 rfl hl (by decide) rfl (fun ls hl => ?_)
        refine lv_iconst (v := 0) hx hb dL_isSound_77 (by decide) ?_
        refine lv_istore (lv' := [(5, .int 0), (1, .int v86), (4, .int y4), (2, .int y2), (0, .ref (ad 0 0))]) hx hb dL_isSound_78 hl (by decide) rfl (fun ls hl => ?_)
        exact hL80 ih4 hih4 1000000 _ _ _ _ _ _ _ (lv_sub hl [0, 1, 3, 4] rfl) hW hS h
      · replace h := ite_f h c85
        refine lv_iconst (v := 1) hx hb dL_isSound_70 (by decide) ?_
        refine lv_goto (tgt := 75) hx hb dL_isSound_71 (by decide) ?_
        refine lv_iadd hx hb dL_isSound_75 ?_
        refine lv_topi (fun v108 ev108 => ?_)
        replace h := nm_at ev108 h
        refine lv_istore_n (lv' := [(1, .int v108), (4, .int y4), (2, .int y2), (0, .ref (ad 0 0))]) hx hb dL_isSound_76 rfl hl (by decide) rfl (fun ls hl => ?_)
        refine lv_iconst (v := 0) hx hb dL_isSound_77 (by decide) ?_
        refine lv_istore (lv' := [(5, .int 0), (1, .int v108), (4, .int y4), (2, .int y2), (0, .ref (ad 0 0))]) hx hb dL_isSound_78 hl (by decide) rfl (fun ls hl => ?_)
        exact hL80 ih4 hih4 1000000 _ _ _ _ _ _ _ (lv_sub hl [0, 1, 3, 4] rfl) hW hS h
    · replace h := ite_f h c84
      refine lv_iconst (v := 0) hx hb dL_isSound_62 (by decide) ?_
      exact ne_iretX hx hb hr rfl hlocks hW hS dL_isSound_63 h
  have hB40 : ∀ (ih4 : Int32 → Int32 → St → Option (Except String Int32 × St)) (hih4 : ∀ (y2 : Int32) (y1 : Int32) (u : St) (H : Heap) (locs : List Loc) (ls : Array Slot), lv_has ls 7 [(2, .int y2), (1, .int y1), (0, .ref (ad 0 0))] → GW z ad (GC z ad N X u) H → va_S (zA z) s.heap H locs → ih4 y2 y1 u = some (.ok r9, u9) → WW 0 0 H locs (F0 m 4 ls [])), ∀ (y2 : Int32) (y1 : Int32) (w0 : Int32) (u : St) (H : Heap) (locs : List Loc) (ls : Array Slot), lv_has ls 7 [(2, .int y2), (1, .int y1), (0, .ref (ad 0 0))] → GW z ad (GC z ad N X u) H → va_S (zA z) s.heap H locs → f_L_isSound_B40 N ih4 y2 y1 w0 u = some (.ok r9, u9) → WW 0 0 H locs (F0 m 40 ls [.int w0]) := by
    intro ih4 hih4 y2 y1 w0 u H locs ls hl hW hS h
    change W p l e _ s m _ below meth c H locs 0 0 _ (F0 m 40 ls [.int w0])
    unfold f_L_isSound_B40 at h
    refine lv_istore (lv' := [(4, .int w0), (2, .int y2), (1, .int y1), (0, .ref (ad 0 0))]) hx hb dL_isSound_40 hl (by decide) rfl (fun ls hl => ?_)
    refine lv_aload_n hx hb dL_isSound_42 rfl (lv_at hl 3 rfl) ?_
    refine lv_iload_n hx hb dL_isSound_43 rfl (lv_at hl 1 rfl) ?_
    refine lv_iconst (v := 5) hx hb dL_isSound_44 (by decide) ?_
    obtain ⟨r80, u82, h81, h⟩ := xb_s h
    refine nb_ci (nb_runV (As := [.int y2, .int 5]) (rest := []) hx hb hml hown hSW hS hW (c_X7_ofPlayer l z ad N X u y2 5 h81) mf_X7_ofPlayer lk_L_77 kr_0 rfl rfl ⟨rfl, rfl⟩ ⟨Nat.le_of_ble_eq_true rfl, Nat.le_of_ble_eq_true rfl⟩ hl.1 (Nat.le_of_ble_eq_true rfl) dL_isSound_45 ⟨Nat.le_of_ble_eq_true rfl, Nat.le_of_ble_eq_true rfl⟩) hS (fun H locs (hW : GW z ad (GC z ad N X u82) H) hS => ?_)
    refine lv_iconst (v := 1) hx hb dL_isSound_48 (by decide) ?_
    refine lv_icmp_ne (tgt := 56) hx hb dL_isSound_49 (by decide) (fun c83 => ?_) (fun c83 => ?_)
    · replace h := ite_f h c83
      refine lv_iconst (v := 0) hx hb dL_isSound_56 (by decide) ?_
      exact hB57 ih4 hih4 _ _ _ _ _ _ _ _ (lv_sub hl [0, 1, 2, 3] rfl) hW hS h
    · replace h := ite_t h c83
      refine lv_iconst (v := 1) hx hb dL_isSound_52 (by decide) ?_
      refine lv_goto (tgt := 57) hx hb dL_isSound_53 (by decide) ?_
      exact hB57 ih4 hih4 _ _ _ _ _ _ _ _ (lv_sub hl [0, 1, 2, 3] rfl) hW hS h
  have hB39 : ∀ (ih4 : Int32 → Int32 → St → Option (Except String Int32 × St)) (hih4 : ∀ (y2 : Int32) (y1 : Int32) (u : St) (H : Heap) (locs : List Loc) (ls : Array Slot), lv_has ls 7 [(2, .int y2), (1, .int y1), (0, .ref (ad 0 0))] → GW z ad (GC z ad N X u) H → va_S (zA z) s.heap H locs → ih4 y2 y1 u = some (.ok r9, u9) → WW 0 0 H locs (F0 m 4 ls [])), ∀ (y2 : Int32) (y1 : Int32) (u : St) (H : Heap) (locs : List Loc) (ls : Array Slot), lv_has ls 7 [(2, .int y2), (1, .int y1), (0, .ref (ad 0 0))] → GW z ad (GC z ad N X u) H → va_S (zA z) s.heap H locs → f_L_isSound_B39 N ih4 y2 y1 u = some (.ok r9, u9) → WW 0 0 H locs (F0 m 39 ls []) := by
    intro ih4 hih4 y2 y1 u H locs ls hl hW hS h
    change W p l e _ s m _ below meth c H locs 0 0 _ (F0 m 39 ls [])
    unfold f_L_isSound_B39 at h
    refine lv_iconst (v := 0) hx hb dL_isSound_39 (by decide) ?_
    exact hB40 ih4 hih4 _ _ _ _ _ _ _ (lv_sub hl [0, 1, 2] rfl) hW hS h
  have hL4b : ∀ (ih4 : Int32 → Int32 → St → Option (Except String Int32 × St)) (hih4 : ∀ (y2 : Int32) (y1 : Int32) (u : St) (H : Heap) (locs : List Loc) (ls : Array Slot), lv_has ls 7 [(2, .int y2), (1, .int y1), (0, .ref (ad 0 0))] → GW z ad (GC z ad N X u) H → va_S (zA z) s.heap H locs → ih4 y2 y1 u = some (.ok r9, u9) → WW 0 0 H locs (F0 m 4 ls [])), ∀ (y2 : Int32) (y1 : Int32) (u : St) (H : Heap) (locs : List Loc) (ls : Array Slot), lv_has ls 7 [(2, .int y2), (1, .int y1), (0, .ref (ad 0 0))] → GW z ad (GC z ad N X u) H → va_S (zA z) s.heap H locs → f_L_isSound_L4b N ih4 y2 y1 u = some (.ok r9, u9) → WW 0 0 H locs (F0 m 4 ls []) := by
    intro ih4 hih4 y2 y1 u H locs ls hl hW hS h
    change W p l e _ s m _ below meth c H locs 0 0 _ (F0 m 4 ls [])
    unfold f_L_isSound_L4b at h
    refine lv_iload_n hx hb dL_isSound_4 rfl (lv_at hl 0 rfl) ?_
    refine lv_bipush (v := 6) hx hb dL_isSound_5 (by decide) ?_
    refine lv_icmp_ge (tgt := 151) hx hb dL_isSound_7 (by decide) (fun c1 => ?_) (fun c1 => ?_)
    · replace h := ite_t h c1
      refine lv_iconst (v := 0) hx hb dL_isSound_151 (by decide) ?_
      refine lv_istore_n (lv' := [(2, .int 0), (1, .int y1), (0, .ref (ad 0 0))]) hx hb dL_isSound_152 rfl hl (by decide) rfl (fun ls hl => ?_)
      exact hL153 1000000 _ _ _ _ _ _ (lv_sub hl [0, 1, 2] rfl) hW hS h
    · replace h := ite_f h c1
      refine lv_aload_n hx hb dL_isSound_10 rfl (lv_at hl 2 rfl) ?_
      refine lv_iload_n hx hb dL_isSound_11 rfl (lv_at hl 0 rfl) ?_
      refine lv_iconst (v := 3) hx hb dL_isSound_12 (by decide) ?_
      obtain ⟨r73, u75, h74, h⟩ := xb_s h
      refine nb_ci (nb_runV (As := [.int y2, .int 3]) (rest := []) hx hb hml hown hSW hS hW (c_X7_ofPlayer l z ad N X u y2 3 h74) mf_X7_ofPlayer lk_L_77 kr_0 rfl rfl ⟨rfl, rfl⟩ ⟨Nat.le_of_ble_eq_true rfl, Nat.le_of_ble_eq_true rfl⟩ hl.1 (Nat.le_of_ble_eq_true rfl) dL_isSound_13 ⟨Nat.le_of_ble_eq_true rfl, Nat.le_of_ble_eq_true rfl⟩) hS (fun H locs (hW : GW z ad (GC z ad N X u75) H) hS => ?_)
      refine lv_istore_n (lv' := [(3, .int r73), (2, .int y2), (1, .int y1), (0, .ref (ad 0 0))]) hx hb dL_isSound_16 rfl hl (by decide) rfl (fun ls hl => ?_)
      refine lv_aload_n hx hb dL_isSound_17 rfl (lv_at hl 3 rfl) ?_
      refine lv_iload_n hx hb dL_isSound_18 rfl (lv_at hl 1 rfl) ?_
      refine lv_iconst (v := 4) hx hb dL_isSound_19 (by decide) ?_
      obtain ⟨r76, u78, h77, h⟩ := xb_s h
      refine nb_ci (nb_runV (As := [.int y2, .int 4]) (rest := []) hx hb hml hown hSW hS hW (c_X7_ofPlayer l z ad N X u75 y2 4 h77) mf_X7_ofPlayer lk_L_77 kr_0 rfl rfl ⟨rfl, rfl⟩ ⟨Nat.le_of_ble_eq_true rfl, Nat.le_of_ble_eq_true rfl⟩ hl.1 (Nat.le_of_ble_eq_true rfl) dL_isSound_20 ⟨Nat.le_of_ble_eq_true rfl, Nat.le_of_ble_eq_true rfl⟩) hS (fun H locs (hW : GW z ad (GC z ad N X u78) H) hS => ?_)
      refine lv_if_ne (tgt := 39) hx hb dL_isSound_23 (by decide) (fun c79 => ?_) (fun c79 => ?_)
      · replace h := ite_f h c79
        exact hB39 ih4 hih4 _ _ _ _ _ _ (lv_sub hl [1, 2, 3] rfl) hW hS h
      · replace h := ite_t h c79
        refine lv_aload_n hx hb dL_isSound_26 rfl (lv_at hl 3 rfl) ?_
        refine lv_iload_n hx hb dL_isSound_27 rfl (lv_at hl 0 rfl) ?_
        refine lv_iconst (v := 2) hx hb dL_isSound_28 (by decide) ?_
        obtain ⟨r109, u111, h110, h⟩ := xb_s h
        refine nb_ci (nb_runV (As := [.int r73, .int 2]) (rest := []) hx hb hml hown hSW hS hW (c_X7_ofPan l z ad N X u78 r73 2 h110) mf_X7_ofPan lk_L_26 kr_0 rfl rfl ⟨rfl, rfl⟩ ⟨Nat.le_of_ble_eq_true rfl, Nat.le_of_ble_eq_true rfl⟩ hl.1 (Nat.le_of_ble_eq_true rfl) dL_isSound_29 ⟨Nat.le_of_ble_eq_true rfl, Nat.le_of_ble_eq_true rfl⟩) hS (fun H locs (hW : GW z ad (GC z ad N X u111) H) hS => ?_)
        refine lv_if_ne (tgt := 39) hx hb dL_isSound_32 (by decide) (fun c112 => ?_) (fun c112 => ?_)
        · replace h := ite_f h c112
          exact hB39 ih4 hih4 _ _ _ _ _ _ (lv_sub hl [1, 2, 3] rfl) hW hS h
        · replace h := ite_t h c112
          refine lv_iconst (v := 1) hx hb dL_isSound_35 (by decide) ?_
          refine lv_goto (tgt := 40) hx hb dL_isSound_36 (by decide) ?_
          exact hB40 ih4 hih4 _ _ _ _ _ _ _ (lv_sub hl [1, 2, 3] rfl) hW hS h
  have hL4 : ∀ (n : Nat), ∀ (y2 : Int32) (y1 : Int32) (u : St) (H : Heap) (locs : List Loc) (ls : Array Slot), lv_has ls 7 [(2, .int y2), (1, .int y1), (0, .ref (ad 0 0))] → GW z ad (GC z ad N X u) H → va_S (zA z) s.heap H locs → f_L_isSound_L4 N n y2 y1 u = some (.ok r9, u9) → WW 0 0 H locs (F0 m 4 ls []) := by
    intro n
    induction n with
    | zero => intro y2 y1 u H locs ls hl hW hS h; exact absurd h (by intro q; cases q)
    | succ n ihn => intro y2 y1 u H locs ls hl hW hS h; exact hL4b (f_L_isSound_L4 N n) ihn y2 y1 u H locs ls hl hW hS h
  unfold f_L_isSound at h
  refine lv_iconst (v := 0) hx hb dL_isSound_0 (by decide) ?_
  refine lv_istore_n (lv' := [(1, .int 0), (0, .ref (ad 0 0))]) hx hb dL_isSound_1 rfl hl (by decide) rfl (fun ls hl => ?_)
  refine lv_iconst (v := 0) hx hb dL_isSound_2 (by decide) ?_
  refine lv_istore_n (lv' := [(2, .int 0), (1, .int 0), (0, .ref (ad 0 0))]) hx hb dL_isSound_3 rfl hl (by decide) rfl (fun ls hl => ?_)
  exact hL4 1000000 _ _ _ _ _ _ (lv_sub hl [0, 1, 2] rfl) hW hS h
/-- isTaught -/
def f_L_isTaught (N : Nt) (u : St) (x1 : Int32) (x2 : Int32) (x3 : Int32) : Option (Except String Int32 × St) :=
  xb (f_X7_ofPhrase N u x2 0) fun r1 u3 =>
  xb (f_X7_ofPlayer N u3 x1 0) fun r4 u6 =>
  if r1 = r4 then
    xb (f_X7_memory N u6 x1 x2) fun r8 u10 =>
    xb (f_X7_ofPlayer N u10 x1 6) fun r11 u13 =>
    xc (f_X7_teach N u13 x1 x2 x3) "java/lang/IllegalStateException"
      (fun r14 u16 =>
        if r14 < r8 then
          some (.ok 0, u16)
        else
          if 100 < r14 then
            some (.ok 0, u16)
          else
            xb (f_X7_ofPlayer N u16 x1 1) fun r19 u21 =>
            xb (f_X7_ofPhrase N u21 x2 1) fun r22 u24 =>
            gd (¬ r22 = 0) <|
            if ((x3 * r19) / r22) < (r14 - r8) then
              some (.ok 0, u24)
            else
              xb (f_X7_memory N u24 x1 x2) fun r27 u29 =>
              if r27 = r14 then
                xb (f_X7_ofPlayer N u29 x1 6) fun r31 u33 =>
                if r31 = (r11 + x3) then
                  xb (f_X7_ofPlayer N u33 x1 4) fun r35 u37 =>
                  if r35 = 0 then
                    some (.ok 1, u37)
                  else
                    some (.ok 0, u37)
                else
                  some (.ok 0, u33)
              else
                some (.ok 0, u29)
      )
      fun u16 =>
        xb (f_X7_memory N u16 x1 x2) fun r39 u41 =>
        if r39 = r8 then
          xb (f_X7_ofPlayer N u41 x1 6) fun r43 u45 =>
          if r43 = r11 then
            some (.ok 1, u45)
          else
            some (.ok 0, u45)
        else
          some (.ok 0, u41)
  else
    xb (f_X7_memory N u6 x1 x2) fun r47 u49 =>
    if r47 = 0 then
      some (.ok 1, u49)
    else
      some (.ok 0, u49)
set_option maxRecDepth 100000 in
set_option maxHeartbeats 4000000 in
theorem c_L_isTaught (l : Launch) (z : Zt) (ad : Ad) (N : Nt) (X : Gt) (u : St) (x1 : Int32) (x2 : Int32) (x3 : Int32) (hfl : l.stackTraces = false) {r9 : Int32} {u9 : St} (h : f_L_isTaught N u x1 x2 x3 = some (.ok r9, u9)) : MCw l z yL_isTaught cL_isTaught 7 (some .boolean) [(47, 132, 133, 143)] { frames := 8, cells := 1, slots := 6, locals := 127 } 1 6 [.ref (ad 0 0), .int x1, .int x2, .int x3] ad (GC z ad N X u) (QI z ad (GC z ad N X u9) r9) := by
  refine va_MetW (hh := [(47, 132, 133, 143)]) (cc := cL_isTaught) (maxL := 7) (ret := (some .boolean)) (by decide) rfl ?_
  intro p e s m args below meth c s₁ B hml hv
  obtain ⟨rfl, hSW, hW⟩ := hv
  have hx := B.exec; have hb := B.bytes; have hr := B.returns; have hlocks := B.notSynchronized
  have hown : s.vm.findClass RL = some m.cls := findClass_of_methodNamed B.named
  have htab : c.exceptionTable.toList = tableOf [(47, 132, 133, 143)] := vx_table (x := yL_isTaught) B (atoms_spec (ws := [Cond.codeWith yL_isTaught cL_isTaught 7 (some .boolean) [(47, 132, 133, 143)]]) B.pre _ List.mem_cons_self)
  obtain ⟨hT, hK, hST, hB0⟩ := id hSW
  have hS : va_S (zA z) s.heap s.heap [] := va_S.rf
  have hl := lv_entry ([.ref (ad 0 0), .int x1, .int x2, .int x3]) (n := 7) (Nat.le_of_ble_eq_true rfl)
  rw [lg_entry_eq]
  generalize (lg_sl ([.ref (ad 0 0), .int x1, .int x2, .int x3]) ++ List.replicate (7 - (lg_sl ([.ref (ad 0 0), .int x1, .int x2, .int x3])).length) Slot.unset).toArray = ls at hl ⊢
  have hl : lv_has ls 7 [(0, .ref (ad 0 0)), (1, .int x1), (2, .int x2), (3, .int x3)] := hl
  unfold f_L_isTaught at h
  refine lv_aload_n hx hb dL_isTaught_0 rfl (lv_at hl 0 rfl) ?_
  refine lv_iload_n hx hb dL_isTaught_1 rfl (lv_at hl 2 rfl) ?_
  refine lv_iconst (v := 0) hx hb dL_isTaught_2 (by decide) ?_
  obtain ⟨r1, u3, h2, h⟩ := xb_s h
  refine nb_ci (nb_runV (As := [.int x2, .int 0]) (rest := []) hx hb hml hown hSW hS hW (c_X7_ofPhrase l z ad N X u x2 0 h2) mf_X7_ofPhrase lk_L_59 kr_0 rfl rfl ⟨rfl, rfl⟩ ⟨Nat.le_of_ble_eq_true rfl, Nat.le_of_ble_eq_true rfl⟩ hl.1 (Nat.le_of_ble_eq_true rfl) dL_isTaught_3 ⟨Nat.le_of_ble_eq_true rfl, Nat.le_of_ble_eq_true rfl⟩) hS (fun H locs (hW : GW z ad (GC z ad N X u3) H) hS => ?_)
  refine lv_aload_n hx hb dL_isTaught_6 rfl (lv_at hl 0 rfl) ?_
  refine lv_iload_n hx hb dL_isTaught_7 rfl (lv_at hl 1 rfl) ?_
  refine lv_iconst (v := 0) hx hb dL_isTaught_8 (by decide) ?_
  obtain ⟨r4, u6, h5, h⟩ := xb_s h
  refine nb_ci (nb_runV (As := [.int x1, .int 0]) (rest := [.int r1]) hx hb hml hown hSW hS hW (c_X7_ofPlayer l z ad N X u3 x1 0 h5) mf_X7_ofPlayer lk_L_77 kr_0 rfl rfl ⟨rfl, rfl⟩ ⟨Nat.le_of_ble_eq_true rfl, Nat.le_of_ble_eq_true rfl⟩ hl.1 (Nat.le_of_ble_eq_true rfl) dL_isTaught_9 ⟨Nat.le_of_ble_eq_true rfl, Nat.le_of_ble_eq_true rfl⟩) hS (fun H locs (hW : GW z ad (GC z ad N X u6) H) hS => ?_)
  refine lv_icmp_eq (tgt := 30) hx hb dL_isTaught_12 (by decide) (fun c7 => ?_) (fun c7 => ?_)
  · replace h := ite_t h c7
    refine lv_aload_n hx hb dL_isTaught_30 rfl (lv_at hl 0 rfl) ?_
    refine lv_iload_n hx hb dL_isTaught_31 rfl (lv_at hl 1 rfl) ?_
    refine lv_iload_n hx hb dL_isTaught_32 rfl (lv_at hl 2 rfl) ?_
    obtain ⟨r8, u10, h09, h⟩ := xb_s h
    refine nb_ci (nb_runV (As := [.int x1, .int x2]) (rest := []) hx hb hml hown hSW hS hW (c_X7_memory l z ad N X u6 x1 x2 h09) mf_X7_memory lk_L_56 kr_0 rfl rfl ⟨rfl, rfl⟩ ⟨Nat.le_of_ble_eq_true rfl, Nat.le_of_ble_eq_true rfl⟩ hl.1 (Nat.le_of_ble_eq_true rfl) dL_isTaught_33 ⟨Nat.le_of_ble_eq_true rfl, Nat.le_of_ble_eq_true rfl⟩) hS (fun H locs (hW : GW z ad (GC z ad N X u10) H) hS => ?_)
    refine lv_istore (lv' := [(4, .int r8), (0, .ref (ad 0 0)), (1, .int x1), (2, .int x2), (3, .int x3)]) hx hb dL_isTaught_36 hl (by decide) rfl (fun ls hl => ?_)
    refine lv_aload_n hx hb dL_isTaught_38 rfl (lv_at hl 1 rfl) ?_
    refine lv_iload_n hx hb dL_isTaught_39 rfl (lv_at hl 2 rfl) ?_
    refine lv_bipush (v := 6) hx hb dL_isTaught_40 (by decide) ?_
    obtain ⟨r11, u13, h12, h⟩ := xb_s h
    refine nb_ci (nb_runV (As := [.int x1, .int 6]) (rest := []) hx hb hml hown hSW hS hW (c_X7_ofPlayer l z ad N X u10 x1 6 h12) mf_X7_ofPlayer lk_L_77 kr_0 rfl rfl ⟨rfl, rfl⟩ ⟨Nat.le_of_ble_eq_true rfl, Nat.le_of_ble_eq_true rfl⟩ hl.1 (Nat.le_of_ble_eq_true rfl) dL_isTaught_42 ⟨Nat.le_of_ble_eq_true rfl, Nat.le_of_ble_eq_true rfl⟩) hS (fun H locs (hW : GW z ad (GC z ad N X u13) H) hS => ?_)
    refine lv_istore (lv' := [(5, .int r11), (4, .int r8), (0, .ref (ad 0 0)), (1, .int x1), (2, .int x2), (3, .int x3)]) hx hb dL_isTaught_45 hl (by decide) rfl (fun ls hl => ?_)
    refine lv_aload_n hx hb dL_isTaught_47 rfl (lv_at hl 2 rfl) ?_
    refine lv_iload_n hx hb dL_isTaught_48 rfl (lv_at hl 3 rfl) ?_
    refine lv_iload_n hx hb dL_isTaught_49 rfl (lv_at hl 4 rfl) ?_
    refine lv_iload_n hx hb dL_isTaught_50 rfl (lv_at hl 5 rfl) ?_
    rcases xc_s h with ⟨r14, u16, h15, h⟩ | ⟨u16, h15, h⟩
    · refine nb_ci (nb_runV (As := [.int x1, .int x2, .int x3]) (rest := []) hx hb hml hown hSW hS hW (c_X7_teach l z ad N X u13 x1 x2 x3 h15) mf_X7_teach lk_L_140 kr_0 rfl rfl ⟨rfl, rfl⟩ ⟨Nat.le_of_ble_eq_true rfl, Nat.le_of_ble_eq_true rfl⟩ hl.1 (Nat.le_of_ble_eq_true rfl) dL_isTaught_51 ⟨Nat.le_of_ble_eq_true rfl, Nat.le_of_ble_eq_true rfl⟩) hS (fun H locs (hW : GW z ad (GC z ad N X u16) H) hS => ?_)
      refine lv_istore (lv' := [(6, .int r14), (5, .int r11), (4, .int r8), (0, .ref (ad 0 0)), (1, .int x1), (2, .int x2), (3, .int x3)]) hx hb dL_isTaught_54 hl (by decide) rfl (fun ls hl => ?_)
      refine lv_iload hx hb dL_isTaught_56 (lv_at hl 0 rfl) ?_
      refine lv_iload hx hb dL_isTaught_58 (lv_at hl 2 rfl) ?_
      refine lv_icmp_lt (tgt := 131) hx hb dL_isTaught_60 (by decide) (fun c17 => ?_) (fun c17 => ?_)
      · replace h := ite_t h c17
        refine lv_iconst (v := 0) hx hb dL_isTaught_131 (by decide) ?_
        refine W.widen (k := 1) (n := 6) (Nat.le_of_ble_eq_true rfl) (Nat.le_of_ble_eq_true rfl) ?_
        exact ne_iretX hx hb hr rfl hlocks hW hS dL_isTaught_132 h
      · replace h := ite_f h c17
        refine lv_iload hx hb dL_isTaught_63 (lv_at hl 0 rfl) ?_
        refine lv_bipush (v := 100) hx hb dL_isTaught_65 (by decide) ?_
        refine lv_icmp_gt (tgt := 131) hx hb dL_isTaught_67 (by decide) (fun c18 => ?_) (fun c18 => ?_)
        · replace h := ite_t h c18
          refine lv_iconst (v := 0) hx hb dL_isTaught_131 (by decide) ?_
          refine W.widen (k := 1) (n := 6) (Nat.le_of_ble_eq_true rfl) (Nat.le_of_ble_eq_true rfl) ?_
          exact ne_iretX hx hb hr rfl hlocks hW hS dL_isTaught_132 h
        · replace h := ite_f h c18
          refine lv_iload hx hb dL_isTaught_70 (lv_at hl 0 rfl) ?_
          refine lv_iload hx hb dL_isTaught_72 (lv_at hl 2 rfl) ?_
          refine lv_isub hx hb dL_isTaught_74 ?_
          refine lv_iload_n hx hb dL_isTaught_75 rfl (lv_at hl 6 rfl) ?_
          refine lv_aload_n hx hb dL_isTaught_76 rfl (lv_at hl 3 rfl) ?_
          refine lv_iload_n hx hb dL_isTaught_77 rfl (lv_at hl 4 rfl) ?_
          refine lv_iconst (v := 1) hx hb dL_isTaught_78 (by decide) ?_
          obtain ⟨r19, u21, h20, h⟩ := xb_s h
          refine nb_ci (nb_runV (As := [.int x1, .int 1]) (rest := [.int x3, .int (r14 - r8)]) hx hb hml hown hSW hS hW (c_X7_ofPlayer l z ad N X u16 x1 1 h20) mf_X7_ofPlayer lk_L_77 kr_0 rfl rfl ⟨rfl, rfl⟩ ⟨Nat.le_of_ble_eq_true rfl, Nat.le_of_ble_eq_true rfl⟩ hl.1 (Nat.le_of_ble_eq_true rfl) dL_isTaught_79 ⟨Nat.le_of_ble_eq_true rfl, Nat.le_of_ble_eq_true rfl⟩) hS (fun H locs (hW : GW z ad (GC z ad N X u21) H) hS => ?_)
          refine lv_imul hx hb dL_isTaught_82 ?_
          refine lv_aload_n hx hb dL_isTaught_83 rfl (lv_at hl 3 rfl) ?_
          refine lv_iload_n hx hb dL_isTaught_84 rfl (lv_at hl 5 rfl) ?_
          refine lv_iconst (v := 1) hx hb dL_isTaught_85 (by decide) ?_
          obtain ⟨r22, u24, h23, h⟩ := xb_s h
          refine nb_ci (nb_runV (As := [.int x2, .int 1]) (rest := [.int (x3 * r19), .int (r14 - r8)]) hx hb hml hown hSW hS hW (c_X7_ofPhrase l z ad N X u21 x2 1 h23) mf_X7_ofPhrase lk_L_59 kr_0 rfl rfl ⟨rfl, rfl⟩ ⟨Nat.le_of_ble_eq_true rfl, Nat.le_of_ble_eq_true rfl⟩ hl.1 (Nat.le_of_ble_eq_true rfl) dL_isTaught_86 ⟨Nat.le_of_ble_eq_true rfl, Nat.le_of_ble_eq_true rfl⟩) hS (fun H locs (hW : GW z ad (GC z ad N X u24) H) hS => ?_)
          obtain ⟨g25, h⟩ := gd_s h
          refine lv_idiv hx hb dL_isTaught_89 g25 ?_
          refine lv_icmp_gt (tgt := 131) hx hb dL_isTaught_90 (by decide) (fun c26 => ?_) (fun c26 => ?_)
          · replace h := ite_t h c26
            refine lv_iconst (v := 0) hx hb dL_isTaught_131 (by decide) ?_
            refine W.widen (k := 1) (n := 6) (Nat.le_of_ble_eq_true rfl) (Nat.le_of_ble_eq_true rfl) ?_
            exact ne_iretX hx hb hr rfl hlocks hW hS dL_isTaught_132 h
          · replace h := ite_f h c26
            refine lv_aload_n hx hb dL_isTaught_93 rfl (lv_at hl 3 rfl) ?_
            refine lv_iload_n hx hb dL_isTaught_94 rfl (lv_at hl 4 rfl) ?_
            refine lv_iload_n hx hb dL_isTaught_95 rfl (lv_at hl 5 rfl) ?_
            obtain ⟨r27, u29, h28, h⟩ := xb_s h
            refine nb_ci (nb_runV (As := [.int x1, .int x2]) (rest := []) hx hb hml hown hSW hS hW (c_X7_memory l z ad N X u24 x1 x2 h28) mf_X7_memory lk_L_56 kr_0 rfl rfl ⟨rfl, rfl⟩ ⟨Nat.le_of_ble_eq_true rfl, Nat.le_of_ble_eq_true rfl⟩ hl.1 (Nat.le_of_ble_eq_true rfl) dL_isTaught_96 ⟨Nat.le_of_ble_eq_true rfl, Nat.le_of_ble_eq_true rfl⟩) hS (fun H locs (hW : GW z ad (GC z ad N X u29) H) hS => ?_)
            refine lv_iload hx hb dL_isTaught_99 (lv_at hl 0 rfl) ?_
            refine lv_icmp_ne (tgt := 131) hx hb dL_isTaught_101 (by decide) (fun c30 => ?_) (fun c30 => ?_)
            · replace h := ite_f h c30
              refine lv_iconst (v := 0) hx hb dL_isTaught_131 (by decide) ?_
              refine W.widen (k := 1) (n := 6) (Nat.le_of_ble_eq_true rfl) (Nat.le_of_ble_eq_true rfl) ?_
              exact ne_iretX hx hb hr rfl hlocks hW hS dL_isTaught_132 h
            · replace h := ite_t h c30
              refine lv_aload_n hx hb dL_isTaught_104 rfl (lv_at hl 3 rfl) ?_
              refine lv_iload_n hx hb dL_isTaught_105 rfl (lv_at hl 4 rfl) ?_
              refine lv_bipush (v := 6) hx hb dL_isTaught_106 (by decide) ?_
              obtain ⟨r31, u33, h32, h⟩ := xb_s h
              refine nb_ci (nb_runV (As := [.int x1, .int 6]) (rest := []) hx hb hml hown hSW hS hW (c_X7_ofPlayer l z ad N X u29 x1 6 h32) mf_X7_ofPlayer lk_L_77 kr_0 rfl rfl ⟨rfl, rfl⟩ ⟨Nat.le_of_ble_eq_true rfl, Nat.le_of_ble_eq_true rfl⟩ hl.1 (Nat.le_of_ble_eq_true rfl) dL_isTaught_108 ⟨Nat.le_of_ble_eq_true rfl, Nat.le_of_ble_eq_true rfl⟩) hS (fun H locs (hW : GW z ad (GC z ad N X u33) H) hS => ?_)
              refine lv_iload hx hb dL_isTaught_111 (lv_at hl 1 rfl) ?_
              refine lv_iload_n hx hb dL_isTaught_113 rfl (lv_at hl 6 rfl) ?_
              refine lv_iadd hx hb dL_isTaught_114 ?_
              refine lv_icmp_ne (tgt := 131) hx hb dL_isTaught_115 (by decide) (fun c34 => ?_) (fun c34 => ?_)
              · replace h := ite_f h c34
                refine lv_iconst (v := 0) hx hb dL_isTaught_131 (by decide) ?_
                refine W.widen (k := 1) (n := 6) (Nat.le_of_ble_eq_true rfl) (Nat.le_of_ble_eq_true rfl) ?_
                exact ne_iretX hx hb hr rfl hlocks hW hS dL_isTaught_132 h
              · replace h := ite_t h c34
                refine lv_aload_n hx hb dL_isTaught_118 rfl (lv_at hl 3 rfl) ?_
                refine lv_iload_n hx hb dL_isTaught_119 rfl (lv_at hl 4 rfl) ?_
                refine lv_iconst (v := 4) hx hb dL_isTaught_120 (by decide) ?_
                obtain ⟨r35, u37, h36, h⟩ := xb_s h
                refine nb_ci (nb_runV (As := [.int x1, .int 4]) (rest := []) hx hb hml hown hSW hS hW (c_X7_ofPlayer l z ad N X u33 x1 4 h36) mf_X7_ofPlayer lk_L_77 kr_0 rfl rfl ⟨rfl, rfl⟩ ⟨Nat.le_of_ble_eq_true rfl, Nat.le_of_ble_eq_true rfl⟩ hl.1 (Nat.le_of_ble_eq_true rfl) dL_isTaught_121 ⟨Nat.le_of_ble_eq_true rfl, Nat.le_of_ble_eq_true rfl⟩) hS (fun H locs (hW : GW z ad (GC z ad N X u37) H) hS => ?_)
                refine lv_if_ne (tgt := 131) hx hb dL_isTaught_124 (by decide) (fun c38 => ?_) (fun c38 => ?_)
                · replace h := ite_f h c38
                  refine lv_iconst (v := 0) hx hb dL_isTaught_131 (by decide) ?_
                  refine W.widen (k := 1) (n := 6) (Nat.le_of_ble_eq_true rfl) (Nat.le_of_ble_eq_true rfl) ?_
                  exact ne_iretX hx hb hr rfl hlocks hW hS dL_isTaught_132 h
                · replace h := ite_t h c38
                  refine lv_iconst (v := 1) hx hb dL_isTaught_127 (by decide) ?_
                  refine lv_goto (tgt := 132) hx hb dL_isTaught_128 (by decide) ?_
                  refine W.widen (k := 1) (n := 6) (Nat.le_of_ble_eq_true rfl) (Nat.le_of_ble_eq_true rfl) ?_
                  exact ne_iretX hx hb hr rfl hlocks hW hS dL_isTaught_132 h
    · refine nx_ci (nx_runV (As := [.int x1, .int x2, .int x3]) (rest := []) hx hb hml hown hSW hS hW (cx_X7_teach l z ad N X u13 x1 x2 x3 hfl h15) mf_X7_teach (List.mem_of_getElem? (i := 804) (by decide +kernel)) kr_0 rfl rfl ⟨rfl, rfl⟩ ⟨Nat.le_of_ble_eq_true rfl, Nat.le_of_ble_eq_true rfl⟩ hl.1 (Nat.le_of_ble_eq_true rfl) dL_isTaught_51 ⟨Nat.le_of_ble_eq_true rfl, Nat.le_of_ble_eq_true rfl⟩) hS (fun ce q9 H locs hce hcv hcl hW hS => ?_)
      refine vx_catch (E := "java/lang/IllegalStateException") (name := "java/lang/IllegalStateException") hown [] (⟨47, 132, 133, 143⟩ : ExceptionTableEntry) [] (htab.trans rfl) (fun zz hz => absurd hz List.not_mem_nil) (by decide) (by decide) (hT.use (List.mem_of_getElem? (i := 803) (by decide +kernel)) rfl) (hT.use (List.mem_of_getElem? (i := 303) (by decide +kernel)) rfl) hce hcv hcl ?_
      refine lv_astore (lv' := [(6, .ref q9), (5, .int r11), (4, .int r8), (0, .ref (ad 0 0)), (1, .int x1), (2, .int x2), (3, .int x3)]) hx hb dL_isTaught_133 hl (by decide) rfl (fun ls hl => ?_)
      refine lv_aload_n hx hb dL_isTaught_135 rfl (lv_at hl 3 rfl) ?_
      refine lv_iload_n hx hb dL_isTaught_136 rfl (lv_at hl 4 rfl) ?_
      refine lv_iload_n hx hb dL_isTaught_137 rfl (lv_at hl 5 rfl) ?_
      obtain ⟨r39, u41, h40, h⟩ := xb_s h
      refine nb_ci (nb_runV (As := [.int x1, .int x2]) (rest := []) hx hb hml hown hSW hS hW (c_X7_memory l z ad N X u16 x1 x2 h40) mf_X7_memory lk_L_56 kr_0 rfl rfl ⟨rfl, rfl⟩ ⟨Nat.le_of_ble_eq_true rfl, Nat.le_of_ble_eq_true rfl⟩ hl.1 (Nat.le_of_ble_eq_true rfl) dL_isTaught_138 ⟨Nat.le_of_ble_eq_true rfl, Nat.le_of_ble_eq_true rfl⟩) hS (fun H locs (hW : GW z ad (GC z ad N X u41) H) hS => ?_)
      refine lv_iload hx hb dL_isTaught_141 (lv_at hl 2 rfl) ?_
      refine lv_icmp_ne (tgt := 162) hx hb dL_isTaught_143 (by decide) (fun c42 => ?_) (fun c42 => ?_)
      · replace h := ite_f h c42
        refine lv_iconst (v := 0) hx hb dL_isTaught_162 (by decide) ?_
        refine W.widen (k := 1) (n := 6) (Nat.le_of_ble_eq_true rfl) (Nat.le_of_ble_eq_true rfl) ?_
        exact ne_iretX hx hb hr rfl hlocks hW hS dL_isTaught_163 h
      · replace h := ite_t h c42
        refine lv_aload_n hx hb dL_isTaught_146 rfl (lv_at hl 3 rfl) ?_
        refine lv_iload_n hx hb dL_isTaught_147 rfl (lv_at hl 4 rfl) ?_
        refine lv_bipush (v := 6) hx hb dL_isTaught_148 (by decide) ?_
        obtain ⟨r43, u45, h44, h⟩ := xb_s h
        refine nb_ci (nb_runV (As := [.int x1, .int 6]) (rest := []) hx hb hml hown hSW hS hW (c_X7_ofPlayer l z ad N X u41 x1 6 h44) mf_X7_ofPlayer lk_L_77 kr_0 rfl rfl ⟨rfl, rfl⟩ ⟨Nat.le_of_ble_eq_true rfl, Nat.le_of_ble_eq_true rfl⟩ hl.1 (Nat.le_of_ble_eq_true rfl) dL_isTaught_150 ⟨Nat.le_of_ble_eq_true rfl, Nat.le_of_ble_eq_true rfl⟩) hS (fun H locs (hW : GW z ad (GC z ad N X u45) H) hS => ?_)
        refine lv_iload hx hb dL_isTaught_153 (lv_at hl 1 rfl) ?_
        refine lv_icmp_ne (tgt := 162) hx hb dL_isTaught_155 (by decide) (fun c46 => ?_) (fun c46 => ?_)
        · replace h := ite_f h c46
          refine lv_iconst (v := 0) hx hb dL_isTaught_162 (by decide) ?_
          refine W.widen (k := 1) (n := 6) (Nat.le_of_ble_eq_true rfl) (Nat.le_of_ble_eq_true rfl) ?_
          exact ne_iretX hx hb hr rfl hlocks hW hS dL_isTaught_163 h
        · replace h := ite_t h c46
          refine lv_iconst (v := 1) hx hb dL_isTaught_158 (by decide) ?_
          refine lv_goto (tgt := 163) hx hb dL_isTaught_159 (by decide) ?_
          refine W.widen (k := 1) (n := 6) (Nat.le_of_ble_eq_true rfl) (Nat.le_of_ble_eq_true rfl) ?_
          exact ne_iretX hx hb hr rfl hlocks hW hS dL_isTaught_163 h
  · replace h := ite_f h c7
    refine lv_aload_n hx hb dL_isTaught_15 rfl (lv_at hl 0 rfl) ?_
    refine lv_iload_n hx hb dL_isTaught_16 rfl (lv_at hl 1 rfl) ?_
    refine lv_iload_n hx hb dL_isTaught_17 rfl (lv_at hl 2 rfl) ?_
    obtain ⟨r47, u49, h48, h⟩ := xb_s h
    refine nb_ci (nb_runV (As := [.int x1, .int x2]) (rest := []) hx hb hml hown hSW hS hW (c_X7_memory l z ad N X u6 x1 x2 h48) mf_X7_memory lk_L_56 kr_0 rfl rfl ⟨rfl, rfl⟩ ⟨Nat.le_of_ble_eq_true rfl, Nat.le_of_ble_eq_true rfl⟩ hl.1 (Nat.le_of_ble_eq_true rfl) dL_isTaught_18 ⟨Nat.le_of_ble_eq_true rfl, Nat.le_of_ble_eq_true rfl⟩) hS (fun H locs (hW : GW z ad (GC z ad N X u49) H) hS => ?_)
    refine lv_if_ne (tgt := 28) hx hb dL_isTaught_21 (by decide) (fun c50 => ?_) (fun c50 => ?_)
    · replace h := ite_f h c50
      refine lv_iconst (v := 0) hx hb dL_isTaught_28 (by decide) ?_
      refine W.widen (k := 1) (n := 6) (Nat.le_of_ble_eq_true rfl) (Nat.le_of_ble_eq_true rfl) ?_
      exact ne_iretX hx hb hr rfl hlocks hW hS dL_isTaught_29 h
    · replace h := ite_t h c50
      refine lv_iconst (v := 1) hx hb dL_isTaught_24 (by decide) ?_
      refine lv_goto (tgt := 29) hx hb dL_isTaught_25 (by decide) ?_
      refine W.widen (k := 1) (n := 6) (Nat.le_of_ble_eq_true rfl) (Nat.le_of_ble_eq_true rfl) ?_
      exact ne_iretX hx hb hr rfl hlocks hW hS dL_isTaught_29 h
/-- isPlayed -/
def f_L_isPlayed_B53 (N : Nt) (y4 : Int32) (y3 : Int32) (y2 : Int32) (y1 : Int32) (w0 : Int32) (w1 : Int32) (u : St) : Option (Except String Int32 × St) :=
  nm (w1 + w0) fun v14 =>
  if y4 < 1 then
    some (.ok 0, u)
  else
    if 4 < y4 then
      some (.ok 0, u)
    else
      xb (f_X7_ofRound N u y1 0) fun r17 u19 =>
      if r17 = y2 then
        xb (f_X7_ofRound N u19 y1 1) fun r21 u23 =>
        if r21 = y4 then
          xb (f_X7_many N u23 8) fun r25 u27 =>
          if r25 = (y1 + 1) then
            xb (f_X7_many N u27 7) fun r29 u31 =>
            if r29 = (y3 + v14) then
              if y1 < 2 then
                some (.ok 1, u31)
              else
                xb (f_X7_many N u31 9) fun r34 u36 =>
                if r34 = 1 then
                  some (.ok 1, u36)
                else
                  some (.ok 0, u36)
            else
              some (.ok 0, u31)
          else
            some (.ok 0, u27)
        else
          some (.ok 0, u23)
      else
        some (.ok 0, u19)
def f_L_isPlayed_B52 (N : Nt) (y4 : Int32) (y3 : Int32) (y2 : Int32) (y1 : Int32) (w0 : Int32) (u : St) : Option (Except String Int32 × St) :=
  f_L_isPlayed_B53 N y4 y3 y2 y1 0 w0 u
def f_L_isPlayed (N : Nt) (u : St) : Option (Except String Int32 × St) :=
  xb (f_X7_many N u 8) fun r1 u3 =>
  xb (f_X7_many N u3 11) fun r4 u6 =>
  xb (f_X7_many N u6 7) fun r7 u09 =>
  xc (f_X7_play N u09) "java/lang/IllegalStateException"
    (fun r10 u12 =>
      if r1 = 2 then
        if 4 ≤ r10 then
          f_L_isPlayed_B52 N r10 r7 r4 r1 50 u12
        else
          f_L_isPlayed_B53 N r10 r7 r4 r1 (400 - (100 * r10)) 50 u12
      else
        f_L_isPlayed_B52 N r10 r7 r4 r1 50 u12
    )
    fun u12 =>
      if r1 ≤ 0 then
        some (.ok 0, u12)
      else
        xb (f_X7_many N u12 8) fun r40 u42 =>
        if r40 = r1 then
          xb (f_X7_many N u42 7) fun r44 u46 =>
          if r44 = r7 then
            some (.ok 1, u46)
          else
            some (.ok 0, u46)
        else
          some (.ok 0, u42)
set_option maxRecDepth 100000 in
set_option maxHeartbeats 4000000 in
theorem c_L_isPlayed (l : Launch) (z : Zt) (ad : Ad) (N : Nt) (X : Gt) (u : St) (hfl : l.stackTraces = false) {r9 : Int32} {u9 : St} (h : f_L_isPlayed N u = some (.ok r9, u9)) : MCw l z yL_isPlayed cL_isPlayed 6 (some .boolean) [(21, 134, 135, 143)] { frames := 7, cells := 1, slots := 6, locals := 136 } 1 6 [.ref (ad 0 0)] ad (GC z ad N X u) (QI z ad (GC z ad N X u9) r9) := by
  refine va_MetW (hh := [(21, 134, 135, 143)]) (cc := cL_isPlayed) (maxL := 6) (ret := (some .boolean)) (by decide) rfl ?_
  intro p e s m args below meth c s₁ B hml hv
  obtain ⟨rfl, hSW, hW⟩ := hv
  have hx := B.exec; have hb := B.bytes; have hr := B.returns; have hlocks := B.notSynchronized
  have hown : s.vm.findClass RL = some m.cls := findClass_of_methodNamed B.named
  have htab : c.exceptionTable.toList = tableOf [(21, 134, 135, 143)] := vx_table (x := yL_isPlayed) B (atoms_spec (ws := [Cond.codeWith yL_isPlayed cL_isPlayed 6 (some .boolean) [(21, 134, 135, 143)]]) B.pre _ List.mem_cons_self)
  obtain ⟨hT, hK, hST, hB0⟩ := id hSW
  have hS : va_S (zA z) s.heap s.heap [] := va_S.rf
  have hl := lv_entry ([.ref (ad 0 0)]) (n := 6) (Nat.le_of_ble_eq_true rfl)
  rw [lg_entry_eq]
  generalize (lg_sl ([.ref (ad 0 0)]) ++ List.replicate (6 - (lg_sl ([.ref (ad 0 0)])).length) Slot.unset).toArray = ls at hl ⊢
  have hl : lv_has ls 6 [(0, .ref (ad 0 0))] := hl
  let WW : Nat → Nat → Heap → List Loc → JFrame → Prop := fun c9 s9 H locs g => W p l e (headSpec [Cond.codeWith yL_isPlayed cL_isPlayed 6 (some .boolean) [(21, 134, 135, 143)]] { frames := 7, cells := 1, slots := 6, locals := 136 }).room s m [.ref (ad 0 0)].toArray below meth c H locs c9 s9 (MQ below (QI z ad (GC z ad N X u9) r9) [.ref (ad 0 0)].toArray s 1 6 (zA z)) g
  have hB53 : ∀ (y4 : Int32) (y3 : Int32) (y2 : Int32) (y1 : Int32) (w0 : Int32) (w1 : Int32) (u : St) (H : Heap) (locs : List Loc) (ls : Array Slot), lv_has ls 6 [(4, .int y4), (3, .int y3), (2, .int y2), (1, .int y1), (0, .ref (ad 0 0))] → GW z ad (GC z ad N X u) H → va_S (zA z) s.heap H locs → f_L_isPlayed_B53 N y4 y3 y2 y1 w0 w1 u = some (.ok r9, u9) → WW 0 0 H locs (F0 m 53 ls [.int w0, .int w1]) := by
    intro y4 y3 y2 y1 w0 w1 u H locs ls hl hW hS h
    change W p l e _ s m _ below meth c H locs 0 0 _ (F0 m 53 ls [.int w0, .int w1])
    unfold f_L_isPlayed_B53 at h
    refine lv_iadd hx hb dL_isPlayed_53 ?_
    refine lv_topi (fun v14 ev14 => ?_)
    replace h := nm_at ev14 h
    refine lv_istore (lv' := [(5, .int v14), (4, .int y4), (3, .int y3), (2, .int y2), (1, .int y1), (0, .ref (ad 0 0))]) hx hb dL_isPlayed_54 hl (by decide) rfl (fun ls hl => ?_)
    refine lv_iload hx hb dL_isPlayed_56 (lv_at hl 1 rfl) ?_
    refine lv_iconst (v := 1) hx hb dL_isPlayed_58 (by decide) ?_
    refine lv_icmp_lt (tgt := 133) hx hb dL_isPlayed_59 (by decide) (fun c15 => ?_) (fun c15 => ?_)
    · replace h := ite_t h c15
      refine lv_iconst (v := 0) hx hb dL_isPlayed_133 (by decide) ?_
      refine W.widen (k := 1) (n := 6) (Nat.le_of_ble_eq_true rfl) (Nat.le_of_ble_eq_true rfl) ?_
      exact ne_iretX hx hb hr rfl hlocks hW hS dL_isPlayed_134 h
    · replace h := ite_f h c15
      refine lv_iload hx hb dL_isPlayed_62 (lv_at hl 1 rfl) ?_
      refine lv_iconst (v := 4) hx hb dL_isPlayed_64 (by decide) ?_
      refine lv_icmp_gt (tgt := 133) hx hb dL_isPlayed_65 (by decide) (fun c16 => ?_) (fun c16 => ?_)
      · replace h := ite_t h c16
        refine lv_iconst (v := 0) hx hb dL_isPlayed_133 (by decide) ?_
        refine W.widen (k := 1) (n := 6) (Nat.le_of_ble_eq_true rfl) (Nat.le_of_ble_eq_true rfl) ?_
        exact ne_iretX hx hb hr rfl hlocks hW hS dL_isPlayed_134 h
      · replace h := ite_f h c16
        refine lv_aload_n hx hb dL_isPlayed_68 rfl (lv_at hl 5 rfl) ?_
        refine lv_iload_n hx hb dL_isPlayed_69 rfl (lv_at hl 4 rfl) ?_
        refine lv_iconst (v := 0) hx hb dL_isPlayed_70 (by decide) ?_
        obtain ⟨r17, u19, h18, h⟩ := xb_s h
        refine nb_ci (nb_runV (As := [.int y1, .int 0]) (rest := []) hx hb hml hown hSW hS hW (c_X7_ofRound l z ad N X u y1 0 h18) mf_X7_ofRound lk_L_148 kr_0 rfl rfl ⟨rfl, rfl⟩ ⟨Nat.le_of_ble_eq_true rfl, Nat.le_of_ble_eq_true rfl⟩ hl.1 (Nat.le_of_ble_eq_true rfl) dL_isPlayed_71 ⟨Nat.le_of_ble_eq_true rfl, Nat.le_of_ble_eq_true rfl⟩) hS (fun H locs (hW : GW z ad (GC z ad N X u19) H) hS => ?_)
        refine lv_iload_n hx hb dL_isPlayed_74 rfl (lv_at hl 3 rfl) ?_
        refine lv_icmp_ne (tgt := 133) hx hb dL_isPlayed_75 (by decide) (fun c20 => ?_) (fun c20 => ?_)
        · replace h := ite_f h c20
          refine lv_iconst (v := 0) hx hb dL_isPlayed_133 (by decide) ?_
          refine W.widen (k := 1) (n := 6) (Nat.le_of_ble_eq_true rfl) (Nat.le_of_ble_eq_true rfl) ?_
          exact ne_iretX hx hb hr rfl hlocks hW hS dL_isPlayed_134 h
        · replace h := ite_t h c20
          refine lv_aload_n hx hb dL_isPlayed_78 rfl (lv_at hl 5 rfl) ?_
          refine lv_iload_n hx hb dL_isPlayed_79 rfl (lv_at hl 4 rfl) ?_
          refine lv_iconst (v := 1) hx hb dL_isPlayed_80 (by decide) ?_
          obtain ⟨r21, u23, h22, h⟩ := xb_s h
          refine nb_ci (nb_runV (As := [.int y1, .int 1]) (rest := []) hx hb hml hown hSW hS hW (c_X7_ofRound l z ad N X u19 y1 1 h22) mf_X7_ofRound lk_L_148 kr_0 rfl rfl ⟨rfl, rfl⟩ ⟨Nat.le_of_ble_eq_true rfl, Nat.le_of_ble_eq_true rfl⟩ hl.1 (Nat.le_of_ble_eq_true rfl) dL_isPlayed_81 ⟨Nat.le_of_ble_eq_true rfl, Nat.le_of_ble_eq_true rfl⟩) hS (fun H locs (hW : GW z ad (GC z ad N X u23) H) hS => ?_)
          refine lv_iload hx hb dL_isPlayed_84 (lv_at hl 1 rfl) ?_
          refine lv_icmp_ne (tgt := 133) hx hb dL_isPlayed_86 (by decide) (fun c24 => ?_) (fun c24 => ?_)
          · replace h := ite_f h c24
            refine lv_iconst (v := 0) hx hb dL_isPlayed_133 (by decide) ?_
            refine W.widen (k := 1) (n := 6) (Nat.le_of_ble_eq_true rfl) (Nat.le_of_ble_eq_true rfl) ?_
            exact ne_iretX hx hb hr rfl hlocks hW hS dL_isPlayed_134 h
          · replace h := ite_t h c24
            refine lv_aload_n hx hb dL_isPlayed_89 rfl (lv_at hl 5 rfl) ?_
            refine lv_bipush (v := 8) hx hb dL_isPlayed_90 (by decide) ?_
            obtain ⟨r25, u27, h26, h⟩ := xb_s h
            refine nb_ci (nb_runV (As := [.int 8]) (rest := []) hx hb hml hown hSW hS hW (c_X7_many l z ad N X u23 8 h26) mf_X7_many lk_L_65 kr_0 rfl rfl ⟨rfl, rfl⟩ ⟨Nat.le_of_ble_eq_true rfl, Nat.le_of_ble_eq_true rfl⟩ hl.1 (Nat.le_of_ble_eq_true rfl) dL_isPlayed_92 ⟨Nat.le_of_ble_eq_true rfl, Nat.le_of_ble_eq_true rfl⟩) hS (fun H locs (hW : GW z ad (GC z ad N X u27) H) hS => ?_)
            refine lv_iload_n hx hb dL_isPlayed_95 rfl (lv_at hl 4 rfl) ?_
            refine lv_iconst (v := 1) hx hb dL_isPlayed_96 (by decide) ?_
            refine lv_iadd hx hb dL_isPlayed_97 ?_
            refine lv_icmp_ne (tgt := 133) hx hb dL_isPlayed_98 (by decide) (fun c28 => ?_) (fun c28 => ?_)
            · replace h := ite_f h c28
              refine lv_iconst (v := 0) hx hb dL_isPlayed_133 (by decide) ?_
              refine W.widen (k := 1) (n := 6) (Nat.le_of_ble_eq_true rfl) (Nat.le_of_ble_eq_true rfl) ?_
              exact ne_iretX hx hb hr rfl hlocks hW hS dL_isPlayed_134 h
            · replace h := ite_t h c28
              refine lv_aload_n hx hb dL_isPlayed_101 rfl (lv_at hl 5 rfl) ?_
              refine lv_bipush (v := 7) hx hb dL_isPlayed_102 (by decide) ?_
              obtain ⟨r29, u31, h30, h⟩ := xb_s h
              refine nb_ci (nb_runV (As := [.int 7]) (rest := []) hx hb hml hown hSW hS hW (c_X7_many l z ad N X u27 7 h30) mf_X7_many lk_L_65 kr_0 rfl rfl ⟨rfl, rfl⟩ ⟨Nat.le_of_ble_eq_true rfl, Nat.le_of_ble_eq_true rfl⟩ hl.1 (Nat.le_of_ble_eq_true rfl) dL_isPlayed_104 ⟨Nat.le_of_ble_eq_true rfl, Nat.le_of_ble_eq_true rfl⟩) hS (fun H locs (hW : GW z ad (GC z ad N X u31) H) hS => ?_)
              refine lv_iload_n hx hb dL_isPlayed_107 rfl (lv_at hl 2 rfl) ?_
              refine lv_iload hx hb dL_isPlayed_108 (lv_at hl 0 rfl) ?_
              refine lv_iadd hx hb dL_isPlayed_110 ?_
              refine lv_icmp_ne (tgt := 133) hx hb dL_isPlayed_111 (by decide) (fun c32 => ?_) (fun c32 => ?_)
              · replace h := ite_f h c32
                refine lv_iconst (v := 0) hx hb dL_isPlayed_133 (by decide) ?_
                refine W.widen (k := 1) (n := 6) (Nat.le_of_ble_eq_true rfl) (Nat.le_of_ble_eq_true rfl) ?_
                exact ne_iretX hx hb hr rfl hlocks hW hS dL_isPlayed_134 h
              · replace h := ite_t h c32
                refine lv_iload_n hx hb dL_isPlayed_114 rfl (lv_at hl 4 rfl) ?_
                refine lv_iconst (v := 2) hx hb dL_isPlayed_115 (by decide) ?_
                refine lv_icmp_lt (tgt := 129) hx hb dL_isPlayed_116 (by decide) (fun c33 => ?_) (fun c33 => ?_)
                · replace h := ite_t h c33
                  refine lv_iconst (v := 1) hx hb dL_isPlayed_129 (by decide) ?_
                  refine lv_goto (tgt := 134) hx hb dL_isPlayed_130 (by decide) ?_
                  refine W.widen (k := 1) (n := 6) (Nat.le_of_ble_eq_true rfl) (Nat.le_of_ble_eq_true rfl) ?_
                  exact ne_iretX hx hb hr rfl hlocks hW hS dL_isPlayed_134 h
                · replace h := ite_f h c33
                  refine lv_aload_n hx hb dL_isPlayed_119 rfl (lv_at hl 5 rfl) ?_
                  refine lv_bipush (v := 9) hx hb dL_isPlayed_120 (by decide) ?_
                  obtain ⟨r34, u36, h35, h⟩ := xb_s h
                  refine nb_ci (nb_runV (As := [.int 9]) (rest := []) hx hb hml hown hSW hS hW (c_X7_many l z ad N X u31 9 h35) mf_X7_many lk_L_65 kr_0 rfl rfl ⟨rfl, rfl⟩ ⟨Nat.le_of_ble_eq_true rfl, Nat.le_of_ble_eq_true rfl⟩ hl.1 (Nat.le_of_ble_eq_true rfl) dL_isPlayed_122 ⟨Nat.le_of_ble_eq_true rfl, Nat.le_of_ble_eq_true rfl⟩) hS (fun H locs (hW : GW z ad (GC z ad N X u36) H) hS => ?_)
                  refine lv_iconst (v := 1) hx hb dL_isPlayed_125 (by decide) ?_
                  refine lv_icmp_ne (tgt := 133) hx hb dL_isPlayed_126 (by decide) (fun c37 => ?_) (fun c37 => ?_)
                  · replace h := ite_f h c37
                    refine lv_iconst (v := 0) hx hb dL_isPlayed_133 (by decide) ?_
                    refine W.widen (k := 1) (n := 6) (Nat.le_of_ble_eq_true rfl) (Nat.le_of_ble_eq_true rfl) ?_
                    exact ne_iretX hx hb hr rfl hlocks hW hS dL_isPlayed_134 h
                  · replace h := ite_t h c37
                    refine lv_iconst (v := 1) hx hb dL_isPlayed_129 (by decide) ?_
                    refine lv_goto (tgt := 134) hx hb dL_isPlayed_130 (by decide) ?_
                    refine W.widen (k := 1) (n := 6) (Nat.le_of_ble_eq_true rfl) (Nat.le_of_ble_eq_true rfl) ?_
                    exact ne_iretX hx hb hr rfl hlocks hW hS dL_isPlayed_134 h
  have hB52 : ∀ (y4 : Int32) (y3 : Int32) (y2 : Int32) (y1 : Int32) (w0 : Int32) (u : St) (H : Heap) (locs : List Loc) (ls : Array Slot), lv_has ls 6 [(4, .int y4), (3, .int y3), (2, .int y2), (1, .int y1), (0, .ref (ad 0 0))] → GW z ad (GC z ad N X u) H → va_S (zA z) s.heap H locs → f_L_isPlayed_B52 N y4 y3 y2 y1 w0 u = some (.ok r9, u9) → WW 0 0 H locs (F0 m 52 ls [.int w0]) := by
    intro y4 y3 y2 y1 w0 u H locs ls hl hW hS h
    change W p l e _ s m _ below meth c H locs 0 0 _ (F0 m 52 ls [.int w0])
    unfold f_L_isPlayed_B52 at h
    refine lv_iconst (v := 0) hx hb dL_isPlayed_52 (by decide) ?_
    exact hB53 _ _ _ _ _ _ _ _ _ _ (lv_sub hl [0, 1, 2, 3, 4] rfl) hW hS h
  unfold f_L_isPlayed at h
  refine lv_aload_n hx hb dL_isPlayed_0 rfl (lv_at hl 0 rfl) ?_
  refine lv_bipush (v := 8) hx hb dL_isPlayed_1 (by decide) ?_
  obtain ⟨r1, u3, h2, h⟩ := xb_s h
  refine nb_ci (nb_runV (As := [.int 8]) (rest := []) hx hb hml hown hSW hS hW (c_X7_many l z ad N X u 8 h2) mf_X7_many lk_L_65 kr_0 rfl rfl ⟨rfl, rfl⟩ ⟨Nat.le_of_ble_eq_true rfl, Nat.le_of_ble_eq_true rfl⟩ hl.1 (Nat.le_of_ble_eq_true rfl) dL_isPlayed_3 ⟨Nat.le_of_ble_eq_true rfl, Nat.le_of_ble_eq_true rfl⟩) hS (fun H locs (hW : GW z ad (GC z ad N X u3) H) hS => ?_)
  refine lv_istore_n (lv' := [(1, .int r1), (0, .ref (ad 0 0))]) hx hb dL_isPlayed_6 rfl hl (by decide) rfl (fun ls hl => ?_)
  refine lv_aload_n hx hb dL_isPlayed_7 rfl (lv_at hl 1 rfl) ?_
  refine lv_bipush (v := 11) hx hb dL_isPlayed_8 (by decide) ?_
  obtain ⟨r4, u6, h5, h⟩ := xb_s h
  refine nb_ci (nb_runV (As := [.int 11]) (rest := []) hx hb hml hown hSW hS hW (c_X7_many l z ad N X u3 11 h5) mf_X7_many lk_L_65 kr_0 rfl rfl ⟨rfl, rfl⟩ ⟨Nat.le_of_ble_eq_true rfl, Nat.le_of_ble_eq_true rfl⟩ hl.1 (Nat.le_of_ble_eq_true rfl) dL_isPlayed_10 ⟨Nat.le_of_ble_eq_true rfl, Nat.le_of_ble_eq_true rfl⟩) hS (fun H locs (hW : GW z ad (GC z ad N X u6) H) hS => ?_)
  refine lv_istore_n (lv' := [(2, .int r4), (1, .int r1), (0, .ref (ad 0 0))]) hx hb dL_isPlayed_13 rfl hl (by decide) rfl (fun ls hl => ?_)
  refine lv_aload_n hx hb dL_isPlayed_14 rfl (lv_at hl 2 rfl) ?_
  refine lv_bipush (v := 7) hx hb dL_isPlayed_15 (by decide) ?_
  obtain ⟨r7, u09, h8, h⟩ := xb_s h
  refine nb_ci (nb_runV (As := [.int 7]) (rest := []) hx hb hml hown hSW hS hW (c_X7_many l z ad N X u6 7 h8) mf_X7_many lk_L_65 kr_0 rfl rfl ⟨rfl, rfl⟩ ⟨Nat.le_of_ble_eq_true rfl, Nat.le_of_ble_eq_true rfl⟩ hl.1 (Nat.le_of_ble_eq_true rfl) dL_isPlayed_17 ⟨Nat.le_of_ble_eq_true rfl, Nat.le_of_ble_eq_true rfl⟩) hS (fun H locs (hW : GW z ad (GC z ad N X u09) H) hS => ?_)
  refine lv_istore_n (lv' := [(3, .int r7), (2, .int r4), (1, .int r1), (0, .ref (ad 0 0))]) hx hb dL_isPlayed_20 rfl hl (by decide) rfl (fun ls hl => ?_)
  refine lv_aload_n hx hb dL_isPlayed_21 rfl (lv_at hl 3 rfl) ?_
  rcases xc_s h with ⟨r10, u12, h11, h⟩ | ⟨u12, h11, h⟩
  · refine nb_ci (nb_runV (As := []) (rest := []) hx hb hml hown hSW hS hW (c_X7_play l z ad N X u09 h11) mf_X7_play lk_L_145 kr_0 rfl rfl ⟨rfl, rfl⟩ ⟨Nat.le_of_ble_eq_true rfl, Nat.le_of_ble_eq_true rfl⟩ hl.1 (Nat.le_of_ble_eq_true rfl) dL_isPlayed_22 ⟨Nat.le_of_ble_eq_true rfl, Nat.le_of_ble_eq_true rfl⟩) hS (fun H locs (hW : GW z ad (GC z ad N X u12) H) hS => ?_)
    refine lv_istore (lv' := [(4, .int r10), (3, .int r7), (2, .int r4), (1, .int r1), (0, .ref (ad 0 0))]) hx hb dL_isPlayed_25 hl (by decide) rfl (fun ls hl => ?_)
    refine lv_bipush (v := 50) hx hb dL_isPlayed_27 (by decide) ?_
    refine lv_iload_n hx hb dL_isPlayed_29 rfl (lv_at hl 3 rfl) ?_
    refine lv_iconst (v := 2) hx hb dL_isPlayed_30 (by decide) ?_
    refine lv_icmp_ne (tgt := 52) hx hb dL_isPlayed_31 (by decide) (fun c13 => ?_) (fun c13 => ?_)
    · replace h := ite_f h c13
      exact hB52 _ _ _ _ _ _ _ _ _ (lv_sub hl [0, 1, 2, 3, 4] rfl) hW hS h
    · replace h := ite_t h c13
      refine lv_iload hx hb dL_isPlayed_34 (lv_at hl 0 rfl) ?_
      refine lv_iconst (v := 4) hx hb dL_isPlayed_36 (by decide) ?_
      refine lv_icmp_ge (tgt := 52) hx hb dL_isPlayed_37 (by decide) (fun c38 => ?_) (fun c38 => ?_)
      · replace h := ite_t h c38
        exact hB52 _ _ _ _ _ _ _ _ _ (lv_sub hl [0, 1, 2, 3, 4] rfl) hW hS h
      · replace h := ite_f h c38
        refine lv_sipush (v := 400) hx hb dL_isPlayed_40 (by decide) ?_
        refine lv_bipush (v := 100) hx hb dL_isPlayed_43 (by decide) ?_
        refine lv_iload hx hb dL_isPlayed_45 (lv_at hl 0 rfl) ?_
        refine lv_imul hx hb dL_isPlayed_47 ?_
        refine lv_isub hx hb dL_isPlayed_48 ?_
        refine lv_goto (tgt := 53) hx hb dL_isPlayed_49 (by decide) ?_
        exact hB53 _ _ _ _ _ _ _ _ _ _ (lv_sub hl [0, 1, 2, 3, 4] rfl) hW hS h
  · refine nx_ci (nx_runV (As := []) (rest := []) hx hb hml hown hSW hS hW (cx_X7_play l z ad N X u09 hfl h11) mf_X7_play (List.mem_of_getElem? (i := 814) (by decide +kernel)) kr_0 rfl rfl ⟨rfl, rfl⟩ ⟨Nat.le_of_ble_eq_true rfl, Nat.le_of_ble_eq_true rfl⟩ hl.1 (Nat.le_of_ble_eq_true rfl) dL_isPlayed_22 ⟨Nat.le_of_ble_eq_true rfl, Nat.le_of_ble_eq_true rfl⟩) hS (fun ce q9 H locs hce hcv hcl hW hS => ?_)
    refine vx_catch (E := "java/lang/IllegalStateException") (name := "java/lang/IllegalStateException") hown [] (⟨21, 134, 135, 143⟩ : ExceptionTableEntry) [] (htab.trans rfl) (fun zz hz => absurd hz List.not_mem_nil) (by decide) (by decide) (hT.use (List.mem_of_getElem? (i := 803) (by decide +kernel)) rfl) (hT.use (List.mem_of_getElem? (i := 303) (by decide +kernel)) rfl) hce hcv hcl ?_
    refine lv_astore (lv' := [(4, .ref q9), (3, .int r7), (2, .int r4), (1, .int r1), (0, .ref (ad 0 0))]) hx hb dL_isPlayed_135 hl (by decide) rfl (fun ls hl => ?_)
    refine lv_iload_n hx hb dL_isPlayed_137 rfl (lv_at hl 3 rfl) ?_
    refine lv_if_le (tgt := 165) hx hb dL_isPlayed_138 (by decide) (fun c39 => ?_) (fun c39 => ?_)
    · replace h := ite_t h c39
      refine lv_iconst (v := 0) hx hb dL_isPlayed_165 (by decide) ?_
      refine W.widen (k := 1) (n := 6) (Nat.le_of_ble_eq_true rfl) (Nat.le_of_ble_eq_true rfl) ?_
      exact ne_iretX hx hb hr rfl hlocks hW hS dL_isPlayed_166 h
    · replace h := ite_f h c39
      refine lv_aload_n hx hb dL_isPlayed_141 rfl (lv_at hl 4 rfl) ?_
      refine lv_bipush (v := 8) hx hb dL_isPlayed_142 (by decide) ?_
      obtain ⟨r40, u42, h41, h⟩ := xb_s h
      refine nb_ci (nb_runV (As := [.int 8]) (rest := []) hx hb hml hown hSW hS hW (c_X7_many l z ad N X u12 8 h41) mf_X7_many lk_L_65 kr_0 rfl rfl ⟨rfl, rfl⟩ ⟨Nat.le_of_ble_eq_true rfl, Nat.le_of_ble_eq_true rfl⟩ hl.1 (Nat.le_of_ble_eq_true rfl) dL_isPlayed_144 ⟨Nat.le_of_ble_eq_true rfl, Nat.le_of_ble_eq_true rfl⟩) hS (fun H locs (hW : GW z ad (GC z ad N X u42) H) hS => ?_)
      refine lv_iload_n hx hb dL_isPlayed_147 rfl (lv_at hl 3 rfl) ?_
      refine lv_icmp_ne (tgt := 165) hx hb dL_isPlayed_148 (by decide) (fun c43 => ?_) (fun c43 => ?_)
      · replace h := ite_f h c43
        refine lv_iconst (v := 0) hx hb dL_isPlayed_165 (by decide) ?_
        refine W.widen (k := 1) (n := 6) (Nat.le_of_ble_eq_true rfl) (Nat.le_of_ble_eq_true rfl) ?_
        exact ne_iretX hx hb hr rfl hlocks hW hS dL_isPlayed_166 h
      · replace h := ite_t h c43
        refine lv_aload_n hx hb dL_isPlayed_151 rfl (lv_at hl 4 rfl) ?_
        refine lv_bipush (v := 7) hx hb dL_isPlayed_152 (by decide) ?_
        obtain ⟨r44, u46, h45, h⟩ := xb_s h
        refine nb_ci (nb_runV (As := [.int 7]) (rest := []) hx hb hml hown hSW hS hW (c_X7_many l z ad N X u42 7 h45) mf_X7_many lk_L_65 kr_0 rfl rfl ⟨rfl, rfl⟩ ⟨Nat.le_of_ble_eq_true rfl, Nat.le_of_ble_eq_true rfl⟩ hl.1 (Nat.le_of_ble_eq_true rfl) dL_isPlayed_154 ⟨Nat.le_of_ble_eq_true rfl, Nat.le_of_ble_eq_true rfl⟩) hS (fun H locs (hW : GW z ad (GC z ad N X u46) H) hS => ?_)
        refine lv_iload_n hx hb dL_isPlayed_157 rfl (lv_at hl 1 rfl) ?_
        refine lv_icmp_ne (tgt := 165) hx hb dL_isPlayed_158 (by decide) (fun c47 => ?_) (fun c47 => ?_)
        · replace h := ite_f h c47
          refine lv_iconst (v := 0) hx hb dL_isPlayed_165 (by decide) ?_
          refine W.widen (k := 1) (n := 6) (Nat.le_of_ble_eq_true rfl) (Nat.le_of_ble_eq_true rfl) ?_
          exact ne_iretX hx hb hr rfl hlocks hW hS dL_isPlayed_166 h
        · replace h := ite_t h c47
          refine lv_iconst (v := 1) hx hb dL_isPlayed_161 (by decide) ?_
          refine lv_goto (tgt := 166) hx hb dL_isPlayed_162 (by decide) ?_
          refine W.widen (k := 1) (n := 6) (Nat.le_of_ble_eq_true rfl) (Nat.le_of_ble_eq_true rfl) ?_
          exact ne_iretX hx hb hr rfl hlocks hW hS dL_isPlayed_166 h
/-- isPassed -/
def f_L_isPassed_L255b (N : Nt) (ih245 : Int32 → (Nat → Nat → Int32) → (Nat → Int32) → (Nat → Int32) → St → Option (Except String Int32 × St)) (ih255 : Int32 → Int32 → (Nat → Nat → Int32) → (Nat → Int32) → (Nat → Int32) → St → Option (Except String Int32 × St)) (y9 : Int32) (y8 : Int32) (cm : Nat → Nat → Int32) (co cf : Nat → Int32) (u : St) : Option (Except String Int32 × St) :=
  if 6 ≤ y9 then
    nm (y8 + 1) fun v21 =>
    ih245 v21 cm co cf u
  else
    xb (f_X7_memory N u y8 y9) fun r22 u24 =>
    gd (inb y8 6) <|
    gd (inb y9 6) <|
    if r22 = (cm (ix y8) (ix y9)) then
      nm (y9 + 1) fun v28 =>
      ih255 v28 y8 cm co cf u24
    else
      xb (f_X7_ofPhrase N u24 y9 1) fun r29 u31 =>
      nm (mmax 0 (((cm (ix y8) (ix y9)) - 1) - (r29 / 2))) fun v32 =>
      if r22 = v32 then
        nm (y9 + 1) fun v34 =>
        ih255 v34 y8 cm co cf u31
      else
        some (.ok 0, u31)
def f_L_isPassed_L255 (N : Nt) (ih245 : Int32 → (Nat → Nat → Int32) → (Nat → Int32) → (Nat → Int32) → St → Option (Except String Int32 × St)) : Nat → Int32 → Int32 → (Nat → Nat → Int32) → (Nat → Int32) → (Nat → Int32) → St → Option (Except String Int32 × St) := lp (fun _ _ _ _ _ _ => none) (f_L_isPassed_L255b N ih245)
def f_L_isPassed_L245b (N : Nt) (ih245 : Int32 → (Nat → Nat → Int32) → (Nat → Int32) → (Nat → Int32) → St → Option (Except String Int32 × St)) (y8 : Int32) (cm : Nat → Nat → Int32) (co cf : Nat → Int32) (u : St) : Option (Except String Int32 × St) :=
  if 6 ≤ y8 then
    some (.ok 1, u)
  else
    f_L_isPassed_L255 N ih245 1000000 0 y8 cm co cf u
def f_L_isPassed_L245 (N : Nt) : Nat → Int32 → (Nat → Nat → Int32) → (Nat → Int32) → (Nat → Int32) → St → Option (Except String Int32 × St) := lp (fun _ _ _ _ _ => none) (f_L_isPassed_L245b N)
def f_L_isPassed_B230 (N : Nt) (ih169 : Int32 → Int32 → Int32 → (Nat → Nat → Int32) → (Nat → Int32) → (Nat → Int32) → St → Option (Except String Int32 × St)) (y8 : Int32) (y1 : Int32) (y2 : Int32) (w0 : Int32) (w1 : Int32) (w2 : Int32) (cm : Nat → Nat → Int32) (co cf : Nat → Int32) (u : St) : Option (Except String Int32 × St) :=
  if w2 = (w1 + w0) then
    nm (y8 + 1) fun v48 =>
    ih169 v48 y1 y2 cm co cf u
  else
    some (.ok 0, u)
def f_L_isPassed_B200 (N : Nt) (ih169 : Int32 → Int32 → Int32 → (Nat → Nat → Int32) → (Nat → Int32) → (Nat → Int32) → St → Option (Except String Int32 × St)) (y8 : Int32) (y1 : Int32) (y2 : Int32) (w0 : Int32) (w1 : Int32) (w2 : Int32) (w3 : Int32) (cm : Nat → Nat → Int32) (co cf : Nat → Int32) (u : St) : Option (Except String Int32 × St) :=
  nm (mmin w2 (w1 + w0)) fun v40 =>
  if w3 = v40 then
    xb (f_X7_ofPan N u y8 1) fun r42 u44 =>
    gd (inb y8 4) <|
    if y2 ≤ 4 then
      f_L_isPassed_B230 N ih169 y8 y1 y2 0 (cf (ix y8)) r42 cm co cf u44
    else
      f_L_isPassed_B230 N ih169 y8 y1 y2 10 (cf (ix y8)) r42 cm co cf u44
  else
    some (.ok 0, u)
def f_L_isPassed_L169b (N : Nt) (ih169 : Int32 → Int32 → Int32 → (Nat → Nat → Int32) → (Nat → Int32) → (Nat → Int32) → St → Option (Except String Int32 × St)) (y8 : Int32) (y1 : Int32) (y2 : Int32) (cm : Nat → Nat → Int32) (co cf : Nat → Int32) (u : St) : Option (Except String Int32 × St) :=
  if 4 ≤ y8 then
    f_L_isPassed_L245 N 1000000 0 cm co cf u
  else
    xb (f_X7_off N u y8 2) fun r35 u37 =>
    gd (inb y8 4) <|
    if y1 ≤ 6 then
      f_L_isPassed_B200 N ih169 y8 y1 y2 0 (co (ix y8)) 99 r35 cm co cf u37
    else
      f_L_isPassed_B200 N ih169 y8 y1 y2 1 (co (ix y8)) 99 r35 cm co cf u37
def f_L_isPassed_L169 (N : Nt) : Nat → Int32 → Int32 → Int32 → (Nat → Nat → Int32) → (Nat → Int32) → (Nat → Int32) → St → Option (Except String Int32 × St) := lp (fun _ _ _ _ _ _ _ => none) (f_L_isPassed_L169b N)
def f_L_isPassed_L69b (N : Nt) (ih69 : Int32 → Int32 → Int32 → (Nat → Nat → Int32) → (Nat → Int32) → (Nat → Int32) → St → Option (Except String Int32 × St)) (y6 : Int32) (y1 : Int32) (y2 : Int32) (cm : Nat → Nat → Int32) (co cf : Nat → Int32) (u : St) : Option (Except String Int32 × St) :=
  if 4 ≤ y6 then
    xb (f_X7_wouldTotal N u 1) fun r3 u5 =>
    xb (f_X7_many N u5 0) fun r6 u8 =>
    xb (f_X7_pass N u8 1 y1 y2) fun r09 u11 =>
    if r09 = (r6 + 1) then
      xb (f_X7_many N u11 12) fun r13 u15 =>
      if r13 = 0 then
        if 7 ≤ y1 then
          f_L_isPassed_L169 N 1000000 0 y1 y2 cm co cf u15
        else
          if 5 ≤ y2 then
            f_L_isPassed_L169 N 1000000 0 y1 y2 cm co cf u15
          else
            xb (f_X7_many N u15 10) fun r50 u52 =>
            if r50 = r3 then
              f_L_isPassed_L169 N 1000000 0 y1 y2 cm co cf u52
            else
              some (.ok 0, u52)
      else
        some (.ok 0, u15)
    else
      some (.ok 0, u11)
  else
    xb (f_X7_off N u y6 2) fun r54 u56 =>
    gd (inb y6 4) <|
    nm (upd co (ix y6) r54) fun cn57 =>
    xb (f_X7_ofPan N u56 y6 1) fun r59 u61 =>
    nm (upd cf (ix y6) r59) fun cn62 =>
    nm (y6 + 1) fun v63 =>
    ih69 v63 y1 y2 cm cn57 cn62 u61
def f_L_isPassed_L69 (N : Nt) : Nat → Int32 → Int32 → Int32 → (Nat → Nat → Int32) → (Nat → Int32) → (Nat → Int32) → St → Option (Except String Int32 × St) := lp (fun _ _ _ _ _ _ _ => none) (f_L_isPassed_L69b N)
def f_L_isPassed_L22b (N : Nt) (ih12 : Int32 → Int32 → Int32 → (Nat → Nat → Int32) → St → Option (Except String Int32 × St)) (ih22 : Int32 → Int32 → Int32 → Int32 → (Nat → Nat → Int32) → St → Option (Except String Int32 × St)) (y5 : Int32) (y4 : Int32) (y1 : Int32) (y2 : Int32) (cm : Nat → Nat → Int32) (u : St) : Option (Except String Int32 × St) :=
  if 6 ≤ y5 then
    nm (y4 + 1) fun v65 =>
    ih12 v65 y1 y2 cm u
  else
    gd (inb y4 6) <|
    xb (f_X7_memory N u y4 y5) fun r67 u69 =>
    gd (inb y5 6) <|
    nm (upd2 cm (ix y4) (ix y5) r67) fun cn70 =>
    nm (y5 + 1) fun v72 =>
    ih22 v72 y4 y1 y2 cn70 u69
def f_L_isPassed_L22 (N : Nt) (ih12 : Int32 → Int32 → Int32 → (Nat → Nat → Int32) → St → Option (Except String Int32 × St)) : Nat → Int32 → Int32 → Int32 → Int32 → (Nat → Nat → Int32) → St → Option (Except String Int32 × St) := lp (fun _ _ _ _ _ _ => none) (f_L_isPassed_L22b N ih12)
def f_L_isPassed_L12b (N : Nt) (ih12 : Int32 → Int32 → Int32 → (Nat → Nat → Int32) → St → Option (Except String Int32 × St)) (y4 : Int32) (y1 : Int32) (y2 : Int32) (cm : Nat → Nat → Int32) (u : St) : Option (Except String Int32 × St) :=
  if 6 ≤ y4 then
    nm (fun _ => 0 : Nat → Int32) fun co =>
    nm (fun _ => 0 : Nat → Int32) fun cf =>
    f_L_isPassed_L69 N 1000000 0 y1 y2 cm co cf u
  else
    f_L_isPassed_L22 N ih12 1000000 0 y4 y1 y2 cm u
def f_L_isPassed_L12 (N : Nt) : Nat → Int32 → Int32 → Int32 → (Nat → Nat → Int32) → St → Option (Except String Int32 × St) := lp (fun _ _ _ _ _ => none) (f_L_isPassed_L12b N)
def f_L_isPassed (N : Nt) (u : St) (x1 : Int32) (x2 : Int32) : Option (Except String Int32 × St) :=
  nm (fun _ _ => 0 : Nat → Nat → Int32) fun cm =>
  f_L_isPassed_L12 N 1000000 0 x1 x2 cm u
set_option maxRecDepth 100000 in
set_option maxHeartbeats 4000000 in
theorem c_L_isPassed (l : Launch) (z : Zt) (ad : Ad) (N : Nt) (X0 : Gt) (u : St) (x1 : Int32) (x2 : Int32) (hA : Raw ad) {r9 : Int32} {u9 : St} (h : f_L_isPassed N u x1 x2 = some (.ok r9, u9)) : MC l z yL_isPassed cL_isPassed 11 (some .boolean) { frames := 6, cells := 9, slots := 50, locals := 135 } 9 50 [.ref (ad 0 0), .int x1, .int x2] ad (GC z ad N X0 u) (QI z ad (GC z ad N X0 u9) r9) := by
  refine Met.ofW (cc := cL_isPassed) (maxL := 11) (ret := (some .boolean)) (by decide) rfl ?_
  intro p e s m args below meth c s₁ B hml hv
  obtain ⟨rfl, hSW, hW⟩ := hv
  have hx := B.exec; have hb := B.bytes; have hr := B.returns; have hlocks := B.notSynchronized
  have hown : s.vm.findClass RL = some m.cls := findClass_of_methodNamed B.named
  obtain ⟨hT, hK, hST, hB0⟩ := id hSW
  have hS : va_S (zA z) s.heap s.heap [] := va_S.rf
  have hl := lv_entry ([.ref (ad 0 0), .int x1, .int x2]) (n := 11) (Nat.le_of_ble_eq_true rfl)
  rw [lg_entry_eq]
  generalize (lg_sl ([.ref (ad 0 0), .int x1, .int x2]) ++ List.replicate (11 - (lg_sl ([.ref (ad 0 0), .int x1, .int x2])).length) Slot.unset).toArray = ls at hl ⊢
  have hl : lv_has ls 11 [(0, .ref (ad 0 0)), (1, .int x1), (2, .int x2)] := hl
  obtain ⟨X, hX0⟩ : ∃ X9 : Gt, X9 = X0 := ⟨_, rfl⟩
  replace hW : GW z ad (GC z ad N X u) s.heap := by rw [hX0]; exact hW
  let WW : Nat → Nat → Heap → List Loc → JFrame → Prop := fun c9 s9 H locs g => W p l e (headSpec [Cond.code yL_isPassed cL_isPassed 11 (some .boolean)] { frames := 6, cells := 9, slots := 50, locals := 135 }).room s m [.ref (ad 0 0), .int x1, .int x2].toArray below meth c H locs c9 s9 (MQ below (QI z ad (GC z ad N X0 u9) r9) [.ref (ad 0 0), .int x1, .int x2].toArray s 9 50 (zA z)) g
  have hL255b : ∀ (ih245 : Int32 → (Nat → Nat → Int32) → (Nat → Int32) → (Nat → Int32) → St → Option (Except String Int32 × St)) (hih245 : ∀ (y8 : Int32) (cm : Nat → Nat → Int32) (co cf : Nat → Int32) (X : Gt) (q : Nat) (r : Nat → Nat) (qo qf : Nat) (u : St) (H : Heap) (locs : List Loc) (ls : Array Slot), RB z X0 X q r qo qf cm co cf → lv_has ls 11 [(8, .int y8), (3, .ref q), (0, .ref (ad 0 0))] → GW z ad (GC z ad N X u) H → va_S (zA z) s.heap H locs → ih245 y8 cm co cf u = some (.ok r9, u9) → WW 9 50 H locs (F0 m 245 ls [])), ∀ (ih255 : Int32 → Int32 → (Nat → Nat → Int32) → (Nat → Int32) → (Nat → Int32) → St → Option (Except String Int32 × St)) (hih255 : ∀ (y9 : Int32) (y8 : Int32) (cm : Nat → Nat → Int32) (co cf : Nat → Int32) (X : Gt) (q : Nat) (r : Nat → Nat) (qo qf : Nat) (u : St) (H : Heap) (locs : List Loc) (ls : Array Slot), RB z X0 X q r qo qf cm co cf → lv_has ls 11 [(9, .int y9), (8, .int y8), (3, .ref q), (0, .ref (ad 0 0))] → GW z ad (GC z ad N X u) H → va_S (zA z) s.heap H locs → ih255 y9 y8 cm co cf u = some (.ok r9, u9) → WW 9 50 H locs (F0 m 255 ls [])), ∀ (y9 : Int32) (y8 : Int32) (cm : Nat → Nat → Int32) (co cf : Nat → Int32) (X : Gt) (q : Nat) (r : Nat → Nat) (qo qf : Nat) (u : St) (H : Heap) (locs : List Loc) (ls : Array Slot), RB z X0 X q r qo qf cm co cf → lv_has ls 11 [(9, .int y9), (8, .int y8), (3, .ref q), (0, .ref (ad 0 0))] → GW z ad (GC z ad N X u) H → va_S (zA z) s.heap H locs → f_L_isPassed_L255b N ih245 ih255 y9 y8 cm co cf u = some (.ok r9, u9) → WW 9 50 H locs (F0 m 255 ls []) := by
    intro ih245 hih245 ih255 hih255 y9 y8 cm co cf X q r qo qf u H locs ls hR hl hW hS h
    change W p l e _ s m _ below meth c H locs 9 50 _ (F0 m 255 ls [])
    unfold f_L_isPassed_L255b at h
    refine lv_iload hx hb dL_isPassed_255 (lv_at hl 0 rfl) ?_
    refine lv_bipush (v := 6) hx hb dL_isPassed_257 (by decide) ?_
    refine lv_icmp_ge (tgt := 320) hx hb dL_isPassed_259 (by decide) (fun c20 => ?_) (fun c20 => ?_)
    · replace h := ite_t h c20
      obtain ⟨v21, ev21, h⟩ := nm_s h
      refine lv_iinc (v := v21) (lv' := [(8, .int v21), (9, .int y9), (3, .ref q), (0, .ref (ad 0 0))]) hx hb dL_isPassed_320 hl (k := 1) rfl (by rw [ev21]; rfl) (by decide) rfl (fun ls hl => ?_)
      refine lv_goto (tgt := 245) hx hb dL_isPassed_323 (by decide) ?_
      exact hih245 _ _ _ _ _ _ _ _ _ _ _ _ _ hR (lv_sub hl [0, 2, 3] rfl) hW hS h
    · replace h := ite_f h c20
      refine lv_aload_n hx hb dL_isPassed_262 rfl (lv_at hl 3 rfl) ?_
      refine lv_iload hx hb dL_isPassed_263 (lv_at hl 1 rfl) ?_
      refine lv_iload hx hb dL_isPassed_265 (lv_at hl 0 rfl) ?_
      obtain ⟨r22, u24, h23, h⟩ := xb_s h
      refine nb_ci (nb_runV (As := [.int y8, .int y9]) (rest := []) hx hb hml hown hSW hS hW (c_X7_memory l z ad N X u y8 y9 h23) mf_X7_memory lk_L_56 kr_0 rfl rfl ⟨rfl, rfl⟩ ⟨Nat.le_of_ble_eq_true rfl, Nat.le_of_ble_eq_true rfl⟩ hl.1 (Nat.le_of_ble_eq_true rfl) dL_isPassed_267 ⟨Nat.le_of_ble_eq_true rfl, Nat.le_of_ble_eq_true rfl⟩) hS (fun H locs (hW : GW z ad (GC z ad N X u24) H) hS => ?_)
      refine lv_istore (lv' := [(10, .int r22), (9, .int y9), (8, .int y8), (3, .ref q), (0, .ref (ad 0 0))]) hx hb dL_isPassed_270 hl (by decide) rfl (fun ls hl => ?_)
      refine lv_iload hx hb dL_isPassed_272 (lv_at hl 0 rfl) ?_
      refine lv_aload_n hx hb dL_isPassed_274 rfl (lv_at hl 3 rfl) ?_
      refine lv_iload hx hb dL_isPassed_275 (lv_at hl 2 rfl) ?_
      obtain ⟨g25, h⟩ := gd_s h
      refine nb_aaldr (b := r (ix y8)) hA hx hb hK hW 1 ((gc_99 _).trans hR.1.2.1) rfl rfl (inb_in g25) (qrow0_at (inb_lt g25)) dL_isPassed_277 ?_
      refine lv_iload hx hb dL_isPassed_278 (lv_at hl 1 rfl) ?_
      obtain ⟨g26, h⟩ := gd_s h
      refine nb_iald_r hA hx hb hK hW 0 ((gc_99 _).trans (hR.1.2.2.1 _ (inb_lt g25))) rfl (inb_in g26) dL_isPassed_280 ?_
      refine lv_icmp_eq (tgt := 314) hx hb dL_isPassed_281 (by decide) (fun c27 => ?_) (fun c27 => ?_)
      · replace h := ite_t h c27
        obtain ⟨v28, ev28, h⟩ := nm_s h
        refine lv_iinc (v := v28) (lv' := [(9, .int v28), (10, .int r22), (8, .int y8), (3, .ref q), (0, .ref (ad 0 0))]) hx hb dL_isPassed_314 hl (k := 1) rfl (by rw [ev28]; rfl) (by decide) rfl (fun ls hl => ?_)
        refine lv_goto (tgt := 255) hx hb dL_isPassed_317 (by decide) ?_
        exact hih255 _ _ _ _ _ _ _ _ _ _ _ _ _ _ hR (lv_sub hl [0, 2, 3, 4] rfl) hW hS h
      · replace h := ite_f h c27
        refine lv_iload hx hb dL_isPassed_284 (lv_at hl 0 rfl) ?_
        refine lv_iconst (v := 0) hx hb dL_isPassed_286 (by decide) ?_
        refine lv_aload_n hx hb dL_isPassed_287 rfl (lv_at hl 3 rfl) ?_
        refine lv_iload hx hb dL_isPassed_288 (lv_at hl 2 rfl) ?_
        refine nb_aaldr (b := r (ix y8)) hA hx hb hK hW 1 ((gc_99 _).trans hR.1.2.1) rfl rfl (inb_in g25) (qrow0_at (inb_lt g25)) dL_isPassed_290 ?_
        refine lv_iload hx hb dL_isPassed_291 (lv_at hl 1 rfl) ?_
        refine nb_iald_r hA hx hb hK hW 0 ((gc_99 _).trans (hR.1.2.2.1 _ (inb_lt g25))) rfl (inb_in g26) dL_isPassed_293 ?_
        refine lv_iconst (v := 1) hx hb dL_isPassed_294 (by decide) ?_
        refine lv_isub hx hb dL_isPassed_295 ?_
        refine lv_aload_n hx hb dL_isPassed_296 rfl (lv_at hl 4 rfl) ?_
        refine lv_iload hx hb dL_isPassed_297 (lv_at hl 1 rfl) ?_
        refine lv_iconst (v := 1) hx hb dL_isPassed_299 (by decide) ?_
        obtain ⟨r29, u31, h30, h⟩ := xb_s h
        refine nb_ci (nb_runV (As := [.int y9, .int 1]) (rest := [.int ((cm (ix y8) (ix y9)) - 1), .int 0, .int r22]) hx hb hml hown hSW hS hW (c_X7_ofPhrase l z ad N X u24 y9 1 h30) mf_X7_ofPhrase lk_L_59 kr_0 rfl rfl ⟨rfl, rfl⟩ ⟨Nat.le_of_ble_eq_true rfl, Nat.le_of_ble_eq_true rfl⟩ hl.1 (Nat.le_of_ble_eq_true rfl) dL_isPassed_300 ⟨Nat.le_of_ble_eq_true rfl, Nat.le_of_ble_eq_true rfl⟩) hS (fun H locs (hW : GW z ad (GC z ad N X u31) H) hS => ?_)
        refine lv_iconst (v := 2) hx hb dL_isPassed_303 (by decide) ?_
        refine lv_idiv hx hb dL_isPassed_304 (by decide) ?_
        refine lv_isub hx hb dL_isPassed_305 ?_
        refine nb_mmax hx hb hml hl.1 hown hT lm_L_128 mf_Math_max ⟨Nat.le_of_ble_eq_true rfl, Nat.le_of_ble_eq_true rfl⟩ ⟨Nat.le_of_ble_eq_true rfl, Nat.le_of_ble_eq_true rfl⟩ dL_isPassed_306 ?_
        refine lv_topi (fun v32 ev32 => ?_)
        replace h := nm_at ev32 h
        refine lv_icmp_eq (tgt := 314) hx hb dL_isPassed_309 (by decide) (fun c33 => ?_) (fun c33 => ?_)
        · replace h := ite_t h c33
          obtain ⟨v34, ev34, h⟩ := nm_s h
          refine lv_iinc (v := v34) (lv' := [(9, .int v34), (10, .int r22), (8, .int y8), (3, .ref q), (0, .ref (ad 0 0))]) hx hb dL_isPassed_314 hl (k := 1) rfl (by rw [ev34]; rfl) (by decide) rfl (fun ls hl => ?_)
          refine lv_goto (tgt := 255) hx hb dL_isPassed_317 (by decide) ?_
          exact hih255 _ _ _ _ _ _ _ _ _ _ _ _ _ _ hR (lv_sub hl [0, 2, 3, 4] rfl) hW hS h
        · replace h := ite_f h c33
          refine lv_iconst (v := 0) hx hb dL_isPassed_312 (by decide) ?_
          replace hW := gw_X hR.1.1 hW
          refine W.widen (k := 9) (n := 50) (Nat.le_of_ble_eq_true rfl) (Nat.le_of_ble_eq_true rfl) ?_
          clear hR
          exact ne_iretX hx hb hr rfl hlocks hW hS dL_isPassed_313 h
  have hL255 : ∀ (ih245 : Int32 → (Nat → Nat → Int32) → (Nat → Int32) → (Nat → Int32) → St → Option (Except String Int32 × St)) (hih245 : ∀ (y8 : Int32) (cm : Nat → Nat → Int32) (co cf : Nat → Int32) (X : Gt) (q : Nat) (r : Nat → Nat) (qo qf : Nat) (u : St) (H : Heap) (locs : List Loc) (ls : Array Slot), RB z X0 X q r qo qf cm co cf → lv_has ls 11 [(8, .int y8), (3, .ref q), (0, .ref (ad 0 0))] → GW z ad (GC z ad N X u) H → va_S (zA z) s.heap H locs → ih245 y8 cm co cf u = some (.ok r9, u9) → WW 9 50 H locs (F0 m 245 ls [])), ∀ (n : Nat), ∀ (y9 : Int32) (y8 : Int32) (cm : Nat → Nat → Int32) (co cf : Nat → Int32) (X : Gt) (q : Nat) (r : Nat → Nat) (qo qf : Nat) (u : St) (H : Heap) (locs : List Loc) (ls : Array Slot), RB z X0 X q r qo qf cm co cf → lv_has ls 11 [(9, .int y9), (8, .int y8), (3, .ref q), (0, .ref (ad 0 0))] → GW z ad (GC z ad N X u) H → va_S (zA z) s.heap H locs → f_L_isPassed_L255 N ih245 n y9 y8 cm co cf u = some (.ok r9, u9) → WW 9 50 H locs (F0 m 255 ls []) := by
    intro ih245 hih245 n
    induction n with
    | zero => intro y9 y8 cm co cf X q r qo qf u H locs ls hR hl hW hS h; exact absurd h (by intro q; cases q)
    | succ n ihn => intro y9 y8 cm co cf X q r qo qf u H locs ls hR hl hW hS h; exact hL255b ih245 hih245 (f_L_isPassed_L255 N ih245 n) ihn y9 y8 cm co cf X q r qo qf u H locs ls hR hl hW hS h
  have hL245b : ∀ (ih245 : Int32 → (Nat → Nat → Int32) → (Nat → Int32) → (Nat → Int32) → St → Option (Except String Int32 × St)) (hih245 : ∀ (y8 : Int32) (cm : Nat → Nat → Int32) (co cf : Nat → Int32) (X : Gt) (q : Nat) (r : Nat → Nat) (qo qf : Nat) (u : St) (H : Heap) (locs : List Loc) (ls : Array Slot), RB z X0 X q r qo qf cm co cf → lv_has ls 11 [(8, .int y8), (3, .ref q), (0, .ref (ad 0 0))] → GW z ad (GC z ad N X u) H → va_S (zA z) s.heap H locs → ih245 y8 cm co cf u = some (.ok r9, u9) → WW 9 50 H locs (F0 m 245 ls [])), ∀ (y8 : Int32) (cm : Nat → Nat → Int32) (co cf : Nat → Int32) (X : Gt) (q : Nat) (r : Nat → Nat) (qo qf : Nat) (u : St) (H : Heap) (locs : List Loc) (ls : Array Slot), RB z X0 X q r qo qf cm co cf → lv_has ls 11 [(8, .int y8), (3, .ref q), (0, .ref (ad 0 0))] → GW z ad (GC z ad N X u) H → va_S (zA z) s.heap H locs → f_L_isPassed_L245b N ih245 y8 cm co cf u = some (.ok r9, u9) → WW 9 50 H locs (F0 m 245 ls []) := by
    intro ih245 hih245 y8 cm co cf X q r qo qf u H locs ls hR hl hW hS h
    change W p l e _ s m _ below meth c H locs 9 50 _ (F0 m 245 ls [])
    unfold f_L_isPassed_L245b at h
    refine lv_iload hx hb dL_isPassed_245 (lv_at hl 0 rfl) ?_
    refine lv_bipush (v := 6) hx hb dL_isPassed_247 (by decide) ?_
    refine lv_icmp_ge (tgt := 326) hx hb dL_isPassed_249 (by decide) (fun c19 => ?_) (fun c19 => ?_)
    · replace h := ite_t h c19
      refine lv_iconst (v := 1) hx hb dL_isPassed_326 (by decide) ?_
      replace hW := gw_X hR.1.1 hW
      refine W.widen (k := 9) (n := 50) (Nat.le_of_ble_eq_true rfl) (Nat.le_of_ble_eq_true rfl) ?_
      clear hR
      exact ne_iretX hx hb hr rfl hlocks hW hS dL_isPassed_327 h
    · replace h := ite_f h c19
      refine lv_iconst (v := 0) hx hb dL_isPassed_252 (by decide) ?_
      refine lv_istore (lv' := [(9, .int 0), (8, .int y8), (3, .ref q), (0, .ref (ad 0 0))]) hx hb dL_isPassed_253 hl (by decide) rfl (fun ls hl => ?_)
      exact hL255 ih245 hih245 1000000 _ _ _ _ _ _ _ _ _ _ _ _ _ _ hR (lv_sub hl [0, 1, 2, 3] rfl) hW hS h
  have hL245 : ∀ (n : Nat), ∀ (y8 : Int32) (cm : Nat → Nat → Int32) (co cf : Nat → Int32) (X : Gt) (q : Nat) (r : Nat → Nat) (qo qf : Nat) (u : St) (H : Heap) (locs : List Loc) (ls : Array Slot), RB z X0 X q r qo qf cm co cf → lv_has ls 11 [(8, .int y8), (3, .ref q), (0, .ref (ad 0 0))] → GW z ad (GC z ad N X u) H → va_S (zA z) s.heap H locs → f_L_isPassed_L245 N n y8 cm co cf u = some (.ok r9, u9) → WW 9 50 H locs (F0 m 245 ls []) := by
    intro n
    induction n with
    | zero => intro y8 cm co cf X q r qo qf u H locs ls hR hl hW hS h; exact absurd h (by intro q; cases q)
    | succ n ihn => intro y8 cm co cf X q r qo qf u H locs ls hR hl hW hS h; exact hL245b (f_L_isPassed_L245 N n) ihn y8 cm co cf X q r qo qf u H locs ls hR hl hW hS h
  have hB230 : ∀ (ih169 : Int32 → Int32 → Int32 → (Nat → Nat → Int32) → (Nat → Int32) → (Nat → Int32) → St → Option (Except String Int32 × St)) (hih169 : ∀ (y8 : Int32) (y1 : Int32) (y2 : Int32) (cm : Nat → Nat → Int32) (co cf : Nat → Int32) (X : Gt) (q : Nat) (r : Nat → Nat) (qo qf : Nat) (u : St) (H : Heap) (locs : List Loc) (ls : Array Slot), RB z X0 X q r qo qf cm co cf → lv_has ls 11 [(8, .int y8), (5, .ref qf), (4, .ref qo), (3, .ref q), (0, .ref (ad 0 0)), (1, .int y1), (2, .int y2)] → GW z ad (GC z ad N X u) H → va_S (zA z) s.heap H locs → ih169 y8 y1 y2 cm co cf u = some (.ok r9, u9) → WW 9 50 H locs (F0 m 169 ls [])), ∀ (y8 : Int32) (y1 : Int32) (y2 : Int32) (w0 : Int32) (w1 : Int32) (w2 : Int32) (cm : Nat → Nat → Int32) (co cf : Nat → Int32) (X : Gt) (q : Nat) (r : Nat → Nat) (qo qf : Nat) (u : St) (H : Heap) (locs : List Loc) (ls : Array Slot), RB z X0 X q r qo qf cm co cf → lv_has ls 11 [(8, .int y8), (5, .ref qf), (4, .ref qo), (3, .ref q), (0, .ref (ad 0 0)), (1, .int y1), (2, .int y2)] → GW z ad (GC z ad N X u) H → va_S (zA z) s.heap H locs → f_L_isPassed_B230 N ih169 y8 y1 y2 w0 w1 w2 cm co cf u = some (.ok r9, u9) → WW 9 50 H locs (F0 m 230 ls [.int w0, .int w1, .int w2]) := by
    intro ih169 hih169 y8 y1 y2 w0 w1 w2 cm co cf X q r qo qf u H locs ls hR hl hW hS h
    change W p l e _ s m _ below meth c H locs 9 50 _ (F0 m 230 ls [.int w0, .int w1, .int w2])
    unfold f_L_isPassed_B230 at h
    refine lv_iadd hx hb dL_isPassed_230 ?_
    refine lv_icmp_eq (tgt := 236) hx hb dL_isPassed_231 (by decide) (fun c47 => ?_) (fun c47 => ?_)
    · replace h := ite_t h c47
      obtain ⟨v48, ev48, h⟩ := nm_s h
      refine lv_iinc (v := v48) (lv' := [(8, .int v48), (5, .ref qf), (4, .ref qo), (3, .ref q), (0, .ref (ad 0 0)), (1, .int y1), (2, .int y2)]) hx hb dL_isPassed_236 hl (k := 0) rfl (by rw [ev48]; rfl) (by decide) rfl (fun ls hl => ?_)
      refine lv_goto (tgt := 169) hx hb dL_isPassed_239 (by decide) ?_
      exact hih169 _ _ _ _ _ _ _ _ _ _ _ _ _ _ _ hR (lv_sub hl [0, 1, 2, 3, 4, 5, 6] rfl) hW hS h
    · replace h := ite_f h c47
      refine lv_iconst (v := 0) hx hb dL_isPassed_234 (by decide) ?_
      replace hW := gw_X hR.1.1 hW
      refine W.widen (k := 9) (n := 50) (Nat.le_of_ble_eq_true rfl) (Nat.le_of_ble_eq_true rfl) ?_
      clear hR
      exact ne_iretX hx hb hr rfl hlocks hW hS dL_isPassed_235 h
  have hB200 : ∀ (ih169 : Int32 → Int32 → Int32 → (Nat → Nat → Int32) → (Nat → Int32) → (Nat → Int32) → St → Option (Except String Int32 × St)) (hih169 : ∀ (y8 : Int32) (y1 : Int32) (y2 : Int32) (cm : Nat → Nat → Int32) (co cf : Nat → Int32) (X : Gt) (q : Nat) (r : Nat → Nat) (qo qf : Nat) (u : St) (H : Heap) (locs : List Loc) (ls : Array Slot), RB z X0 X q r qo qf cm co cf → lv_has ls 11 [(8, .int y8), (5, .ref qf), (4, .ref qo), (3, .ref q), (0, .ref (ad 0 0)), (1, .int y1), (2, .int y2)] → GW z ad (GC z ad N X u) H → va_S (zA z) s.heap H locs → ih169 y8 y1 y2 cm co cf u = some (.ok r9, u9) → WW 9 50 H locs (F0 m 169 ls [])), ∀ (y8 : Int32) (y1 : Int32) (y2 : Int32) (w0 : Int32) (w1 : Int32) (w2 : Int32) (w3 : Int32) (cm : Nat → Nat → Int32) (co cf : Nat → Int32) (X : Gt) (q : Nat) (r : Nat → Nat) (qo qf : Nat) (u : St) (H : Heap) (locs : List Loc) (ls : Array Slot), RB z X0 X q r qo qf cm co cf → lv_has ls 11 [(8, .int y8), (5, .ref qf), (4, .ref qo), (3, .ref q), (0, .ref (ad 0 0)), (1, .int y1), (2, .int y2)] → GW z ad (GC z ad N X u) H → va_S (zA z) s.heap H locs → f_L_isPassed_B200 N ih169 y8 y1 y2 w0 w1 w2 w3 cm co cf u = some (.ok r9, u9) → WW 9 50 H locs (F0 m 200 ls [.int w0, .int w1, .int w2, .int w3]) := by
    intro ih169 hih169 y8 y1 y2 w0 w1 w2 w3 cm co cf X q r qo qf u H locs ls hR hl hW hS h
    change W p l e _ s m _ below meth c H locs 9 50 _ (F0 m 200 ls [.int w0, .int w1, .int w2, .int w3])
    unfold f_L_isPassed_B200 at h
    refine lv_iadd hx hb dL_isPassed_200 ?_
    refine nb_mmin hx hb hml hl.1 hown hT lm_L_123 mf_Math_min ⟨Nat.le_of_ble_eq_true rfl, Nat.le_of_ble_eq_true rfl⟩ ⟨Nat.le_of_ble_eq_true rfl, Nat.le_of_ble_eq_true rfl⟩ dL_isPassed_201 ?_
    refine lv_topi (fun v40 ev40 => ?_)
    replace h := nm_at ev40 h
    refine lv_icmp_ne (tgt := 234) hx hb dL_isPassed_204 (by decide) (fun c41 => ?_) (fun c41 => ?_)
    · replace h := ite_f h c41
      refine lv_iconst (v := 0) hx hb dL_isPassed_234 (by decide) ?_
      replace hW := gw_X hR.1.1 hW
      refine W.widen (k := 9) (n := 50) (Nat.le_of_ble_eq_true rfl) (Nat.le_of_ble_eq_true rfl) ?_
      clear hR
      exact ne_iretX hx hb hr rfl hlocks hW hS dL_isPassed_235 h
    · replace h := ite_t h c41
      refine lv_aload_n hx hb dL_isPassed_207 rfl (lv_at hl 4 rfl) ?_
      refine lv_iload hx hb dL_isPassed_208 (lv_at hl 0 rfl) ?_
      refine lv_iconst (v := 1) hx hb dL_isPassed_210 (by decide) ?_
      obtain ⟨r42, u44, h43, h⟩ := xb_s h
      refine nb_ci (nb_runV (As := [.int y8, .int 1]) (rest := []) hx hb hml hown hSW hS hW (c_X7_ofPan l z ad N X u y8 1 h43) mf_X7_ofPan lk_L_26 kr_0 rfl rfl ⟨rfl, rfl⟩ ⟨Nat.le_of_ble_eq_true rfl, Nat.le_of_ble_eq_true rfl⟩ hl.1 (Nat.le_of_ble_eq_true rfl) dL_isPassed_211 ⟨Nat.le_of_ble_eq_true rfl, Nat.le_of_ble_eq_true rfl⟩) hS (fun H locs (hW : GW z ad (GC z ad N X u44) H) hS => ?_)
      refine lv_aload hx hb dL_isPassed_214 (lv_at hl 1 rfl) ?_
      refine lv_iload hx hb dL_isPassed_216 (lv_at hl 0 rfl) ?_
      obtain ⟨g45, h⟩ := gd_s h
      refine nb_iald_r hA hx hb hK hW 0 ((gc_99 _).trans hR.2.2.1) rfl (inb_in g45) dL_isPassed_218 ?_
      refine lv_iload_n hx hb dL_isPassed_219 rfl (lv_at hl 6 rfl) ?_
      refine lv_iconst (v := 4) hx hb dL_isPassed_220 (by decide) ?_
      refine lv_icmp_le (tgt := 229) hx hb dL_isPassed_221 (by decide) (fun c46 => ?_) (fun c46 => ?_)
      · replace h := ite_t h c46
        refine lv_iconst (v := 0) hx hb dL_isPassed_229 (by decide) ?_
        exact hB230 ih169 hih169 _ _ _ _ _ _ _ _ _ _ _ _ _ _ _ _ _ _ hR (lv_sub hl [0, 1, 2, 3, 4, 5, 6] rfl) hW hS h
      · replace h := ite_f h c46
        refine lv_bipush (v := 10) hx hb dL_isPassed_224 (by decide) ?_
        refine lv_goto (tgt := 230) hx hb dL_isPassed_226 (by decide) ?_
        exact hB230 ih169 hih169 _ _ _ _ _ _ _ _ _ _ _ _ _ _ _ _ _ _ hR (lv_sub hl [0, 1, 2, 3, 4, 5, 6] rfl) hW hS h
  have hL169b : ∀ (ih169 : Int32 → Int32 → Int32 → (Nat → Nat → Int32) → (Nat → Int32) → (Nat → Int32) → St → Option (Except String Int32 × St)) (hih169 : ∀ (y8 : Int32) (y1 : Int32) (y2 : Int32) (cm : Nat → Nat → Int32) (co cf : Nat → Int32) (X : Gt) (q : Nat) (r : Nat → Nat) (qo qf : Nat) (u : St) (H : Heap) (locs : List Loc) (ls : Array Slot), RB z X0 X q r qo qf cm co cf → lv_has ls 11 [(8, .int y8), (5, .ref qf), (4, .ref qo), (3, .ref q), (0, .ref (ad 0 0)), (1, .int y1), (2, .int y2)] → GW z ad (GC z ad N X u) H → va_S (zA z) s.heap H locs → ih169 y8 y1 y2 cm co cf u = some (.ok r9, u9) → WW 9 50 H locs (F0 m 169 ls [])), ∀ (y8 : Int32) (y1 : Int32) (y2 : Int32) (cm : Nat → Nat → Int32) (co cf : Nat → Int32) (X : Gt) (q : Nat) (r : Nat → Nat) (qo qf : Nat) (u : St) (H : Heap) (locs : List Loc) (ls : Array Slot), RB z X0 X q r qo qf cm co cf → lv_has ls 11 [(8, .int y8), (5, .ref qf), (4, .ref qo), (3, .ref q), (0, .ref (ad 0 0)), (1, .int y1), (2, .int y2)] → GW z ad (GC z ad N X u) H → va_S (zA z) s.heap H locs → f_L_isPassed_L169b N ih169 y8 y1 y2 cm co cf u = some (.ok r9, u9) → WW 9 50 H locs (F0 m 169 ls []) := by
    intro ih169 hih169 y8 y1 y2 cm co cf X q r qo qf u H locs ls hR hl hW hS h
    change W p l e _ s m _ below meth c H locs 9 50 _ (F0 m 169 ls [])
    unfold f_L_isPassed_L169b at h
    refine lv_iload hx hb dL_isPassed_169 (lv_at hl 0 rfl) ?_
    refine lv_iconst (v := 4) hx hb dL_isPassed_171 (by decide) ?_
    refine lv_icmp_ge (tgt := 242) hx hb dL_isPassed_172 (by decide) (fun c18 => ?_) (fun c18 => ?_)
    · replace h := ite_t h c18
      refine lv_iconst (v := 0) hx hb dL_isPassed_242 (by decide) ?_
      refine lv_istore (lv' := [(8, .int 0), (5, .ref qf), (4, .ref qo), (3, .ref q), (0, .ref (ad 0 0)), (1, .int y1), (2, .int y2)]) hx hb dL_isPassed_243 hl (by decide) rfl (fun ls hl => ?_)
      exact hL245 1000000 _ _ _ _ _ _ _ _ _ _ _ _ _ hR (lv_sub hl [0, 3, 4] rfl) hW hS h
    · replace h := ite_f h c18
      refine lv_aload_n hx hb dL_isPassed_175 rfl (lv_at hl 4 rfl) ?_
      refine lv_iload hx hb dL_isPassed_176 (lv_at hl 0 rfl) ?_
      refine lv_iconst (v := 2) hx hb dL_isPassed_178 (by decide) ?_
      obtain ⟨r35, u37, h36, h⟩ := xb_s h
      refine nb_ci (nb_runV (As := [.int y8, .int 2]) (rest := []) hx hb hml hown hSW hS hW (c_X7_off l z ad N X u y8 2 h36) mf_X7_off lk_L_117 kr_0 rfl rfl ⟨rfl, rfl⟩ ⟨Nat.le_of_ble_eq_true rfl, Nat.le_of_ble_eq_true rfl⟩ hl.1 (Nat.le_of_ble_eq_true rfl) dL_isPassed_179 ⟨Nat.le_of_ble_eq_true rfl, Nat.le_of_ble_eq_true rfl⟩) hS (fun H locs (hW : GW z ad (GC z ad N X u37) H) hS => ?_)
      refine lv_bipush (v := 99) hx hb dL_isPassed_182 (by decide) ?_
      refine lv_aload hx hb dL_isPassed_184 (lv_at hl 2 rfl) ?_
      refine lv_iload hx hb dL_isPassed_186 (lv_at hl 0 rfl) ?_
      obtain ⟨g38, h⟩ := gd_s h
      refine nb_iald_r hA hx hb hK hW 0 ((gc_99 _).trans hR.2.1) rfl (inb_in g38) dL_isPassed_188 ?_
      refine lv_iload_n hx hb dL_isPassed_189 rfl (lv_at hl 5 rfl) ?_
      refine lv_bipush (v := 6) hx hb dL_isPassed_190 (by decide) ?_
      refine lv_icmp_le (tgt := 199) hx hb dL_isPassed_192 (by decide) (fun c39 => ?_) (fun c39 => ?_)
      · replace h := ite_t h c39
        refine lv_iconst (v := 0) hx hb dL_isPassed_199 (by decide) ?_
        exact hB200 ih169 hih169 _ _ _ _ _ _ _ _ _ _ _ _ _ _ _ _ _ _ _ hR (lv_sub hl [0, 1, 2, 3, 4, 5, 6] rfl) hW hS h
      · replace h := ite_f h c39
        refine lv_iconst (v := 1) hx hb dL_isPassed_195 (by decide) ?_
        refine lv_goto (tgt := 200) hx hb dL_isPassed_196 (by decide) ?_
        exact hB200 ih169 hih169 _ _ _ _ _ _ _ _ _ _ _ _ _ _ _ _ _ _ _ hR (lv_sub hl [0, 1, 2, 3, 4, 5, 6] rfl) hW hS h
  have hL169 : ∀ (n : Nat), ∀ (y8 : Int32) (y1 : Int32) (y2 : Int32) (cm : Nat → Nat → Int32) (co cf : Nat → Int32) (X : Gt) (q : Nat) (r : Nat → Nat) (qo qf : Nat) (u : St) (H : Heap) (locs : List Loc) (ls : Array Slot), RB z X0 X q r qo qf cm co cf → lv_has ls 11 [(8, .int y8), (5, .ref qf), (4, .ref qo), (3, .ref q), (0, .ref (ad 0 0)), (1, .int y1), (2, .int y2)] → GW z ad (GC z ad N X u) H → va_S (zA z) s.heap H locs → f_L_isPassed_L169 N n y8 y1 y2 cm co cf u = some (.ok r9, u9) → WW 9 50 H locs (F0 m 169 ls []) := by
    intro n
    induction n with
    | zero => intro y8 y1 y2 cm co cf X q r qo qf u H locs ls hR hl hW hS h; exact absurd h (by intro q; cases q)
    | succ n ihn => intro y8 y1 y2 cm co cf X q r qo qf u H locs ls hR hl hW hS h; exact hL169b (f_L_isPassed_L169 N n) ihn y8 y1 y2 cm co cf X q r qo qf u H locs ls hR hl hW hS h
  have hL69b : ∀ (ih69 : Int32 → Int32 → Int32 → (Nat → Nat → Int32) → (Nat → Int32) → (Nat → Int32) → St → Option (Except String Int32 × St)) (hih69 : ∀ (y6 : Int32) (y1 : Int32) (y2 : Int32) (cm : Nat → Nat → Int32) (co cf : Nat → Int32) (X : Gt) (q : Nat) (r : Nat → Nat) (qo qf : Nat) (u : St) (H : Heap) (locs : List Loc) (ls : Array Slot), RB z X0 X q r qo qf cm co cf → lv_has ls 11 [(6, .int y6), (5, .ref qf), (4, .ref qo), (3, .ref q), (0, .ref (ad 0 0)), (1, .int y1), (2, .int y2)] → GW z ad (GC z ad N X u) H → va_S (zA z) s.heap H locs → ih69 y6 y1 y2 cm co cf u = some (.ok r9, u9) → WW 9 50 H locs (F0 m 69 ls [])), ∀ (y6 : Int32) (y1 : Int32) (y2 : Int32) (cm : Nat → Nat → Int32) (co cf : Nat → Int32) (X : Gt) (q : Nat) (r : Nat → Nat) (qo qf : Nat) (u : St) (H : Heap) (locs : List Loc) (ls : Array Slot), RB z X0 X q r qo qf cm co cf → lv_has ls 11 [(6, .int y6), (5, .ref qf), (4, .ref qo), (3, .ref q), (0, .ref (ad 0 0)), (1, .int y1), (2, .int y2)] → GW z ad (GC z ad N X u) H → va_S (zA z) s.heap H locs → f_L_isPassed_L69b N ih69 y6 y1 y2 cm co cf u = some (.ok r9, u9) → WW 9 50 H locs (F0 m 69 ls []) := by
    intro ih69 hih69 y6 y1 y2 cm co cf X q r qo qf u H locs ls hR hl hW hS h
    change W p l e _ s m _ below meth c H locs 9 50 _ (F0 m 69 ls [])
    unfold f_L_isPassed_L69b at h
    refine lv_iload hx hb dL_isPassed_69 (lv_at hl 0 rfl) ?_
    refine lv_iconst (v := 4) hx hb dL_isPassed_71 (by decide) ?_
    refine lv_icmp_ge (tgt := 105) hx hb dL_isPassed_72 (by decide) (fun c2 => ?_) (fun c2 => ?_)
    · replace h := ite_t h c2
      refine lv_aload_n hx hb dL_isPassed_105 rfl (lv_at hl 4 rfl) ?_
      refine lv_iconst (v := 1) hx hb dL_isPassed_106 (by decide) ?_
      obtain ⟨r3, u5, h4, h⟩ := xb_s h
      refine nb_ci (nb_runV (As := [.int 1]) (rest := []) hx hb hml hown hSW hS hW (c_X7_wouldTotal l z ad N X u 1 h4) mf_X7_wouldTotal lk_L_101 kr_0 rfl rfl ⟨rfl, rfl⟩ ⟨Nat.le_of_ble_eq_true rfl, Nat.le_of_ble_eq_true rfl⟩ hl.1 (Nat.le_of_ble_eq_true rfl) dL_isPassed_107 ⟨Nat.le_of_ble_eq_true rfl, Nat.le_of_ble_eq_true rfl⟩) hS (fun H locs (hW : GW z ad (GC z ad N X u5) H) hS => ?_)
      refine lv_istore (lv' := [(6, .int r3), (5, .ref qf), (4, .ref qo), (3, .ref q), (0, .ref (ad 0 0)), (1, .int y1), (2, .int y2)]) hx hb dL_isPassed_110 hl (by decide) rfl (fun ls hl => ?_)
      refine lv_aload_n hx hb dL_isPassed_112 rfl (lv_at hl 4 rfl) ?_
      refine lv_iconst (v := 0) hx hb dL_isPassed_113 (by decide) ?_
      obtain ⟨r6, u8, h7, h⟩ := xb_s h
      refine nb_ci (nb_runV (As := [.int 0]) (rest := []) hx hb hml hown hSW hS hW (c_X7_many l z ad N X u5 0 h7) mf_X7_many lk_L_65 kr_0 rfl rfl ⟨rfl, rfl⟩ ⟨Nat.le_of_ble_eq_true rfl, Nat.le_of_ble_eq_true rfl⟩ hl.1 (Nat.le_of_ble_eq_true rfl) dL_isPassed_114 ⟨Nat.le_of_ble_eq_true rfl, Nat.le_of_ble_eq_true rfl⟩) hS (fun H locs (hW : GW z ad (GC z ad N X u8) H) hS => ?_)
      refine lv_istore (lv' := [(7, .int r6), (6, .int r3), (5, .ref qf), (4, .ref qo), (3, .ref q), (0, .ref (ad 0 0)), (1, .int y1), (2, .int y2)]) hx hb dL_isPassed_117 hl (by decide) rfl (fun ls hl => ?_)
      refine lv_aload_n hx hb dL_isPassed_119 rfl (lv_at hl 5 rfl) ?_
      refine lv_iconst (v := 1) hx hb dL_isPassed_120 (by decide) ?_
      refine lv_iload_n hx hb dL_isPassed_121 rfl (lv_at hl 6 rfl) ?_
      refine lv_iload_n hx hb dL_isPassed_122 rfl (lv_at hl 7 rfl) ?_
      obtain ⟨r09, u11, h10, h⟩ := xb_s h
      refine nb_ci (nb_runV (As := [.int 1, .int y1, .int y2]) (rest := []) hx hb hml hown hSW hS hW (c_X7_pass l z ad N X u8 1 y1 y2 h10) mf_X7_pass lk_L_153 kr_0 rfl rfl ⟨rfl, rfl⟩ ⟨Nat.le_of_ble_eq_true rfl, Nat.le_of_ble_eq_true rfl⟩ hl.1 (Nat.le_of_ble_eq_true rfl) dL_isPassed_123 ⟨Nat.le_of_ble_eq_true rfl, Nat.le_of_ble_eq_true rfl⟩) hS (fun H locs (hW : GW z ad (GC z ad N X u11) H) hS => ?_)
      refine lv_iload hx hb dL_isPassed_126 (lv_at hl 0 rfl) ?_
      refine lv_iconst (v := 1) hx hb dL_isPassed_128 (by decide) ?_
      refine lv_iadd hx hb dL_isPassed_129 ?_
      refine lv_icmp_ne (tgt := 164) hx hb dL_isPassed_130 (by decide) (fun c12 => ?_) (fun c12 => ?_)
      · replace h := ite_f h c12
        refine lv_iconst (v := 0) hx hb dL_isPassed_164 (by decide) ?_
        replace hW := gw_X hR.1.1 hW
        refine W.widen (k := 9) (n := 50) (Nat.le_of_ble_eq_true rfl) (Nat.le_of_ble_eq_true rfl) ?_
        clear hR
        exact ne_iretX hx hb hr rfl hlocks hW hS dL_isPassed_165 h
      · replace h := ite_t h c12
        refine lv_aload_n hx hb dL_isPassed_133 rfl (lv_at hl 5 rfl) ?_
        refine lv_bipush (v := 12) hx hb dL_isPassed_134 (by decide) ?_
        obtain ⟨r13, u15, h14, h⟩ := xb_s h
        refine nb_ci (nb_runV (As := [.int 12]) (rest := []) hx hb hml hown hSW hS hW (c_X7_many l z ad N X u11 12 h14) mf_X7_many lk_L_65 kr_0 rfl rfl ⟨rfl, rfl⟩ ⟨Nat.le_of_ble_eq_true rfl, Nat.le_of_ble_eq_true rfl⟩ hl.1 (Nat.le_of_ble_eq_true rfl) dL_isPassed_136 ⟨Nat.le_of_ble_eq_true rfl, Nat.le_of_ble_eq_true rfl⟩) hS (fun H locs (hW : GW z ad (GC z ad N X u15) H) hS => ?_)
        refine lv_if_ne (tgt := 164) hx hb dL_isPassed_139 (by decide) (fun c16 => ?_) (fun c16 => ?_)
        · replace h := ite_f h c16
          refine lv_iconst (v := 0) hx hb dL_isPassed_164 (by decide) ?_
          replace hW := gw_X hR.1.1 hW
          refine W.widen (k := 9) (n := 50) (Nat.le_of_ble_eq_true rfl) (Nat.le_of_ble_eq_true rfl) ?_
          clear hR
          exact ne_iretX hx hb hr rfl hlocks hW hS dL_isPassed_165 h
        · replace h := ite_t h c16
          refine lv_iload_n hx hb dL_isPassed_142 rfl (lv_at hl 6 rfl) ?_
          refine lv_bipush (v := 7) hx hb dL_isPassed_143 (by decide) ?_
          refine lv_icmp_ge (tgt := 166) hx hb dL_isPassed_145 (by decide) (fun c17 => ?_) (fun c17 => ?_)
          · replace h := ite_t h c17
            refine lv_iconst (v := 0) hx hb dL_isPassed_166 (by decide) ?_
            refine lv_istore (lv' := [(8, .int 0), (7, .int r6), (6, .int r3), (5, .ref qf), (4, .ref qo), (3, .ref q), (0, .ref (ad 0 0)), (1, .int y1), (2, .int y2)]) hx hb dL_isPassed_167 hl (by decide) rfl (fun ls hl => ?_)
            exact hL169 1000000 _ _ _ _ _ _ _ _ _ _ _ _ _ _ _ hR (lv_sub hl [0, 3, 4, 5, 6, 7, 8] rfl) hW hS h
          · replace h := ite_f h c17
            refine lv_iload_n hx hb dL_isPassed_148 rfl (lv_at hl 7 rfl) ?_
            refine lv_iconst (v := 5) hx hb dL_isPassed_149 (by decide) ?_
            refine lv_icmp_ge (tgt := 166) hx hb dL_isPassed_150 (by decide) (fun c49 => ?_) (fun c49 => ?_)
            · replace h := ite_t h c49
              refine lv_iconst (v := 0) hx hb dL_isPassed_166 (by decide) ?_
              refine lv_istore (lv' := [(8, .int 0), (7, .int r6), (6, .int r3), (5, .ref qf), (4, .ref qo), (3, .ref q), (0, .ref (ad 0 0)), (1, .int y1), (2, .int y2)]) hx hb dL_isPassed_167 hl (by decide) rfl (fun ls hl => ?_)
              exact hL169 1000000 _ _ _ _ _ _ _ _ _ _ _ _ _ _ _ hR (lv_sub hl [0, 3, 4, 5, 6, 7, 8] rfl) hW hS h
            · replace h := ite_f h c49
              refine lv_aload_n hx hb dL_isPassed_153 rfl (lv_at hl 5 rfl) ?_
              refine lv_bipush (v := 10) hx hb dL_isPassed_154 (by decide) ?_
              obtain ⟨r50, u52, h51, h⟩ := xb_s h
              refine nb_ci (nb_runV (As := [.int 10]) (rest := []) hx hb hml hown hSW hS hW (c_X7_many l z ad N X u15 10 h51) mf_X7_many lk_L_65 kr_0 rfl rfl ⟨rfl, rfl⟩ ⟨Nat.le_of_ble_eq_true rfl, Nat.le_of_ble_eq_true rfl⟩ hl.1 (Nat.le_of_ble_eq_true rfl) dL_isPassed_156 ⟨Nat.le_of_ble_eq_true rfl, Nat.le_of_ble_eq_true rfl⟩) hS (fun H locs (hW : GW z ad (GC z ad N X u52) H) hS => ?_)
              refine lv_iload hx hb dL_isPassed_159 (lv_at hl 1 rfl) ?_
              refine lv_icmp_eq (tgt := 166) hx hb dL_isPassed_161 (by decide) (fun c53 => ?_) (fun c53 => ?_)
              · replace h := ite_t h c53
                refine lv_iconst (v := 0) hx hb dL_isPassed_166 (by decide) ?_
                refine lv_istore (lv' := [(8, .int 0), (7, .int r6), (6, .int r3), (5, .ref qf), (4, .ref qo), (3, .ref q), (0, .ref (ad 0 0)), (1, .int y1), (2, .int y2)]) hx hb dL_isPassed_167 hl (by decide) rfl (fun ls hl => ?_)
                exact hL169 1000000 _ _ _ _ _ _ _ _ _ _ _ _ _ _ _ hR (lv_sub hl [0, 3, 4, 5, 6, 7, 8] rfl) hW hS h
              · replace h := ite_f h c53
                refine lv_iconst (v := 0) hx hb dL_isPassed_164 (by decide) ?_
                replace hW := gw_X hR.1.1 hW
                refine W.widen (k := 9) (n := 50) (Nat.le_of_ble_eq_true rfl) (Nat.le_of_ble_eq_true rfl) ?_
                clear hR
                exact ne_iretX hx hb hr rfl hlocks hW hS dL_isPassed_165 h
    · replace h := ite_f h c2
      refine lv_aload hx hb dL_isPassed_75 (lv_at hl 2 rfl) ?_
      refine lv_iload hx hb dL_isPassed_77 (lv_at hl 0 rfl) ?_
      refine lv_aload_n hx hb dL_isPassed_79 rfl (lv_at hl 4 rfl) ?_
      refine lv_iload hx hb dL_isPassed_80 (lv_at hl 0 rfl) ?_
      refine lv_iconst (v := 2) hx hb dL_isPassed_82 (by decide) ?_
      obtain ⟨r54, u56, h55, h⟩ := xb_s h
      refine nb_ci (nb_runV (As := [.int y6, .int 2]) (rest := [.int y6, .ref qo]) hx hb hml hown hSW hS hW (c_X7_off l z ad N X u y6 2 h55) mf_X7_off lk_L_117 kr_0 rfl rfl ⟨rfl, rfl⟩ ⟨Nat.le_of_ble_eq_true rfl, Nat.le_of_ble_eq_true rfl⟩ hl.1 (Nat.le_of_ble_eq_true rfl) dL_isPassed_83 ⟨Nat.le_of_ble_eq_true rfl, Nat.le_of_ble_eq_true rfl⟩) hS (fun H locs (hW : GW z ad (GC z ad N X u56) H) hS => ?_)
      obtain ⟨g58, h⟩ := gd_s h
      refine nb_iastr hA hx hb hK hW hS 0 ((gc_99 _).trans hR.2.1) rfl (inb_in g58) dL_isPassed_86 (fun H locs G hE9 hc9 hW hS => ?_)
      obtain ⟨hR, hW⟩ := rb_seto hR hE9 hc9 hW
      obtain ⟨X, hX9⟩ : ∃ X9 : Gt, X9 = hiG G := ⟨_, rfl⟩
      rw [← hX9] at hR hW
      clear hX9
      obtain ⟨cn57, ecn57, h⟩ := nm_s h
      have hR : RB z X0 X q r qo qf cm cn57 cf := by rw [ecn57]; exact hR
      clear hE9 hc9
      refine lv_aload hx hb dL_isPassed_87 (lv_at hl 1 rfl) ?_
      refine lv_iload hx hb dL_isPassed_89 (lv_at hl 0 rfl) ?_
      refine lv_aload_n hx hb dL_isPassed_91 rfl (lv_at hl 4 rfl) ?_
      refine lv_iload hx hb dL_isPassed_92 (lv_at hl 0 rfl) ?_
      refine lv_iconst (v := 1) hx hb dL_isPassed_94 (by decide) ?_
      obtain ⟨r59, u61, h60, h⟩ := xb_s h
      refine nb_ci (nb_runV (As := [.int y6, .int 1]) (rest := [.int y6, .ref qf]) hx hb hml hown hSW hS hW (c_X7_ofPan l z ad N X u56 y6 1 h60) mf_X7_ofPan lk_L_26 kr_0 rfl rfl ⟨rfl, rfl⟩ ⟨Nat.le_of_ble_eq_true rfl, Nat.le_of_ble_eq_true rfl⟩ hl.1 (Nat.le_of_ble_eq_true rfl) dL_isPassed_95 ⟨Nat.le_of_ble_eq_true rfl, Nat.le_of_ble_eq_true rfl⟩) hS (fun H locs (hW : GW z ad (GC z ad N X u61) H) hS => ?_)
      refine nb_iastr hA hx hb hK hW hS 0 ((gc_99 _).trans hR.2.2.1) rfl (inb_in g58) dL_isPassed_98 (fun H locs G hE9 hc9 hW hS => ?_)
      obtain ⟨hR, hW⟩ := rb_setf hR hE9 hc9 hW
      obtain ⟨X, hX9⟩ : ∃ X9 : Gt, X9 = hiG G := ⟨_, rfl⟩
      rw [← hX9] at hR hW
      clear hX9
      obtain ⟨cn62, ecn62, h⟩ := nm_s h
      have hR : RB z X0 X q r qo qf cm cn57 cn62 := by rw [ecn62]; exact hR
      clear hE9 hc9
      obtain ⟨v63, ev63, h⟩ := nm_s h
      refine lv_iinc (v := v63) (lv' := [(6, .int v63), (5, .ref qf), (4, .ref qo), (3, .ref q), (0, .ref (ad 0 0)), (1, .int y1), (2, .int y2)]) hx hb dL_isPassed_99 hl (k := 0) rfl (by rw [ev63]; rfl) (by decide) rfl (fun ls hl => ?_)
      refine lv_goto (tgt := 69) hx hb dL_isPassed_102 (by decide) ?_
      exact hih69 _ _ _ _ _ _ _ _ _ _ _ _ _ _ _ hR (lv_sub hl [0, 1, 2, 3, 4, 5, 6] rfl) hW hS h
  have hL69 : ∀ (n : Nat), ∀ (y6 : Int32) (y1 : Int32) (y2 : Int32) (cm : Nat → Nat → Int32) (co cf : Nat → Int32) (X : Gt) (q : Nat) (r : Nat → Nat) (qo qf : Nat) (u : St) (H : Heap) (locs : List Loc) (ls : Array Slot), RB z X0 X q r qo qf cm co cf → lv_has ls 11 [(6, .int y6), (5, .ref qf), (4, .ref qo), (3, .ref q), (0, .ref (ad 0 0)), (1, .int y1), (2, .int y2)] → GW z ad (GC z ad N X u) H → va_S (zA z) s.heap H locs → f_L_isPassed_L69 N n y6 y1 y2 cm co cf u = some (.ok r9, u9) → WW 9 50 H locs (F0 m 69 ls []) := by
    intro n
    induction n with
    | zero => intro y6 y1 y2 cm co cf X q r qo qf u H locs ls hR hl hW hS h; exact absurd h (by intro q; cases q)
    | succ n ihn => intro y6 y1 y2 cm co cf X q r qo qf u H locs ls hR hl hW hS h; exact hL69b (f_L_isPassed_L69 N n) ihn y6 y1 y2 cm co cf X q r qo qf u H locs ls hR hl hW hS h
  have hL22b : ∀ (ih12 : Int32 → Int32 → Int32 → (Nat → Nat → Int32) → St → Option (Except String Int32 × St)) (hih12 : ∀ (y4 : Int32) (y1 : Int32) (y2 : Int32) (cm : Nat → Nat → Int32) (X : Gt) (q : Nat) (r : Nat → Nat) (u : St) (H : Heap) (locs : List Loc) (ls : Array Slot), RA z X0 X q r cm → lv_has ls 11 [(4, .int y4), (3, .ref q), (0, .ref (ad 0 0)), (1, .int y1), (2, .int y2)] → GW z ad (GC z ad N X u) H → va_S (zA z) s.heap H locs → ih12 y4 y1 y2 cm u = some (.ok r9, u9) → WW 7 42 H locs (F0 m 12 ls [])), ∀ (ih22 : Int32 → Int32 → Int32 → Int32 → (Nat → Nat → Int32) → St → Option (Except String Int32 × St)) (hih22 : ∀ (y5 : Int32) (y4 : Int32) (y1 : Int32) (y2 : Int32) (cm : Nat → Nat → Int32) (X : Gt) (q : Nat) (r : Nat → Nat) (u : St) (H : Heap) (locs : List Loc) (ls : Array Slot), RA z X0 X q r cm → lv_has ls 11 [(5, .int y5), (4, .int y4), (3, .ref q), (0, .ref (ad 0 0)), (1, .int y1), (2, .int y2)] → GW z ad (GC z ad N X u) H → va_S (zA z) s.heap H locs → ih22 y5 y4 y1 y2 cm u = some (.ok r9, u9) → WW 7 42 H locs (F0 m 22 ls [])), ∀ (y5 : Int32) (y4 : Int32) (y1 : Int32) (y2 : Int32) (cm : Nat → Nat → Int32) (X : Gt) (q : Nat) (r : Nat → Nat) (u : St) (H : Heap) (locs : List Loc) (ls : Array Slot), RA z X0 X q r cm → lv_has ls 11 [(5, .int y5), (4, .int y4), (3, .ref q), (0, .ref (ad 0 0)), (1, .int y1), (2, .int y2)] → GW z ad (GC z ad N X u) H → va_S (zA z) s.heap H locs → f_L_isPassed_L22b N ih12 ih22 y5 y4 y1 y2 cm u = some (.ok r9, u9) → WW 7 42 H locs (F0 m 22 ls []) := by
    intro ih12 hih12 ih22 hih22 y5 y4 y1 y2 cm X q r u H locs ls hR hl hW hS h
    change W p l e _ s m _ below meth c H locs 7 42 _ (F0 m 22 ls [])
    unfold f_L_isPassed_L22b at h
    refine lv_iload hx hb dL_isPassed_22 (lv_at hl 0 rfl) ?_
    refine lv_bipush (v := 6) hx hb dL_isPassed_24 (by decide) ?_
    refine lv_icmp_ge (tgt := 50) hx hb dL_isPassed_26 (by decide) (fun c64 => ?_) (fun c64 => ?_)
    · replace h := ite_t h c64
      obtain ⟨v65, ev65, h⟩ := nm_s h
      refine lv_iinc (v := v65) (lv' := [(4, .int v65), (5, .int y5), (3, .ref q), (0, .ref (ad 0 0)), (1, .int y1), (2, .int y2)]) hx hb dL_isPassed_50 hl (k := 1) rfl (by rw [ev65]; rfl) (by decide) rfl (fun ls hl => ?_)
      refine lv_goto (tgt := 12) hx hb dL_isPassed_53 (by decide) ?_
      exact hih12 _ _ _ _ _ _ _ _ _ _ _ hR (lv_sub hl [0, 2, 3, 4, 5] rfl) hW hS h
    · replace h := ite_f h c64
      refine lv_aload_n hx hb dL_isPassed_29 rfl (lv_at hl 2 rfl) ?_
      refine lv_iload hx hb dL_isPassed_30 (lv_at hl 1 rfl) ?_
      obtain ⟨g66, h⟩ := gd_s h
      refine nb_aaldr (b := r (ix y4)) hA hx hb hK hW 1 ((gc_99 _).trans hR.2.1) rfl rfl (inb_in g66) (qrow0_at (inb_lt g66)) dL_isPassed_32 ?_
      refine lv_iload hx hb dL_isPassed_33 (lv_at hl 0 rfl) ?_
      refine lv_aload_n hx hb dL_isPassed_35 rfl (lv_at hl 3 rfl) ?_
      refine lv_iload hx hb dL_isPassed_36 (lv_at hl 1 rfl) ?_
      refine lv_iload hx hb dL_isPassed_38 (lv_at hl 0 rfl) ?_
      obtain ⟨r67, u69, h68, h⟩ := xb_s h
      refine nb_ci (nb_runV (As := [.int y4, .int y5]) (rest := [.int y5, .ref (r (ix y4))]) hx hb hml hown hSW hS hW (c_X7_memory l z ad N X u y4 y5 h68) mf_X7_memory lk_L_56 kr_0 rfl rfl ⟨rfl, rfl⟩ ⟨Nat.le_of_ble_eq_true rfl, Nat.le_of_ble_eq_true rfl⟩ hl.1 (Nat.le_of_ble_eq_true rfl) dL_isPassed_40 ⟨Nat.le_of_ble_eq_true rfl, Nat.le_of_ble_eq_true rfl⟩) hS (fun H locs (hW : GW z ad (GC z ad N X u69) H) hS => ?_)
      obtain ⟨g71, h⟩ := gd_s h
      refine nb_iastr hA hx hb hK hW hS 0 ((gc_99 _).trans (hR.2.2.1 _ (inb_lt g66))) rfl (inb_in g71) dL_isPassed_43 (fun H locs G hE9 hc9 hW hS => ?_)
      obtain ⟨hR, hW⟩ := ra_set hR (inb_lt g66) hE9 hc9 hW
      obtain ⟨X, hX9⟩ : ∃ X9 : Gt, X9 = hiG G := ⟨_, rfl⟩
      rw [← hX9] at hR hW
      clear hX9
      obtain ⟨cn70, ecn70, h⟩ := nm_s h
      have hR : RA z X0 X q r cn70 := by rw [ecn70]; exact hR
      clear hE9 hc9
      obtain ⟨v72, ev72, h⟩ := nm_s h
      refine lv_iinc (v := v72) (lv' := [(5, .int v72), (4, .int y4), (3, .ref q), (0, .ref (ad 0 0)), (1, .int y1), (2, .int y2)]) hx hb dL_isPassed_44 hl (k := 0) rfl (by rw [ev72]; rfl) (by decide) rfl (fun ls hl => ?_)
      refine lv_goto (tgt := 22) hx hb dL_isPassed_47 (by decide) ?_
      exact hih22 _ _ _ _ _ _ _ _ _ _ _ _ hR (lv_sub hl [0, 1, 2, 3, 4, 5] rfl) hW hS h
  have hL22 : ∀ (ih12 : Int32 → Int32 → Int32 → (Nat → Nat → Int32) → St → Option (Except String Int32 × St)) (hih12 : ∀ (y4 : Int32) (y1 : Int32) (y2 : Int32) (cm : Nat → Nat → Int32) (X : Gt) (q : Nat) (r : Nat → Nat) (u : St) (H : Heap) (locs : List Loc) (ls : Array Slot), RA z X0 X q r cm → lv_has ls 11 [(4, .int y4), (3, .ref q), (0, .ref (ad 0 0)), (1, .int y1), (2, .int y2)] → GW z ad (GC z ad N X u) H → va_S (zA z) s.heap H locs → ih12 y4 y1 y2 cm u = some (.ok r9, u9) → WW 7 42 H locs (F0 m 12 ls [])), ∀ (n : Nat), ∀ (y5 : Int32) (y4 : Int32) (y1 : Int32) (y2 : Int32) (cm : Nat → Nat → Int32) (X : Gt) (q : Nat) (r : Nat → Nat) (u : St) (H : Heap) (locs : List Loc) (ls : Array Slot), RA z X0 X q r cm → lv_has ls 11 [(5, .int y5), (4, .int y4), (3, .ref q), (0, .ref (ad 0 0)), (1, .int y1), (2, .int y2)] → GW z ad (GC z ad N X u) H → va_S (zA z) s.heap H locs → f_L_isPassed_L22 N ih12 n y5 y4 y1 y2 cm u = some (.ok r9, u9) → WW 7 42 H locs (F0 m 22 ls []) := by
    intro ih12 hih12 n
    induction n with
    | zero => intro y5 y4 y1 y2 cm X q r u H locs ls hR hl hW hS h; exact absurd h (by intro q; cases q)
    | succ n ihn => intro y5 y4 y1 y2 cm X q r u H locs ls hR hl hW hS h; exact hL22b ih12 hih12 (f_L_isPassed_L22 N ih12 n) ihn y5 y4 y1 y2 cm X q r u H locs ls hR hl hW hS h
  have hL12b : ∀ (ih12 : Int32 → Int32 → Int32 → (Nat → Nat → Int32) → St → Option (Except String Int32 × St)) (hih12 : ∀ (y4 : Int32) (y1 : Int32) (y2 : Int32) (cm : Nat → Nat → Int32) (X : Gt) (q : Nat) (r : Nat → Nat) (u : St) (H : Heap) (locs : List Loc) (ls : Array Slot), RA z X0 X q r cm → lv_has ls 11 [(4, .int y4), (3, .ref q), (0, .ref (ad 0 0)), (1, .int y1), (2, .int y2)] → GW z ad (GC z ad N X u) H → va_S (zA z) s.heap H locs → ih12 y4 y1 y2 cm u = some (.ok r9, u9) → WW 7 42 H locs (F0 m 12 ls [])), ∀ (y4 : Int32) (y1 : Int32) (y2 : Int32) (cm : Nat → Nat → Int32) (X : Gt) (q : Nat) (r : Nat → Nat) (u : St) (H : Heap) (locs : List Loc) (ls : Array Slot), RA z X0 X q r cm → lv_has ls 11 [(4, .int y4), (3, .ref q), (0, .ref (ad 0 0)), (1, .int y1), (2, .int y2)] → GW z ad (GC z ad N X u) H → va_S (zA z) s.heap H locs → f_L_isPassed_L12b N ih12 y4 y1 y2 cm u = some (.ok r9, u9) → WW 7 42 H locs (F0 m 12 ls []) := by
    intro ih12 hih12 y4 y1 y2 cm X q r u H locs ls hR hl hW hS h
    change W p l e _ s m _ below meth c H locs 7 42 _ (F0 m 12 ls [])
    unfold f_L_isPassed_L12b at h
    refine lv_iload hx hb dL_isPassed_12 (lv_at hl 0 rfl) ?_
    refine lv_bipush (v := 6) hx hb dL_isPassed_14 (by decide) ?_
    refine lv_icmp_ge (tgt := 56) hx hb dL_isPassed_16 (by decide) (fun c1 => ?_) (fun c1 => ?_)
    · replace h := ite_t h c1
      refine lv_iconst (v := 4) hx hb dL_isPassed_56 (by decide) ?_
      refine nb_newi (n := 4) (N' := 4) hx hb hSW hA hW hS wd_arrI (by decide) rfl (by decide) ⟨Nat.le_of_ble_eq_true rfl, Nat.le_of_ble_eq_true rfl⟩ dL_isPassed_57 (fun qo H Go hno hEo hco hW hS => ?_)
      refine lv_astore (lv' := [(4, .ref qo), (3, .ref q), (0, .ref (ad 0 0)), (1, .int y1), (2, .int y2)]) hx hb dL_isPassed_59 hl (by decide) rfl (fun ls hl => ?_)
      refine lv_iconst (v := 4) hx hb dL_isPassed_61 (by decide) ?_
      refine nb_newi (n := 4) (N' := 4) hx hb hSW hA hW hS wd_arrI (by decide) rfl (by decide) ⟨Nat.le_of_ble_eq_true rfl, Nat.le_of_ble_eq_true rfl⟩ dL_isPassed_62 (fun qf H Gf hnf hEf hcf hW hS => ?_)
      obtain ⟨hR, hW⟩ := rb_new hR hno hEo hco hnf hEf hcf hW
      obtain ⟨X, hX9⟩ : ∃ X9 : Gt, X9 = hiG Gf := ⟨_, rfl⟩
      rw [← hX9] at hR hW
      clear hX9 hno hEo hco hnf hEf hcf
      have hR0 := hR
      obtain ⟨co, eco, h⟩ := nm_s h
      obtain ⟨cf, ecf, h⟩ := nm_s h
      replace hR : RB z X0 X q r qo qf cm co cf := by rw [eco, ecf]; exact hR0
      clear hR0
      refine lv_astore (lv' := [(5, .ref qf), (4, .ref qo), (3, .ref q), (0, .ref (ad 0 0)), (1, .int y1), (2, .int y2)]) hx hb dL_isPassed_64 hl (by decide) rfl (fun ls hl => ?_)
      refine lv_iconst (v := 0) hx hb dL_isPassed_66 (by decide) ?_
      refine lv_istore (lv' := [(6, .int 0), (5, .ref qf), (4, .ref qo), (3, .ref q), (0, .ref (ad 0 0)), (1, .int y1), (2, .int y2)]) hx hb dL_isPassed_67 hl (by decide) rfl (fun ls hl => ?_)
      exact hL69 1000000 _ _ _ _ _ _ _ _ _ _ _ _ _ _ _ hR (lv_sub hl [0, 1, 2, 3, 4, 5, 6] rfl) hW hS h
    · replace h := ite_f h c1
      refine lv_iconst (v := 0) hx hb dL_isPassed_19 (by decide) ?_
      refine lv_istore (lv' := [(5, .int 0), (4, .int y4), (3, .ref q), (0, .ref (ad 0 0)), (1, .int y1), (2, .int y2)]) hx hb dL_isPassed_20 hl (by decide) rfl (fun ls hl => ?_)
      exact hL22 ih12 hih12 1000000 _ _ _ _ _ _ _ _ _ _ _ _ hR (lv_sub hl [0, 1, 2, 3, 4, 5] rfl) hW hS h
  have hL12 : ∀ (n : Nat), ∀ (y4 : Int32) (y1 : Int32) (y2 : Int32) (cm : Nat → Nat → Int32) (X : Gt) (q : Nat) (r : Nat → Nat) (u : St) (H : Heap) (locs : List Loc) (ls : Array Slot), RA z X0 X q r cm → lv_has ls 11 [(4, .int y4), (3, .ref q), (0, .ref (ad 0 0)), (1, .int y1), (2, .int y2)] → GW z ad (GC z ad N X u) H → va_S (zA z) s.heap H locs → f_L_isPassed_L12 N n y4 y1 y2 cm u = some (.ok r9, u9) → WW 7 42 H locs (F0 m 12 ls []) := by
    intro n
    induction n with
    | zero => intro y4 y1 y2 cm X q r u H locs ls hR hl hW hS h; exact absurd h (by intro q; cases q)
    | succ n ihn => intro y4 y1 y2 cm X q r u H locs ls hR hl hW hS h; exact hL12b (f_L_isPassed_L12 N n) ihn y4 y1 y2 cm X q r u H locs ls hR hl hW hS h
  unfold f_L_isPassed at h
  refine lv_bipush (v := 6) hx hb dL_isPassed_0 (by decide) ?_
  refine lv_bipush (v := 6) hx hb dL_isPassed_2 (by decide) ?_
  refine nb_mna (n := 6) (k := 6) (N' := 6) (K' := 6) hA hx hb hSW hown hW hS mna_151 (by decide) (by decide) rfl rfl (by decide) (by decide) (by decide) ⟨Nat.le_of_ble_eq_true rfl, Nat.le_of_ble_eq_true rfl⟩ dL_isPassed_4 (fun q r H G hn9 hE9 hc9 hr9 hW hS => ?_)
  obtain ⟨hR, hW⟩ := ra_new (X0 := X0) hX0 hn9 hE9 hc9 hr9 hW
  obtain ⟨X, hX9⟩ : ∃ X9 : Gt, X9 = hiG G := ⟨_, rfl⟩
  rw [← hX9] at hR hW
  clear hX9
  obtain ⟨cm, ecm, h⟩ := nm_s h
  rw [← ecm] at hR
  clear hn9 hE9 hc9 hr9
  refine lv_astore_n (lv' := [(3, .ref q), (0, .ref (ad 0 0)), (1, .int x1), (2, .int x2)]) hx hb dL_isPassed_8 rfl hl (by decide) rfl (fun ls hl => ?_)
  refine lv_iconst (v := 0) hx hb dL_isPassed_9 (by decide) ?_
  refine lv_istore (lv' := [(4, .int 0), (3, .ref q), (0, .ref (ad 0 0)), (1, .int x1), (2, .int x2)]) hx hb dL_isPassed_10 hl (by decide) rfl (fun ls hl => ?_)
  exact hL12 1000000 _ _ _ _ _ _ _ _ _ _ _ hR (lv_sub hl [0, 1, 2, 3, 4] rfl) hW hS h
