theorem uw_X4 : ((u_ws RX4 TX4 4).all (fun w => tbGood w && decide (w ∈ lw_tbl))) = true := by decide +kernel
theorem uw_X5 : ((u_ws RX5 TX5 6).all (fun w => tbGood w && decide (w ∈ lw_tbl))) = true := by decide +kernel
theorem uw_X2 : ((u_ws RX2 TX2 2).all (fun w => tbGood w && decide (w ∈ lw_tbl))) = true := by decide +kernel
theorem uw_X0 : ((u_ws RX0 TX0 2).all (fun w => tbGood w && decide (w ∈ lw_tbl))) = true := by decide +kernel
theorem fl_X7_133 : FL RX7 133 7 8 RX7 TX7 16 := ⟨rfl, uw_X7, by decide, rfl, Or.inl (List.mem_of_getElem? (i := 229) (by decide +kernel))⟩
theorem fl_X4_13 : FL RX4 13 4 1 RX4 TX4 4 := ⟨rfl, uw_X4, by decide, rfl, Or.inl (List.mem_of_getElem? (i := 731) (by decide +kernel))⟩
theorem fl_X4_16 : FL RX4 16 4 2 RX4 TX4 4 := ⟨rfl, uw_X4, by decide, rfl, Or.inl (List.mem_of_getElem? (i := 734) (by decide +kernel))⟩
theorem fl_X4_19 : FL RX4 19 4 3 RX4 TX4 4 := ⟨rfl, uw_X4, by decide, rfl, Or.inl (List.mem_of_getElem? (i := 736) (by decide +kernel))⟩
theorem lk_X4_22 : LK RX4 22 yJ6_bitCount_0f7a4 := Or.inl (List.mem_of_getElem? (i := 333) (by decide +kernel))
theorem mf_J6_bitCount_0f7a4 : MFs yJ6_bitCount_0f7a4 cJ6_bitCount_0f7a4 1 (some .int) 1 := ⟨List.mem_of_getElem? (i := 324) (by decide +kernel), List.mem_of_getElem? (i := 87) (by decide +kernel), List.mem_of_getElem? (i := 325) (by decide +kernel), by decide +kernel, by decide +kernel, by decide +kernel⟩
theorem lk_X5_38 : LK RX5 38 yX4_noteCount := Or.inl (List.mem_of_getElem? (i := 594) (by decide +kernel))
theorem mf_X4_noteCount : MFv yX4_noteCount cX4_noteCount 1 (some .int) 0 := ⟨List.mem_of_getElem? (i := 330) (by decide +kernel), List.mem_of_getElem? (i := 331) (by decide +kernel), List.mem_of_getElem? (i := 84) (by decide +kernel), List.mem_of_getElem? (i := 332) (by decide +kernel), by decide +kernel, by decide +kernel, by decide +kernel⟩
theorem fl_X5_18 : FL RX5 18 5 2 RX5 TX5 6 := ⟨rfl, uw_X5, by decide, rfl, Or.inl (List.mem_of_getElem? (i := 804) (by decide +kernel))⟩
theorem fl_X2_11 : FL RX2 11 2 0 RX2 TX2 2 := ⟨rfl, uw_X2, by decide, rfl, Or.inl (List.mem_of_getElem? (i := 130) (by decide +kernel))⟩
theorem lm_X2_26 : Cond.methodLink RX2 26 Lib.Math.min.name ∈ lw_tbl := List.mem_of_getElem? (i := 599) (by decide +kernel)
theorem mf_Math_min : MFs Lib.Math.min.name Lib.Math.min.code 2 (some .int) 2 := ⟨List.mem_of_getElem? (i := 380) (by decide +kernel), List.mem_of_getElem? (i := 78) (by decide +kernel), List.mem_of_getElem? (i := 381) (by decide +kernel), by decide +kernel, by decide +kernel, by decide +kernel⟩
theorem lk_X7_141 : LK RX7 141 yX7_requirePhrase := Or.inl (List.mem_of_getElem? (i := 542) (by decide +kernel))
theorem mf_X7_requirePhrase : MFv yX7_requirePhrase cX7_requirePhrase 2 none 1 := ⟨List.mem_of_getElem? (i := 544) (by decide +kernel), List.mem_of_getElem? (i := 17) (by decide +kernel), List.mem_of_getElem? (i := 61) (by decide +kernel), List.mem_of_getElem? (i := 545) (by decide +kernel), by decide +kernel, by decide +kernel, by decide +kernel⟩
theorem lk_X7_130 : LK RX7 130 yX7_requirePhraseWords := Or.inl (List.mem_of_getElem? (i := 718) (by decide +kernel))
theorem mf_X7_requirePhraseWords : MFs yX7_requirePhraseWords cX7_requirePhraseWords 2 none 2 := ⟨List.mem_of_getElem? (i := 719) (by decide +kernel), List.mem_of_getElem? (i := 61) (by decide +kernel), List.mem_of_getElem? (i := 720) (by decide +kernel), by decide +kernel, by decide +kernel, by decide +kernel⟩
theorem fl_X7_17 : FL RX7 17 7 1 RX7 TX7 16 := ⟨rfl, uw_X7, by decide, rfl, Or.inl (List.mem_of_getElem? (i := 222) (by decide +kernel))⟩
theorem lk_X7_144 : LK RX7 144 yX4_tellAnew := Or.inl (List.mem_of_getElem? (i := 754) (by decide +kernel))
theorem mf_X4_tellAnew : MFv yX4_tellAnew cX4_tellAnew 3 none 2 := ⟨List.mem_of_getElem? (i := 755) (by decide +kernel), List.mem_of_getElem? (i := 756) (by decide +kernel), List.mem_of_getElem? (i := 84) (by decide +kernel), List.mem_of_getElem? (i := 757) (by decide +kernel), by decide +kernel, by decide +kernel, by decide +kernel⟩
theorem fl_X7_147 : FL RX7 147 7 9 RX7 TX7 16 := ⟨rfl, uw_X7, by decide, rfl, Or.inl (List.mem_of_getElem? (i := 230) (by decide +kernel))⟩
theorem fl_X7_157 : FL RX7 157 4 3 RX4 TX4 4 := ⟨rfl, uw_X4, by decide, rfl, Or.inr ⟨"Panyard", List.mem_of_getElem? (i := 737) (by decide +kernel)⟩⟩
theorem fl_X7_37 : FL RX7 37 7 4 RX7 TX7 16 := ⟨rfl, uw_X7, by decide, rfl, Or.inl (List.mem_of_getElem? (i := 225) (by decide +kernel))⟩
theorem fl_X7_23 : FL RX7 23 7 2 RX7 TX7 16 := ⟨rfl, uw_X7, by decide, rfl, Or.inl (List.mem_of_getElem? (i := 223) (by decide +kernel))⟩
theorem lk_X7_150 : LK RX7 150 yX5_mostMemory := Or.inl (List.mem_of_getElem? (i := 590) (by decide +kernel))
theorem mf_X5_mostMemory : MFv yX5_mostMemory cX5_mostMemory 2 (some .int) 1 := ⟨List.mem_of_getElem? (i := 591) (by decide +kernel), List.mem_of_getElem? (i := 592) (by decide +kernel), List.mem_of_getElem? (i := 90) (by decide +kernel), List.mem_of_getElem? (i := 593) (by decide +kernel), by decide +kernel, by decide +kernel, by decide +kernel⟩
theorem lk_X7_154 : LK RX7 154 yX2_halve := Or.inl (List.mem_of_getElem? (i := 758) (by decide +kernel))
theorem mf_X2_halve : MFv yX2_halve cX2_halve 4 none 3 := ⟨List.mem_of_getElem? (i := 759) (by decide +kernel), List.mem_of_getElem? (i := 760) (by decide +kernel), List.mem_of_getElem? (i := 63) (by decide +kernel), List.mem_of_getElem? (i := 761) (by decide +kernel), by decide +kernel, by decide +kernel, by decide +kernel⟩
theorem fl_X0_9 : FL RX0 9 0 0 RX0 TX0 2 := ⟨rfl, uw_X0, by decide, rfl, Or.inl (List.mem_of_getElem? (i := 112) (by decide +kernel))⟩
theorem fl_X0_21 : FL RX0 21 0 1 RX0 TX0 2 := ⟨rfl, uw_X0, by decide, rfl, Or.inl (List.mem_of_getElem? (i := 114) (by decide +kernel))⟩
theorem fl_X7_30 : FL RX7 30 7 3 RX7 TX7 16 := ⟨rfl, uw_X7, by decide, rfl, Or.inl (List.mem_of_getElem? (i := 224) (by decide +kernel))⟩
theorem fl_X7_160 : FL RX7 160 0 1 RX0 TX0 2 := ⟨rfl, uw_X0, by decide, rfl, Or.inr ⟨"Panyard", List.mem_of_getElem? (i := 115) (by decide +kernel)⟩⟩
theorem lk_X7_165 : LK RX7 165 yX0_append := Or.inl (List.mem_of_getElem? (i := 770) (by decide +kernel))
theorem mf_X0_append : MFv yX0_append cX0_append 2 none 1 := ⟨List.mem_of_getElem? (i := 771) (by decide +kernel), List.mem_of_getElem? (i := 772) (by decide +kernel), List.mem_of_getElem? (i := 62) (by decide +kernel), List.mem_of_getElem? (i := 773) (by decide +kernel), by decide +kernel, by decide +kernel, by decide +kernel⟩
theorem lk_X7_168 : LK RX7 168 yX7_requirePlace := Or.inl (List.mem_of_getElem? (i := 608) (by decide +kernel))
theorem mf_X7_requirePlace : MFv yX7_requirePlace cX7_requirePlace 2 none 1 := ⟨List.mem_of_getElem? (i := 610) (by decide +kernel), List.mem_of_getElem? (i := 23) (by decide +kernel), List.mem_of_getElem? (i := 61) (by decide +kernel), List.mem_of_getElem? (i := 611) (by decide +kernel), by decide +kernel, by decide +kernel, by decide +kernel⟩
theorem fl_X7_171 : FL RX7 171 0 0 RX0 TX0 2 := ⟨rfl, uw_X0, by decide, rfl, Or.inr ⟨"Panyard", List.mem_of_getElem? (i := 113) (by decide +kernel)⟩⟩
theorem lk_X7_174 : LK RX7 174 yX0_closeUp := Or.inl (List.mem_of_getElem? (i := 781) (by decide +kernel))
theorem mf_X0_closeUp : MFv yX0_closeUp cX0_closeUp 3 none 1 := ⟨List.mem_of_getElem? (i := 782) (by decide +kernel), List.mem_of_getElem? (i := 783) (by decide +kernel), List.mem_of_getElem? (i := 62) (by decide +kernel), List.mem_of_getElem? (i := 784) (by decide +kernel), by decide +kernel, by decide +kernel, by decide +kernel⟩
theorem fl_X5_21 : FL RX5 21 5 3 RX5 TX5 6 := ⟨rfl, uw_X5, by decide, rfl, Or.inl (List.mem_of_getElem? (i := 806) (by decide +kernel))⟩
theorem fl_X5_25 : FL RX5 25 3 0 RX3 TX3 5 := ⟨rfl, uw_X3, by decide, rfl, Or.inr ⟨"Panyard", List.mem_of_getElem? (i := 201) (by decide +kernel)⟩⟩
theorem lk_X7_184 : LK RX7 184 yX7_requirePlayer := Or.inl (List.mem_of_getElem? (i := 555) (by decide +kernel))
theorem mf_X7_requirePlayer : MFv yX7_requirePlayer cX7_requirePlayer 2 none 1 := ⟨List.mem_of_getElem? (i := 557) (by decide +kernel), List.mem_of_getElem? (i := 19) (by decide +kernel), List.mem_of_getElem? (i := 61) (by decide +kernel), List.mem_of_getElem? (i := 558) (by decide +kernel), by decide +kernel, by decide +kernel, by decide +kernel⟩
theorem fl_X7_187 : FL RX7 187 3 2 RX3 TX3 5 := ⟨rfl, uw_X3, by decide, rfl, Or.inr ⟨"Panyard", List.mem_of_getElem? (i := 205) (by decide +kernel)⟩⟩
theorem fl_X7_190 : FL RX7 190 5 0 RX5 TX5 6 := ⟨rfl, uw_X5, by decide, rfl, Or.inr ⟨"Panyard", List.mem_of_getElem? (i := 801) (by decide +kernel)⟩⟩
theorem lk_X7_195 : LK RX7 195 yX5_panNumber := Or.inl (List.mem_of_getElem? (i := 560) (by decide +kernel))
theorem mf_X5_panNumber : MFv yX5_panNumber cX5_panNumber 1 (some .int) 0 := ⟨List.mem_of_getElem? (i := 561) (by decide +kernel), List.mem_of_getElem? (i := 562) (by decide +kernel), List.mem_of_getElem? (i := 90) (by decide +kernel), List.mem_of_getElem? (i := 563) (by decide +kernel), by decide +kernel, by decide +kernel, by decide +kernel⟩
theorem fl_X7_199 : FL RX7 199 5 3 RX5 TX5 6 := ⟨rfl, uw_X5, by decide, rfl, Or.inr ⟨"Panyard", List.mem_of_getElem? (i := 807) (by decide +kernel)⟩⟩
theorem fl_X7_202 : FL RX7 202 5 4 RX5 TX5 6 := ⟨rfl, uw_X5, by decide, rfl, Or.inr ⟨"Panyard", List.mem_of_getElem? (i := 809) (by decide +kernel)⟩⟩
/-- Panyard.requirePhrase -/
def f_X7_requirePhrase (N : Nt) (u : St) (x1 : Int32) : Option (Except String Unit × St) :=
  sb (f_X7_isWithin N u x1 0 ((u 1 0 0) - 1)) fun r1 u3 =>
  if r1 = 0 then
    some (.error "java/lang/IndexOutOfBoundsException", u3)
  else
    some (.ok (), u3)
set_option maxRecDepth 100000 in
set_option maxHeartbeats 4000000 in
theorem c_X7_requirePhrase (l : Launch) (z : Zt) (ad : Ad) (N : Nt) (X : Gt) (u : St) (x1 : Int32) {r9 : Unit} {u9 : St} (h : f_X7_requirePhrase N u x1 = some (.ok r9, u9)) : MC l z yX7_requirePhrase cX7_requirePhrase 2 none { frames := 1, cells := 0, slots := 0, locals := 22 } 0 0 [.ref (ad 0 0), .int x1] ad (GC z ad N X u) (QV z ad (GC z ad N X u9)) := by
  refine Met.ofW (cc := cX7_requirePhrase) (maxL := 2) (ret := none) (by decide) rfl ?_
  intro p e s m args below meth c s₁ B hml hv
  obtain ⟨rfl, hSW, hW⟩ := hv
  have hx := B.exec; have hb := B.bytes; have hr := B.returns; have hlocks := B.notSynchronized
  have hown : s.vm.findClass RX7 = some m.cls := findClass_of_methodNamed B.named
  obtain ⟨hT, hK, hST, hB0⟩ := id hSW
  have hS : va_S (zA z) s.heap s.heap [] := va_S.rf
  have hl := lv_entry ([.ref (ad 0 0), .int x1]) (n := 2) (Nat.le_of_ble_eq_true rfl)
  rw [lg_entry_eq]
  generalize (lg_sl ([.ref (ad 0 0), .int x1]) ++ List.replicate (2 - (lg_sl ([.ref (ad 0 0), .int x1])).length) Slot.unset).toArray = ls at hl ⊢
  have hl : lv_has ls 2 [(0, .ref (ad 0 0)), (1, .int x1)] := hl
  unfold f_X7_requirePhrase at h
  refine lv_iload_n hx hb dX7_requirePhrase_0 rfl (lv_at hl 1 rfl) ?_
  refine lv_iconst (v := 0) hx hb dX7_requirePhrase_1 (by decide) ?_
  refine lv_aload_n hx hb dX7_requirePhrase_2 rfl (lv_at hl 0 rfl) ?_
  refine nb_get hx hb hT hK hown hW fl_X7_133 kr_0 (v := .int (u 1 0 0)) rfl dX7_requirePhrase_3 ?_
  refine lv_iconst (v := 1) hx hb dX7_requirePhrase_6 (by decide) ?_
  refine lv_isub hx hb dX7_requirePhrase_7 ?_
  obtain ⟨r1, u3, h2, h⟩ := sb_s h
  refine nb_ci (nb_runS (As := [.int x1, .int 0, .int ((u 1 0 0) - 1)]) (rest := []) hx hb hml hown hSW hS hW (c_X7_isWithin l z ad N X u x1 0 ((u 1 0 0) - 1) h2) mf_X7_isWithin lk_X7_96 rfl ⟨rfl, rfl⟩ ⟨Nat.le_of_ble_eq_true rfl, Nat.le_of_ble_eq_true rfl⟩ hl.1 (Nat.le_of_ble_eq_true rfl) dX7_requirePhrase_8 ⟨Nat.le_of_ble_eq_true rfl, Nat.le_of_ble_eq_true rfl⟩) hS (fun H locs (hW : GW z ad (GC z ad N X u3) H) hS => ?_)
  refine lv_if_ne (tgt := 25) hx hb dX7_requirePhrase_11 (by decide) (fun c4 => ?_) (fun c4 => ?_)
  · replace h := ite_f h c4
    exact ne_vretX hx hb hr hlocks hW hS dX7_requirePhrase_25 h
  · replace h := ite_t h c4
    exact absurd h (by intro q; cases q)
/-- Panyard.requirePhraseWords -/
def f_X7_requirePhraseWords (N : Nt) (u : St) (x0 : Int32) (x1 : Int32) : Option (Except String Unit × St) :=
  sb (f_X7_isWithin N u x0 1 9) fun r1 u3 =>
  if r1 = 0 then
    some (.error "java/lang/IllegalArgumentException", u3)
  else
    sb (f_X7_isWithin N u3 x1 1 255) fun r5 u7 =>
    if r5 = 0 then
      some (.error "java/lang/IllegalArgumentException", u7)
    else
      some (.ok (), u7)
set_option maxRecDepth 100000 in
set_option maxHeartbeats 4000000 in
theorem c_X7_requirePhraseWords (l : Launch) (z : Zt) (ad : Ad) (N : Nt) (X : Gt) (u : St) (x0 : Int32) (x1 : Int32) {r9 : Unit} {u9 : St} (h : f_X7_requirePhraseWords N u x0 x1 = some (.ok r9, u9)) : MC l z yX7_requirePhraseWords cX7_requirePhraseWords 2 none { frames := 1, cells := 0, slots := 0, locals := 22 } 0 0 [.int x0, .int x1] ad (GC z ad N X u) (QV z ad (GC z ad N X u9)) := by
  refine Met.ofW (cc := cX7_requirePhraseWords) (maxL := 2) (ret := none) (by decide) rfl ?_
  intro p e s m args below meth c s₁ B hml hv
  obtain ⟨rfl, hSW, hW⟩ := hv
  have hx := B.exec; have hb := B.bytes; have hr := B.returns; have hlocks := B.notSynchronized
  have hown : s.vm.findClass RX7 = some m.cls := findClass_of_methodNamed B.named
  obtain ⟨hT, hK, hST, hB0⟩ := id hSW
  have hS : va_S (zA z) s.heap s.heap [] := va_S.rf
  have hl := lv_entry ([.int x0, .int x1]) (n := 2) (Nat.le_of_ble_eq_true rfl)
  rw [lg_entry_eq]
  generalize (lg_sl ([.int x0, .int x1]) ++ List.replicate (2 - (lg_sl ([.int x0, .int x1])).length) Slot.unset).toArray = ls at hl ⊢
  have hl : lv_has ls 2 [(0, .int x0), (1, .int x1)] := hl
  unfold f_X7_requirePhraseWords at h
  refine lv_iload_n hx hb dX7_requirePhraseWords_0 rfl (lv_at hl 0 rfl) ?_
  refine lv_iconst (v := 1) hx hb dX7_requirePhraseWords_1 (by decide) ?_
  refine lv_bipush (v := 9) hx hb dX7_requirePhraseWords_2 (by decide) ?_
  obtain ⟨r1, u3, h2, h⟩ := sb_s h
  refine nb_ci (nb_runS (As := [.int x0, .int 1, .int 9]) (rest := []) hx hb hml hown hSW hS hW (c_X7_isWithin l z ad N X u x0 1 9 h2) mf_X7_isWithin lk_X7_96 rfl ⟨rfl, rfl⟩ ⟨Nat.le_of_ble_eq_true rfl, Nat.le_of_ble_eq_true rfl⟩ hl.1 (Nat.le_of_ble_eq_true rfl) dX7_requirePhraseWords_4 ⟨Nat.le_of_ble_eq_true rfl, Nat.le_of_ble_eq_true rfl⟩) hS (fun H locs (hW : GW z ad (GC z ad N X u3) H) hS => ?_)
  refine lv_if_ne (tgt := 21) hx hb dX7_requirePhraseWords_7 (by decide) (fun c4 => ?_) (fun c4 => ?_)
  · replace h := ite_f h c4
    refine lv_iload_n hx hb dX7_requirePhraseWords_21 rfl (lv_at hl 1 rfl) ?_
    refine lv_iconst (v := 1) hx hb dX7_requirePhraseWords_22 (by decide) ?_
    refine lv_sipush (v := 255) hx hb dX7_requirePhraseWords_23 (by decide) ?_
    obtain ⟨r5, u7, h6, h⟩ := sb_s h
    refine nb_ci (nb_runS (As := [.int x1, .int 1, .int 255]) (rest := []) hx hb hml hown hSW hS hW (c_X7_isWithin l z ad N X u3 x1 1 255 h6) mf_X7_isWithin lk_X7_96 rfl ⟨rfl, rfl⟩ ⟨Nat.le_of_ble_eq_true rfl, Nat.le_of_ble_eq_true rfl⟩ hl.1 (Nat.le_of_ble_eq_true rfl) dX7_requirePhraseWords_26 ⟨Nat.le_of_ble_eq_true rfl, Nat.le_of_ble_eq_true rfl⟩) hS (fun H locs (hW : GW z ad (GC z ad N X u7) H) hS => ?_)
    refine lv_if_ne (tgt := 43) hx hb dX7_requirePhraseWords_29 (by decide) (fun c8 => ?_) (fun c8 => ?_)
    · replace h := ite_f h c8
      exact ne_vretX hx hb hr hlocks hW hS dX7_requirePhraseWords_43 h
    · replace h := ite_t h c8
      exact absurd h (by intro q; cases q)
  · replace h := ite_t h c4
    exact absurd h (by intro q; cases q)
/-- Panyard$Phrase.tellAnew -/
def f_X4_tellAnew (N : Nt) (u : St) (k0 : Nat) (x1 : Int32) (x2 : Int32) : Option (Unit × St) :=
  nm (sset u 21 k0 0 x1) fun u1 =>
  nm (sset u1 22 k0 0 x2) fun u2 =>
  nm (sset u2 23 k0 0 ((u2 23 k0 0) + 1)) fun u3 =>
  some ((), u3)
set_option maxRecDepth 100000 in
set_option maxHeartbeats 4000000 in
theorem c_X4_tellAnew (l : Launch) (z : Zt) (ad : Ad) (N : Nt) (X : Gt) (u : St) (k0 : Nat) (x1 : Int32) (x2 : Int32) (hk0 : k0 < N 14) {r9 : Unit} {u9 : St} (h : f_X4_tellAnew N u k0 x1 x2 = some (r9, u9)) : MC l z yX4_tellAnew cX4_tellAnew 3 none { frames := 0, cells := 0, slots := 0, locals := 0 } 0 0 [.ref (ad 14 k0), .int x1, .int x2] ad (GC z ad N X u) (QV z ad (GC z ad N X u9)) := by
  refine Met.ofW (cc := cX4_tellAnew) (maxL := 3) (ret := none) (by decide) rfl ?_
  intro p e s m args below meth c s₁ B hml hv
  obtain ⟨rfl, hSW, hW⟩ := hv
  have hx := B.exec; have hb := B.bytes; have hr := B.returns; have hlocks := B.notSynchronized
  have hown : s.vm.findClass RX4 = some m.cls := findClass_of_methodNamed B.named
  obtain ⟨hT, hK, hST, hB0⟩ := id hSW
  have hS : va_S (zA z) s.heap s.heap [] := va_S.rf
  have hl := lv_entry ([.ref (ad 14 k0), .int x1, .int x2]) (n := 3) (Nat.le_of_ble_eq_true rfl)
  rw [lg_entry_eq]
  generalize (lg_sl ([.ref (ad 14 k0), .int x1, .int x2]) ++ List.replicate (3 - (lg_sl ([.ref (ad 14 k0), .int x1, .int x2])).length) Slot.unset).toArray = ls at hl ⊢
  have hl : lv_has ls 3 [(0, .ref (ad 14 k0)), (1, .int x1), (2, .int x2)] := hl
  unfold f_X4_tellAnew at h
  refine lv_aload_n hx hb dX4_tellAnew_0 rfl (lv_at hl 0 rfl) ?_
  refine lv_iload_n hx hb dX4_tellAnew_1 rfl (lv_at hl 1 rfl) ?_
  obtain ⟨u1, eu1, h⟩ := nm_s h
  refine nb_put hx hb hT hK hown hW hS fl_X4_13 tyX4 tyX4_ok nmX4 (kr_14 hk0) (v := .int x1) rfl rfl rfl (Nat.le_of_ble_eq_true rfl) ((gp_21 hk0).trans (congrArg (GC z ad N X) eu1.symm)) dX4_tellAnew_2 (fun H locs hW hS => ?_)
  refine lv_aload_n hx hb dX4_tellAnew_5 rfl (lv_at hl 0 rfl) ?_
  refine lv_iload_n hx hb dX4_tellAnew_6 rfl (lv_at hl 2 rfl) ?_
  obtain ⟨u2, eu2, h⟩ := nm_s h
  refine nb_put hx hb hT hK hown hW hS fl_X4_16 tyX4 tyX4_ok nmX4 (kr_14 hk0) (v := .int x2) rfl rfl rfl (Nat.le_of_ble_eq_true rfl) ((gp_22 hk0).trans (congrArg (GC z ad N X) eu2.symm)) dX4_tellAnew_7 (fun H locs hW hS => ?_)
  refine lv_aload_n hx hb dX4_tellAnew_10 rfl (lv_at hl 0 rfl) ?_
  refine lv_dup hx hb dX4_tellAnew_11 rfl ?_
  refine nb_get hx hb hT hK hown hW fl_X4_19 (kr_14 hk0) (v := .int (u2 23 k0 0)) rfl dX4_tellAnew_12 ?_
  refine lv_iconst (v := 1) hx hb dX4_tellAnew_15 (by decide) ?_
  refine lv_iadd hx hb dX4_tellAnew_16 ?_
  obtain ⟨u3, eu3, h⟩ := nm_s h
  refine nb_put hx hb hT hK hown hW hS fl_X4_19 tyX4 tyX4_ok nmX4 (kr_14 hk0) (v := .int ((u2 23 k0 0) + 1)) rfl rfl rfl (Nat.le_of_ble_eq_true rfl) ((gp_23 hk0).trans (congrArg (GC z ad N X) eu3.symm)) dX4_tellAnew_17 (fun H locs hW hS => ?_)
  exact ne_vret hx hb hr hlocks hW hS dX4_tellAnew_20 h
/-- java/lang/Integer.bitCount -/
def f_J6_bitCount_0f7a4 (N : Nt) (u : St) (x0 : Int32) : Option (Int32 × St) :=
  nm (iush x0 1) fun v1 =>
  nm (x0 - (v1 &&& 1431655765)) fun v2 =>
  nm (iush v2 2) fun v3 =>
  nm ((v2 &&& 858993459) + (v3 &&& 858993459)) fun v4 =>
  nm (iush v4 4) fun v5 =>
  nm ((v4 + v5) &&& 252645135) fun v6 =>
  nm (iush v6 8) fun v7 =>
  nm (v6 + v7) fun v8 =>
  nm (iush v8 16) fun v9 =>
  nm (v8 + v9) fun v10 =>
  some ((v10 &&& 63), u)
set_option maxRecDepth 100000 in
set_option maxHeartbeats 4000000 in
theorem c_J6_bitCount_0f7a4 (l : Launch) (z : Zt) (ad : Ad) (N : Nt) (X : Gt) (u : St) (x0 : Int32) {r9 : Int32} {u9 : St} (h : f_J6_bitCount_0f7a4 N u x0 = some (r9, u9)) : MC l z yJ6_bitCount_0f7a4 cJ6_bitCount_0f7a4 1 (some .int) { frames := 0, cells := 0, slots := 0, locals := 0 } 0 0 [.int x0] ad (GC z ad N X u) (QI z ad (GC z ad N X u9) r9) := by
  refine Met.ofW (cc := cJ6_bitCount_0f7a4) (maxL := 1) (ret := (some .int)) (by decide) rfl ?_
  intro p e s m args below meth c s₁ B hml hv
  obtain ⟨rfl, hSW, hW⟩ := hv
  have hx := B.exec; have hb := B.bytes; have hr := B.returns; have hlocks := B.notSynchronized
  have hown : s.vm.findClass RJ6 = some m.cls := findClass_of_methodNamed B.named
  obtain ⟨hT, hK, hST, hB0⟩ := id hSW
  have hS : va_S (zA z) s.heap s.heap [] := va_S.rf
  have hl := lv_entry ([.int x0]) (n := 1) (Nat.le_of_ble_eq_true rfl)
  rw [lg_entry_eq]
  generalize (lg_sl ([.int x0]) ++ List.replicate (1 - (lg_sl ([.int x0])).length) Slot.unset).toArray = ls at hl ⊢
  have hl : lv_has ls 1 [(0, .int x0)] := hl
  unfold f_J6_bitCount_0f7a4 at h
  refine lv_iload_n hx hb dJ6_bitCount_0f7a4_0 rfl (lv_at hl 0 rfl) ?_
  refine lv_iload_n hx hb dJ6_bitCount_0f7a4_1 rfl (lv_at hl 0 rfl) ?_
  refine lv_iconst (v := 1) hx hb dJ6_bitCount_0f7a4_2 (by decide) ?_
  refine lv_iushr hx hb dJ6_bitCount_0f7a4_3 rfl ?_
  refine lv_topi (fun v1 ev1 => ?_)
  replace h := nm_at ev1 h
  refine lv_ldcw (v := 1431655765) hx hb hown (hT.use (List.mem_of_getElem? (i := 326) (by decide +kernel)) rfl) dJ6_bitCount_0f7a4_4 ?_
  refine lv_iand hx hb dJ6_bitCount_0f7a4_7 ?_
  refine lv_isub hx hb dJ6_bitCount_0f7a4_8 ?_
  refine lv_topi (fun v2 ev2 => ?_)
  replace h := nm_at ev2 h
  refine lv_istore_n (lv' := [(0, .int v2)]) hx hb dJ6_bitCount_0f7a4_9 rfl hl (by decide) rfl (fun ls hl => ?_)
  refine lv_iload_n hx hb dJ6_bitCount_0f7a4_10 rfl (lv_at hl 0 rfl) ?_
  refine lv_ldcw (v := 858993459) hx hb hown (hT.use (List.mem_of_getElem? (i := 327) (by decide +kernel)) rfl) dJ6_bitCount_0f7a4_11 ?_
  refine lv_iand hx hb dJ6_bitCount_0f7a4_14 ?_
  refine lv_iload_n hx hb dJ6_bitCount_0f7a4_15 rfl (lv_at hl 0 rfl) ?_
  refine lv_iconst (v := 2) hx hb dJ6_bitCount_0f7a4_16 (by decide) ?_
  refine lv_iushr hx hb dJ6_bitCount_0f7a4_17 rfl ?_
  refine lv_topi (fun v3 ev3 => ?_)
  replace h := nm_at ev3 h
  refine lv_ldcw (v := 858993459) hx hb hown (hT.use (List.mem_of_getElem? (i := 327) (by decide +kernel)) rfl) dJ6_bitCount_0f7a4_18 ?_
  refine lv_iand hx hb dJ6_bitCount_0f7a4_21 ?_
  refine lv_iadd hx hb dJ6_bitCount_0f7a4_22 ?_
  refine lv_topi (fun v4 ev4 => ?_)
  replace h := nm_at ev4 h
  refine lv_istore_n (lv' := [(0, .int v4)]) hx hb dJ6_bitCount_0f7a4_23 rfl hl (by decide) rfl (fun ls hl => ?_)
  refine lv_iload_n hx hb dJ6_bitCount_0f7a4_24 rfl (lv_at hl 0 rfl) ?_
  refine lv_iload_n hx hb dJ6_bitCount_0f7a4_25 rfl (lv_at hl 0 rfl) ?_
  refine lv_iconst (v := 4) hx hb dJ6_bitCount_0f7a4_26 (by decide) ?_
  refine lv_iushr hx hb dJ6_bitCount_0f7a4_27 rfl ?_
  refine lv_topi (fun v5 ev5 => ?_)
  replace h := nm_at ev5 h
  refine lv_iadd hx hb dJ6_bitCount_0f7a4_28 ?_
  refine lv_ldcw (v := 252645135) hx hb hown (hT.use (List.mem_of_getElem? (i := 328) (by decide +kernel)) rfl) dJ6_bitCount_0f7a4_29 ?_
  refine lv_iand hx hb dJ6_bitCount_0f7a4_32 ?_
  refine lv_topi (fun v6 ev6 => ?_)
  replace h := nm_at ev6 h
  refine lv_istore_n (lv' := [(0, .int v6)]) hx hb dJ6_bitCount_0f7a4_33 rfl hl (by decide) rfl (fun ls hl => ?_)
  refine lv_iload_n hx hb dJ6_bitCount_0f7a4_34 rfl (lv_at hl 0 rfl) ?_
  refine lv_iload_n hx hb dJ6_bitCount_0f7a4_35 rfl (lv_at hl 0 rfl) ?_
  refine lv_bipush (v := 8) hx hb dJ6_bitCount_0f7a4_36 (by decide) ?_
  refine lv_iushr hx hb dJ6_bitCount_0f7a4_38 rfl ?_
  refine lv_topi (fun v7 ev7 => ?_)
  replace h := nm_at ev7 h
  refine lv_iadd hx hb dJ6_bitCount_0f7a4_39 ?_
  refine lv_topi (fun v8 ev8 => ?_)
  replace h := nm_at ev8 h
  refine lv_istore_n (lv' := [(0, .int v8)]) hx hb dJ6_bitCount_0f7a4_40 rfl hl (by decide) rfl (fun ls hl => ?_)
  refine lv_iload_n hx hb dJ6_bitCount_0f7a4_41 rfl (lv_at hl 0 rfl) ?_
  refine lv_iload_n hx hb dJ6_bitCount_0f7a4_42 rfl (lv_at hl 0 rfl) ?_
  refine lv_bipush (v := 16) hx hb dJ6_bitCount_0f7a4_43 (by decide) ?_
  refine lv_iushr hx hb dJ6_bitCount_0f7a4_45 rfl ?_
  refine lv_topi (fun v9 ev9 => ?_)
  replace h := nm_at ev9 h
  refine lv_iadd hx hb dJ6_bitCount_0f7a4_46 ?_
  refine lv_topi (fun v10 ev10 => ?_)
  replace h := nm_at ev10 h
  refine lv_istore_n (lv' := [(0, .int v10)]) hx hb dJ6_bitCount_0f7a4_47 rfl hl (by decide) rfl (fun ls hl => ?_)
  refine lv_iload_n hx hb dJ6_bitCount_0f7a4_48 rfl (lv_at hl 0 rfl) ?_
  refine lv_bipush (v := 63) hx hb dJ6_bitCount_0f7a4_49 (by decide) ?_
  refine lv_iand hx hb dJ6_bitCount_0f7a4_51 ?_
  exact ne_iret hx hb hr rfl hlocks hW hS dJ6_bitCount_0f7a4_52 h
/-- Panyard$Phrase.noteCount -/
def f_X4_noteCount (N : Nt) (u : St) (k0 : Nat) : Option (Int32 × St) :=
  sb (f_J6_bitCount_0f7a4 N u (u 22 k0 0)) fun r1 u3 =>
  some (r1, u3)
set_option maxRecDepth 100000 in
set_option maxHeartbeats 4000000 in
theorem c_X4_noteCount (l : Launch) (z : Zt) (ad : Ad) (N : Nt) (X : Gt) (u : St) (k0 : Nat) (hk0 : k0 < N 14) {r9 : Int32} {u9 : St} (h : f_X4_noteCount N u k0 = some (r9, u9)) : MC l z yX4_noteCount cX4_noteCount 1 (some .int) { frames := 1, cells := 0, slots := 0, locals := 20 } 0 0 [.ref (ad 14 k0)] ad (GC z ad N X u) (QI z ad (GC z ad N X u9) r9) := by
  refine Met.ofW (cc := cX4_noteCount) (maxL := 1) (ret := (some .int)) (by decide) rfl ?_
  intro p e s m args below meth c s₁ B hml hv
  obtain ⟨rfl, hSW, hW⟩ := hv
  have hx := B.exec; have hb := B.bytes; have hr := B.returns; have hlocks := B.notSynchronized
  have hown : s.vm.findClass RX4 = some m.cls := findClass_of_methodNamed B.named
  obtain ⟨hT, hK, hST, hB0⟩ := id hSW
  have hS : va_S (zA z) s.heap s.heap [] := va_S.rf
  have hl := lv_entry ([.ref (ad 14 k0)]) (n := 1) (Nat.le_of_ble_eq_true rfl)
  rw [lg_entry_eq]
  generalize (lg_sl ([.ref (ad 14 k0)]) ++ List.replicate (1 - (lg_sl ([.ref (ad 14 k0)])).length) Slot.unset).toArray = ls at hl ⊢
  have hl : lv_has ls 1 [(0, .ref (ad 14 k0))] := hl
  unfold f_X4_noteCount at h
  refine lv_aload_n hx hb dX4_noteCount_0 rfl (lv_at hl 0 rfl) ?_
  refine nb_get hx hb hT hK hown hW fl_X4_16 (kr_14 hk0) (v := .int (u 22 k0 0)) rfl dX4_noteCount_1 ?_
  obtain ⟨r1, u3, h2, h⟩ := sb_s h
  refine nb_ci (nb_runS (As := [.int (u 22 k0 0)]) (rest := []) hx hb hml hown hSW hS hW (c_J6_bitCount_0f7a4 l z ad N X u (u 22 k0 0) h2) mf_J6_bitCount_0f7a4 lk_X4_22 rfl ⟨rfl, rfl⟩ ⟨Nat.le_of_ble_eq_true rfl, Nat.le_of_ble_eq_true rfl⟩ hl.1 (Nat.le_of_ble_eq_true rfl) dX4_noteCount_4 ⟨Nat.le_of_ble_eq_true rfl, Nat.le_of_ble_eq_true rfl⟩) hS (fun H locs (hW : GW z ad (GC z ad N X u3) H) hS => ?_)
  exact ne_iret hx hb hr rfl hlocks hW hS dX4_noteCount_7 h
/-- Panyard$Player.mostMemory -/
def f_X5_mostMemory (N : Nt) (u : St) (k0 : Nat) (k1 : Nat) : Option (Int32 × St) :=
  sb (f_X4_noteCount N u k1) fun r1 u3 =>
  if r1 ≤ (u3 32 k0 0) then
    some (100, u3)
  else
    some (70, u3)
set_option maxRecDepth 100000 in
set_option maxHeartbeats 4000000 in
theorem c_X5_mostMemory (l : Launch) (z : Zt) (ad : Ad) (N : Nt) (X : Gt) (u : St) (k0 : Nat) (k1 : Nat) (hk0 : k0 < N 15) (hk1 : k1 < N 14) {r9 : Int32} {u9 : St} (h : f_X5_mostMemory N u k0 k1 = some (r9, u9)) : MC l z yX5_mostMemory cX5_mostMemory 2 (some .int) { frames := 2, cells := 0, slots := 0, locals := 40 } 0 0 [.ref (ad 15 k0), .ref (ad 14 k1)] ad (GC z ad N X u) (QI z ad (GC z ad N X u9) r9) := by
  refine Met.ofW (cc := cX5_mostMemory) (maxL := 2) (ret := (some .int)) (by decide) rfl ?_
  intro p e s m args below meth c s₁ B hml hv
  obtain ⟨rfl, hSW, hW⟩ := hv
  have hx := B.exec; have hb := B.bytes; have hr := B.returns; have hlocks := B.notSynchronized
  have hown : s.vm.findClass RX5 = some m.cls := findClass_of_methodNamed B.named
  obtain ⟨hT, hK, hST, hB0⟩ := id hSW
  have hS : va_S (zA z) s.heap s.heap [] := va_S.rf
  have hl := lv_entry ([.ref (ad 15 k0), .ref (ad 14 k1)]) (n := 2) (Nat.le_of_ble_eq_true rfl)
  rw [lg_entry_eq]
  generalize (lg_sl ([.ref (ad 15 k0), .ref (ad 14 k1)]) ++ List.replicate (2 - (lg_sl ([.ref (ad 15 k0), .ref (ad 14 k1)])).length) Slot.unset).toArray = ls at hl ⊢
  have hl : lv_has ls 2 [(0, .ref (ad 15 k0)), (1, .ref (ad 14 k1))] := hl
  unfold f_X5_mostMemory at h
  refine lv_aload_n hx hb dX5_mostMemory_0 rfl (lv_at hl 1 rfl) ?_
  obtain ⟨r1, u3, h2, h⟩ := sb_s h
  refine nb_ci (nb_runV (As := []) (rest := []) hx hb hml hown hSW hS hW (c_X4_noteCount l z ad N X u k1 hk1 h2) mf_X4_noteCount lk_X5_38 (kr_14 hk1) rfl rfl ⟨rfl, rfl⟩ ⟨Nat.le_of_ble_eq_true rfl, Nat.le_of_ble_eq_true rfl⟩ hl.1 (Nat.le_of_ble_eq_true rfl) dX5_mostMemory_1 ⟨Nat.le_of_ble_eq_true rfl, Nat.le_of_ble_eq_true rfl⟩) hS (fun H locs (hW : GW z ad (GC z ad N X u3) H) hS => ?_)
  refine lv_aload_n hx hb dX5_mostMemory_4 rfl (lv_at hl 0 rfl) ?_
  refine nb_get hx hb hT hK hown hW fl_X5_18 (kr_15 hk0) (v := .int (u3 32 k0 0)) rfl dX5_mostMemory_5 ?_
  refine lv_icmp_le (tgt := 16) hx hb dX5_mostMemory_8 (by decide) (fun c4 => ?_) (fun c4 => ?_)
  · replace h := ite_t h c4
    refine lv_bipush (v := 100) hx hb dX5_mostMemory_16 (by decide) ?_
    exact ne_iret hx hb hr rfl hlocks hW hS dX5_mostMemory_18 h
  · replace h := ite_f h c4
    refine lv_bipush (v := 70) hx hb dX5_mostMemory_11 (by decide) ?_
    refine lv_goto (tgt := 18) hx hb dX5_mostMemory_13 (by decide) ?_
    exact ne_iret hx hb hr rfl hlocks hW hS dX5_mostMemory_18 h
/-- Panyard$Minds.halve -/
def f_X2_halve (N : Nt) (u : St) (k0 : Nat) (x1 : Int32) (x2 : Int32) (x3 : Int32) : Option (Unit × St) :=
  gd (inb x1 8) <|
  gd (inb x2 8) <|
  nm (mmin x3 ((u 40 (8 * k0 + (ix x1)) (ix x2)) / 2)) fun v3 =>
  nm (sset u 40 (8 * k0 + (ix x1)) (ix x2) v3) fun u4 =>
  some ((), u4)
set_option maxRecDepth 100000 in
set_option maxHeartbeats 4000000 in
theorem c_X2_halve (l : Launch) (z : Zt) (ad : Ad) (N : Nt) (X : Gt) (u : St) (k0 : Nat) (x1 : Int32) (x2 : Int32) (x3 : Int32) (hk0 : k0 < 2) {r9 : Unit} {u9 : St} (h : f_X2_halve N u k0 x1 x2 x3 = some (r9, u9)) : MC l z yX2_halve cX2_halve 4 none { frames := 1, cells := 0, slots := 0, locals := 21 } 0 0 [.ref (ad 10 k0), .int x1, .int x2, .int x3] ad (GC z ad N X u) (QV z ad (GC z ad N X u9)) := by
  refine Met.ofW (cc := cX2_halve) (maxL := 4) (ret := none) (by decide) rfl ?_
  intro p e s m args below meth c s₁ B hml hv
  obtain ⟨rfl, hSW, hW⟩ := hv
  have hx := B.exec; have hb := B.bytes; have hr := B.returns; have hlocks := B.notSynchronized
  have hown : s.vm.findClass RX2 = some m.cls := findClass_of_methodNamed B.named
  obtain ⟨hT, hK, hST, hB0⟩ := id hSW
  have hS : va_S (zA z) s.heap s.heap [] := va_S.rf
  have hl := lv_entry ([.ref (ad 10 k0), .int x1, .int x2, .int x3]) (n := 4) (Nat.le_of_ble_eq_true rfl)
  rw [lg_entry_eq]
  generalize (lg_sl ([.ref (ad 10 k0), .int x1, .int x2, .int x3]) ++ List.replicate (4 - (lg_sl ([.ref (ad 10 k0), .int x1, .int x2, .int x3])).length) Slot.unset).toArray = ls at hl ⊢
  have hl : lv_has ls 4 [(0, .ref (ad 10 k0)), (1, .int x1), (2, .int x2), (3, .int x3)] := hl
  unfold f_X2_halve at h
  refine lv_aload_n hx hb dX2_halve_0 rfl (lv_at hl 0 rfl) ?_
  refine nb_get hx hb hT hK hown hW fl_X2_11 (kr_10 hk0) (v := .ref (ad 11 k0)) rfl dX2_halve_1 ?_
  refine lv_iload_n hx hb dX2_halve_4 rfl (lv_at hl 1 rfl) ?_
  obtain ⟨g1, h⟩ := gd_s h
  refine nb_aald hx hb hK hW 1 (kr_11 hk0) rfl rfl (inb_in g1) (a := ad 20 (8 * k0 + (ix x1))) (qrow_at (inb_lt g1)) dX2_halve_5 ?_
  refine lv_iload_n hx hb dX2_halve_6 rfl (lv_at hl 2 rfl) ?_
  refine lv_iload_n hx hb dX2_halve_7 rfl (lv_at hl 3 rfl) ?_
  refine lv_aload_n hx hb dX2_halve_8 rfl (lv_at hl 0 rfl) ?_
  refine nb_get hx hb hT hK hown hW fl_X2_11 (kr_10 hk0) (v := .ref (ad 11 k0)) rfl dX2_halve_9 ?_
  refine lv_iload_n hx hb dX2_halve_12 rfl (lv_at hl 1 rfl) ?_
  refine nb_aald hx hb hK hW 1 (kr_11 hk0) rfl rfl (inb_in g1) (a := ad 20 (8 * k0 + (ix x1))) (qrow_at (inb_lt g1)) dX2_halve_13 ?_
  refine lv_iload_n hx hb dX2_halve_14 rfl (lv_at hl 2 rfl) ?_
  obtain ⟨g2, h⟩ := gd_s h
  refine nb_iald hx hb hK hW 0 (kr_20 (row_lt hk0 (inb_lt g1))) rfl (inb_in g2) dX2_halve_15 ?_
  refine lv_iconst (v := 2) hx hb dX2_halve_16 (by decide) ?_
  refine lv_idiv hx hb dX2_halve_17 (by decide) ?_
  refine nb_mmin hx hb hml hl.1 hown hT lm_X2_26 mf_Math_min ⟨Nat.le_of_ble_eq_true rfl, Nat.le_of_ble_eq_true rfl⟩ ⟨Nat.le_of_ble_eq_true rfl, Nat.le_of_ble_eq_true rfl⟩ dX2_halve_18 ?_
  refine lv_topi (fun v3 ev3 => ?_)
  replace h := nm_at ev3 h
  obtain ⟨u4, eu4, h⟩ := nm_s h
  refine nb_iast hx hb hK hW hS 0 (kr_20 (row_lt hk0 (inb_lt g1))) rfl (inb_in g2) ((gp_40 (row_lt hk0 (inb_lt g1))).trans (congrArg (GC z ad N X) eu4.symm)) dX2_halve_21 (fun H locs hW hS => ?_)
  exact ne_vret hx hb hr hlocks hW hS dX2_halve_22 h
/-- Panyard.change -/
def f_X7_change_L28b (N : Nt) (ih28 : Int32 → Nat → Int32 → St → Option (Except String Int32 × St)) (y5 : Int32) (q4 : Nat) (y1 : Int32) (u : St) : Option (Except String Int32 × St) :=
  if (u 2 0 0) ≤ y5 then
    some (.ok (u 23 q4 0), u)
  else
    gd (inb y5 8) <|
    gd ((ix y5) < N 15) <|
    sb (f_X5_mostMemory N u (ix y5) q4) fun r15 u17 =>
    sb (f_X2_halve N u17 0 y5 y1 r15) fun r18 u20 =>
    nm (y5 + 1) fun v21 =>
    ih28 v21 q4 y1 u20
def f_X7_change_L28 (N : Nt) : Nat → Int32 → Nat → Int32 → St → Option (Except String Int32 × St) := lp (fun _ _ _ _ => none) (f_X7_change_L28b N)
def f_X7_change (N : Nt) (u : St) (x1 : Int32) (x2 : Int32) (x3 : Int32) : Option (Except String Int32 × St) :=
  xb (f_X7_requirePhrase N u x1) fun r1 u3 =>
  xb (f_X7_requirePhraseWords N u3 x2 x3) fun r4 u6 =>
  gd (inb x1 8) <|
  gd ((ix x1) < N 14) <|
  sb (f_X4_tellAnew N u6 (ix x1) x2 x3) fun r9 u11 =>
  f_X7_change_L28 N 1000000 0 (ix x1) x1 u11
set_option maxRecDepth 100000 in
set_option maxHeartbeats 4000000 in
theorem c_X7_change (l : Launch) (z : Zt) (ad : Ad) (N : Nt) (X : Gt) (u : St) (x1 : Int32) (x2 : Int32) (x3 : Int32) {r9 : Int32} {u9 : St} (h : f_X7_change N u x1 x2 x3 = some (.ok r9, u9)) : MC l z yX7_change cX7_change 6 (some .int) { frames := 3, cells := 0, slots := 0, locals := 61 } 0 0 [.ref (ad 0 0), .int x1, .int x2, .int x3] ad (GC z ad N X u) (QI z ad (GC z ad N X u9) r9) := by
  refine Met.ofW (cc := cX7_change) (maxL := 6) (ret := (some .int)) (by decide) rfl ?_
  intro p e s m args below meth c s₁ B hml hv
  obtain ⟨rfl, hSW, hW⟩ := hv
  have hx := B.exec; have hb := B.bytes; have hr := B.returns; have hlocks := B.notSynchronized
  have hown : s.vm.findClass RX7 = some m.cls := findClass_of_methodNamed B.named
  obtain ⟨hT, hK, hST, hB0⟩ := id hSW
  have hS : va_S (zA z) s.heap s.heap [] := va_S.rf
  have hl := lv_entry ([.ref (ad 0 0), .int x1, .int x2, .int x3]) (n := 6) (Nat.le_of_ble_eq_true rfl)
  rw [lg_entry_eq]
  generalize (lg_sl ([.ref (ad 0 0), .int x1, .int x2, .int x3]) ++ List.replicate (6 - (lg_sl ([.ref (ad 0 0), .int x1, .int x2, .int x3])).length) Slot.unset).toArray = ls at hl ⊢
  have hl : lv_has ls 6 [(0, .ref (ad 0 0)), (1, .int x1), (2, .int x2), (3, .int x3)] := hl
  let WW : Heap → List Loc → JFrame → Prop := fun H locs g => W p l e (headSpec [Cond.code yX7_change cX7_change 6 (some .int)] { frames := 3, cells := 0, slots := 0, locals := 61 }).room s m [.ref (ad 0 0), .int x1, .int x2, .int x3].toArray below meth c H locs 0 0 (MQ below (QI z ad (GC z ad N X u9) r9) [.ref (ad 0 0), .int x1, .int x2, .int x3].toArray s 0 0 (zA z)) g
  have hL28b : ∀ (ih28 : Int32 → Nat → Int32 → St → Option (Except String Int32 × St)) (hih28 : ∀ (y5 : Int32) (q4 : Nat) (y1 : Int32) (u : St) (H : Heap) (locs : List Loc) (ls : Array Slot), q4 < N 14 → lv_has ls 6 [(5, .int y5), (4, .ref (ad 14 q4)), (0, .ref (ad 0 0)), (1, .int y1)] → GW z ad (GC z ad N X u) H → va_S (zA z) s.heap H locs → ih28 y5 q4 y1 u = some (.ok r9, u9) → WW H locs (F0 m 28 ls [])), ∀ (y5 : Int32) (q4 : Nat) (y1 : Int32) (u : St) (H : Heap) (locs : List Loc) (ls : Array Slot), q4 < N 14 → lv_has ls 6 [(5, .int y5), (4, .ref (ad 14 q4)), (0, .ref (ad 0 0)), (1, .int y1)] → GW z ad (GC z ad N X u) H → va_S (zA z) s.heap H locs → f_X7_change_L28b N ih28 y5 q4 y1 u = some (.ok r9, u9) → WW H locs (F0 m 28 ls []) := by
    intro ih28 hih28 y5 q4 y1 u H locs ls hq4 hl hW hS h
    change W p l e _ s m _ below meth c H locs 0 0 _ (F0 m 28 ls [])
    unfold f_X7_change_L28b at h
    refine lv_iload hx hb dX7_change_28 (lv_at hl 0 rfl) ?_
    refine lv_aload_n hx hb dX7_change_30 rfl (lv_at hl 2 rfl) ?_
    refine nb_get hx hb hT hK hown hW fl_X7_147 kr_0 (v := .int (u 2 0 0)) rfl dX7_change_31 ?_
    refine lv_icmp_ge (tgt := 65) hx hb dX7_change_34 (by decide) (fun c12 => ?_) (fun c12 => ?_)
    · replace h := ite_t h c12
      refine lv_aload hx hb dX7_change_65 (lv_at hl 1 rfl) ?_
      refine nb_get hx hb hT hK hown hW fl_X7_157 (kr_14 hq4) (v := .int (u 23 q4 0)) rfl dX7_change_67 ?_
      exact ne_iretX hx hb hr rfl hlocks hW hS dX7_change_70 h
    · replace h := ite_f h c12
      refine lv_aload_n hx hb dX7_change_37 rfl (lv_at hl 2 rfl) ?_
      refine nb_get hx hb hT hK hown hW fl_X7_37 kr_0 (v := .ref (ad 10 0)) rfl dX7_change_38 ?_
      refine lv_iload hx hb dX7_change_41 (lv_at hl 0 rfl) ?_
      refine lv_iload_n hx hb dX7_change_43 rfl (lv_at hl 3 rfl) ?_
      refine lv_aload_n hx hb dX7_change_44 rfl (lv_at hl 2 rfl) ?_
      refine nb_get hx hb hT hK hown hW fl_X7_23 kr_0 (v := .ref (ad 3 0)) rfl dX7_change_45 ?_
      refine lv_iload hx hb dX7_change_48 (lv_at hl 0 rfl) ?_
      obtain ⟨g13, h⟩ := gd_s h
      obtain ⟨g14, h⟩ := gd_s h
      refine nb_aald hx hb hK hW 4 kr_3 rfl rfl (inb_in g13) (a := ad 15 (ix y5)) (qrow_at g14) dX7_change_50 ?_
      refine lv_aload hx hb dX7_change_51 (lv_at hl 1 rfl) ?_
      obtain ⟨r15, u17, h16, h⟩ := sb_s h
      refine nb_ci (nb_runV (As := [.ref (ad 14 q4)]) (rest := [.int y1, .int y5, .ref (ad 10 0)]) hx hb hml hown hSW hS hW (c_X5_mostMemory l z ad N X u (ix y5) q4 g14 hq4 h16) mf_X5_mostMemory lk_X7_150 (kr_15 g14) rfl rfl ⟨rfl, rfl⟩ ⟨Nat.le_of_ble_eq_true rfl, Nat.le_of_ble_eq_true rfl⟩ hl.1 (Nat.le_of_ble_eq_true rfl) dX7_change_53 ⟨Nat.le_of_ble_eq_true rfl, Nat.le_of_ble_eq_true rfl⟩) hS (fun H locs (hW : GW z ad (GC z ad N X u17) H) hS => ?_)
      obtain ⟨r18, u20, h19, h⟩ := sb_s h
      refine nb_cv (nb_runV (As := [.int y5, .int y1, .int r15]) (rest := []) hx hb hml hown hSW hS hW (c_X2_halve l z ad N X u17 0 y5 y1 r15 (by decide) h19) mf_X2_halve lk_X7_154 (kr_10 (by decide)) rfl rfl ⟨rfl, rfl⟩ ⟨Nat.le_of_ble_eq_true rfl, Nat.le_of_ble_eq_true rfl⟩ hl.1 (Nat.le_of_ble_eq_true rfl) dX7_change_56 ⟨Nat.le_of_ble_eq_true rfl, Nat.le_of_ble_eq_true rfl⟩) hS (fun H locs (hW : GW z ad (GC z ad N X u20) H) hS => ?_)
      obtain ⟨v21, ev21, h⟩ := nm_s h
      refine lv_iinc (v := v21) (lv' := [(5, .int v21), (4, .ref (ad 14 q4)), (0, .ref (ad 0 0)), (1, .int y1)]) hx hb dX7_change_59 hl (k := 0) rfl (by rw [ev21]; rfl) (by decide) rfl (fun ls hl => ?_)
      refine lv_goto (tgt := 28) hx hb dX7_change_62 (by decide) ?_
      exact hih28 _ _ _ _ _ _ _ hq4 (lv_sub hl [0, 1, 2, 3] rfl) hW hS h
  have hL28 : ∀ (n : Nat), ∀ (y5 : Int32) (q4 : Nat) (y1 : Int32) (u : St) (H : Heap) (locs : List Loc) (ls : Array Slot), q4 < N 14 → lv_has ls 6 [(5, .int y5), (4, .ref (ad 14 q4)), (0, .ref (ad 0 0)), (1, .int y1)] → GW z ad (GC z ad N X u) H → va_S (zA z) s.heap H locs → f_X7_change_L28 N n y5 q4 y1 u = some (.ok r9, u9) → WW H locs (F0 m 28 ls []) := by
    intro n
    induction n with
    | zero => intro y5 q4 y1 u H locs ls hq4 hl hW hS h; exact absurd h (by intro q; cases q)
    | succ n ihn => intro y5 q4 y1 u H locs ls hq4 hl hW hS h; exact hL28b (f_X7_change_L28 N n) ihn y5 q4 y1 u H locs ls hq4 hl hW hS h
  unfold f_X7_change at h
  refine lv_aload_n hx hb dX7_change_0 rfl (lv_at hl 0 rfl) ?_
  refine lv_iload_n hx hb dX7_change_1 rfl (lv_at hl 1 rfl) ?_
  obtain ⟨r1, u3, h2, h⟩ := xb_s h
  refine nb_cv (nb_runV (As := [.int x1]) (rest := []) hx hb hml hown hSW hS hW (c_X7_requirePhrase l z ad N X u x1 h2) mf_X7_requirePhrase lk_X7_141 kr_0 rfl rfl ⟨rfl, rfl⟩ ⟨Nat.le_of_ble_eq_true rfl, Nat.le_of_ble_eq_true rfl⟩ hl.1 (Nat.le_of_ble_eq_true rfl) dX7_change_2 ⟨Nat.le_of_ble_eq_true rfl, Nat.le_of_ble_eq_true rfl⟩) hS (fun H locs (hW : GW z ad (GC z ad N X u3) H) hS => ?_)
  refine lv_iload_n hx hb dX7_change_5 rfl (lv_at hl 2 rfl) ?_
  refine lv_iload_n hx hb dX7_change_6 rfl (lv_at hl 3 rfl) ?_
  obtain ⟨r4, u6, h5, h⟩ := xb_s h
  refine nb_cv (nb_runS (As := [.int x2, .int x3]) (rest := []) hx hb hml hown hSW hS hW (c_X7_requirePhraseWords l z ad N X u3 x2 x3 h5) mf_X7_requirePhraseWords lk_X7_130 rfl ⟨rfl, rfl⟩ ⟨Nat.le_of_ble_eq_true rfl, Nat.le_of_ble_eq_true rfl⟩ hl.1 (Nat.le_of_ble_eq_true rfl) dX7_change_7 ⟨Nat.le_of_ble_eq_true rfl, Nat.le_of_ble_eq_true rfl⟩) hS (fun H locs (hW : GW z ad (GC z ad N X u6) H) hS => ?_)
  refine lv_aload_n hx hb dX7_change_10 rfl (lv_at hl 0 rfl) ?_
  refine nb_get hx hb hT hK hown hW fl_X7_17 kr_0 (v := .ref (ad 2 0)) rfl dX7_change_11 ?_
  refine lv_iload_n hx hb dX7_change_14 rfl (lv_at hl 1 rfl) ?_
  obtain ⟨g7, h⟩ := gd_s h
  obtain ⟨g8, h⟩ := gd_s h
  refine nb_aald hx hb hK hW 3 kr_2 rfl rfl (inb_in g7) (a := ad 14 (ix x1)) (qrow_at g8) dX7_change_15 ?_
  refine lv_astore (lv' := [(4, .ref (ad 14 (ix x1))), (0, .ref (ad 0 0)), (1, .int x1), (2, .int x2), (3, .int x3)]) hx hb dX7_change_16 hl (by decide) rfl (fun ls hl => ?_)
  refine lv_aload hx hb dX7_change_18 (lv_at hl 0 rfl) ?_
  refine lv_iload_n hx hb dX7_change_20 rfl (lv_at hl 3 rfl) ?_
  refine lv_iload_n hx hb dX7_change_21 rfl (lv_at hl 4 rfl) ?_
  obtain ⟨r9, u11, h10, h⟩ := sb_s h
  refine nb_cv (nb_runV (As := [.int x2, .int x3]) (rest := []) hx hb hml hown hSW hS hW (c_X4_tellAnew l z ad N X u6 (ix x1) x2 x3 g8 h10) mf_X4_tellAnew lk_X7_144 (kr_14 g8) rfl rfl ⟨rfl, rfl⟩ ⟨Nat.le_of_ble_eq_true rfl, Nat.le_of_ble_eq_true rfl⟩ hl.1 (Nat.le_of_ble_eq_true rfl) dX7_change_22 ⟨Nat.le_of_ble_eq_true rfl, Nat.le_of_ble_eq_true rfl⟩) hS (fun H locs (hW : GW z ad (GC z ad N X u11) H) hS => ?_)
  refine lv_iconst (v := 0) hx hb dX7_change_25 (by decide) ?_
  refine lv_istore (lv' := [(5, .int 0), (4, .ref (ad 14 (ix x1))), (0, .ref (ad 0 0)), (1, .int x1), (2, .int x2), (3, .int x3)]) hx hb dX7_change_26 hl (by decide) rfl (fun ls hl => ?_)
  exact hL28 1000000 _ _ _ _ _ _ _ g8 (lv_sub hl [0, 1, 2, 3] rfl) hW hS h
/-- Panyard$Arrangement.append -/
def f_X0_append (N : Nt) (u : St) (k0 : Nat) (x1 : Int32) : Option (Unit × St) :=
  gd (inb (u 43 k0 0) 10) <|
  nm (sset u 42 k0 (ix (u 43 k0 0)) x1) fun u2 =>
  nm (sset u2 43 k0 0 ((u2 43 k0 0) + 1)) fun u3 =>
  some ((), u3)
set_option maxRecDepth 100000 in
set_option maxHeartbeats 4000000 in
theorem c_X0_append (l : Launch) (z : Zt) (ad : Ad) (N : Nt) (X : Gt) (u : St) (k0 : Nat) (x1 : Int32) (hk0 : k0 < 2) {r9 : Unit} {u9 : St} (h : f_X0_append N u k0 x1 = some (r9, u9)) : MC l z yX0_append cX0_append 2 none { frames := 0, cells := 0, slots := 0, locals := 0 } 0 0 [.ref (ad 8 k0), .int x1] ad (GC z ad N X u) (QV z ad (GC z ad N X u9)) := by
  refine Met.ofW (cc := cX0_append) (maxL := 2) (ret := none) (by decide) rfl ?_
  intro p e s m args below meth c s₁ B hml hv
  obtain ⟨rfl, hSW, hW⟩ := hv
  have hx := B.exec; have hb := B.bytes; have hr := B.returns; have hlocks := B.notSynchronized
  have hown : s.vm.findClass RX0 = some m.cls := findClass_of_methodNamed B.named
  obtain ⟨hT, hK, hST, hB0⟩ := id hSW
  have hS : va_S (zA z) s.heap s.heap [] := va_S.rf
  have hl := lv_entry ([.ref (ad 8 k0), .int x1]) (n := 2) (Nat.le_of_ble_eq_true rfl)
  rw [lg_entry_eq]
  generalize (lg_sl ([.ref (ad 8 k0), .int x1]) ++ List.replicate (2 - (lg_sl ([.ref (ad 8 k0), .int x1])).length) Slot.unset).toArray = ls at hl ⊢
  have hl : lv_has ls 2 [(0, .ref (ad 8 k0)), (1, .int x1)] := hl
  unfold f_X0_append at h
  refine lv_aload_n hx hb dX0_append_0 rfl (lv_at hl 0 rfl) ?_
  refine nb_get hx hb hT hK hown hW fl_X0_9 (kr_8 hk0) (v := .ref (ad 9 k0)) rfl dX0_append_1 ?_
  refine lv_aload_n hx hb dX0_append_4 rfl (lv_at hl 0 rfl) ?_
  refine nb_get hx hb hT hK hown hW fl_X0_21 (kr_8 hk0) (v := .int (u 43 k0 0)) rfl dX0_append_5 ?_
  refine lv_iload_n hx hb dX0_append_8 rfl (lv_at hl 1 rfl) ?_
  obtain ⟨g1, h⟩ := gd_s h
  obtain ⟨u2, eu2, h⟩ := nm_s h
  refine nb_iast hx hb hK hW hS 0 (kr_9 hk0) rfl (inb_in g1) ((gp_42 hk0).trans (congrArg (GC z ad N X) eu2.symm)) dX0_append_9 (fun H locs hW hS => ?_)
  refine lv_aload_n hx hb dX0_append_10 rfl (lv_at hl 0 rfl) ?_
  refine lv_dup hx hb dX0_append_11 rfl ?_
  refine nb_get hx hb hT hK hown hW fl_X0_21 (kr_8 hk0) (v := .int (u2 43 k0 0)) rfl dX0_append_12 ?_
  refine lv_iconst (v := 1) hx hb dX0_append_15 (by decide) ?_
  refine lv_iadd hx hb dX0_append_16 ?_
  obtain ⟨u3, eu3, h⟩ := nm_s h
  refine nb_put hx hb hT hK hown hW hS fl_X0_21 tyX0 tyX0_ok nmX0 (kr_8 hk0) (v := .int ((u2 43 k0 0) + 1)) rfl rfl rfl (Nat.le_of_ble_eq_true rfl) ((gp_43 hk0).trans (congrArg (GC z ad N X) eu3.symm)) dX0_append_17 (fun H locs hW hS => ?_)
  exact ne_vret hx hb hr hlocks hW hS dX0_append_20 h
/-- Panyard.put -/
def f_X7_put (N : Nt) (u : St) (x1 : Int32) : Option (Except String Int32 × St) :=
  xb (f_X7_requirePhrase N u x1) fun r1 u3 =>
  if (u3 43 0 0) < 10 then
    nm (u3 43 0 0) fun v5 =>
    sb (f_X0_append N u3 0 x1) fun r6 u8 =>
    some (.ok v5, u8)
  else
    some (.error "java/lang/IllegalStateException", u3)
set_option maxRecDepth 100000 in
set_option maxHeartbeats 4000000 in
theorem c_X7_put (l : Launch) (z : Zt) (ad : Ad) (N : Nt) (X : Gt) (u : St) (x1 : Int32) {r9 : Int32} {u9 : St} (h : f_X7_put N u x1 = some (.ok r9, u9)) : MC l z yX7_put cX7_put 3 (some .int) { frames := 2, cells := 0, slots := 0, locals := 43 } 0 0 [.ref (ad 0 0), .int x1] ad (GC z ad N X u) (QI z ad (GC z ad N X u9) r9) := by
  refine Met.ofW (cc := cX7_put) (maxL := 3) (ret := (some .int)) (by decide) rfl ?_
  intro p e s m args below meth c s₁ B hml hv
  obtain ⟨rfl, hSW, hW⟩ := hv
  have hx := B.exec; have hb := B.bytes; have hr := B.returns; have hlocks := B.notSynchronized
  have hown : s.vm.findClass RX7 = some m.cls := findClass_of_methodNamed B.named
  obtain ⟨hT, hK, hST, hB0⟩ := id hSW
  have hS : va_S (zA z) s.heap s.heap [] := va_S.rf
  have hl := lv_entry ([.ref (ad 0 0), .int x1]) (n := 3) (Nat.le_of_ble_eq_true rfl)
  rw [lg_entry_eq]
  generalize (lg_sl ([.ref (ad 0 0), .int x1]) ++ List.replicate (3 - (lg_sl ([.ref (ad 0 0), .int x1])).length) Slot.unset).toArray = ls at hl ⊢
  have hl : lv_has ls 3 [(0, .ref (ad 0 0)), (1, .int x1)] := hl
  unfold f_X7_put at h
  refine lv_aload_n hx hb dX7_put_0 rfl (lv_at hl 0 rfl) ?_
  refine lv_iload_n hx hb dX7_put_1 rfl (lv_at hl 1 rfl) ?_
  obtain ⟨r1, u3, h2, h⟩ := xb_s h
  refine nb_cv (nb_runV (As := [.int x1]) (rest := []) hx hb hml hown hSW hS hW (c_X7_requirePhrase l z ad N X u x1 h2) mf_X7_requirePhrase lk_X7_141 kr_0 rfl rfl ⟨rfl, rfl⟩ ⟨Nat.le_of_ble_eq_true rfl, Nat.le_of_ble_eq_true rfl⟩ hl.1 (Nat.le_of_ble_eq_true rfl) dX7_put_2 ⟨Nat.le_of_ble_eq_true rfl, Nat.le_of_ble_eq_true rfl⟩) hS (fun H locs (hW : GW z ad (GC z ad N X u3) H) hS => ?_)
  refine lv_aload_n hx hb dX7_put_5 rfl (lv_at hl 0 rfl) ?_
  refine nb_get hx hb hT hK hown hW fl_X7_30 kr_0 (v := .ref (ad 8 0)) rfl dX7_put_6 ?_
  refine nb_get hx hb hT hK hown hW fl_X7_160 (kr_8 (by decide)) (v := .int (u3 43 0 0)) rfl dX7_put_9 ?_
  refine lv_bipush (v := 10) hx hb dX7_put_12 (by decide) ?_
  refine lv_icmp_lt (tgt := 27) hx hb dX7_put_14 (by decide) (fun c4 => ?_) (fun c4 => ?_)
  · replace h := ite_t h c4
    refine lv_aload_n hx hb dX7_put_27 rfl (lv_at hl 0 rfl) ?_
    refine nb_get hx hb hT hK hown hW fl_X7_30 kr_0 (v := .ref (ad 8 0)) rfl dX7_put_28 ?_
    refine nb_get hx hb hT hK hown hW fl_X7_160 (kr_8 (by decide)) (v := .int (u3 43 0 0)) rfl dX7_put_31 ?_
    refine lv_topi (fun v5 ev5 => ?_)
    replace h := nm_at ev5 h
    refine lv_istore_n (lv' := [(2, .int v5), (0, .ref (ad 0 0)), (1, .int x1)]) hx hb dX7_put_34 rfl hl (by decide) rfl (fun ls hl => ?_)
    refine lv_aload_n hx hb dX7_put_35 rfl (lv_at hl 1 rfl) ?_
    refine nb_get hx hb hT hK hown hW fl_X7_30 kr_0 (v := .ref (ad 8 0)) rfl dX7_put_36 ?_
    refine lv_iload_n hx hb dX7_put_39 rfl (lv_at hl 2 rfl) ?_
    obtain ⟨r6, u8, h7, h⟩ := sb_s h
    refine nb_cv (nb_runV (As := [.int x1]) (rest := []) hx hb hml hown hSW hS hW (c_X0_append l z ad N X u3 0 x1 (by decide) h7) mf_X0_append lk_X7_165 (kr_8 (by decide)) rfl rfl ⟨rfl, rfl⟩ ⟨Nat.le_of_ble_eq_true rfl, Nat.le_of_ble_eq_true rfl⟩ hl.1 (Nat.le_of_ble_eq_true rfl) dX7_put_40 ⟨Nat.le_of_ble_eq_true rfl, Nat.le_of_ble_eq_true rfl⟩) hS (fun H locs (hW : GW z ad (GC z ad N X u8) H) hS => ?_)
    refine lv_iload_n hx hb dX7_put_43 rfl (lv_at hl 0 rfl) ?_
    exact ne_iretX hx hb hr rfl hlocks hW hS dX7_put_44 h
  · replace h := ite_f h c4
    exact absurd h (by intro q; cases q)
/-- Panyard.requirePlace -/
def f_X7_requirePlace (N : Nt) (u : St) (x1 : Int32) : Option (Except String Unit × St) :=
  sb (f_X7_isWithin N u x1 0 ((u 43 0 0) - 1)) fun r1 u3 =>
  if r1 = 0 then
    some (.error "java/lang/IndexOutOfBoundsException", u3)
  else
    some (.ok (), u3)
set_option maxRecDepth 100000 in
set_option maxHeartbeats 4000000 in
theorem c_X7_requirePlace (l : Launch) (z : Zt) (ad : Ad) (N : Nt) (X : Gt) (u : St) (x1 : Int32) {r9 : Unit} {u9 : St} (h : f_X7_requirePlace N u x1 = some (.ok r9, u9)) : MC l z yX7_requirePlace cX7_requirePlace 2 none { frames := 1, cells := 0, slots := 0, locals := 22 } 0 0 [.ref (ad 0 0), .int x1] ad (GC z ad N X u) (QV z ad (GC z ad N X u9)) := by
  refine Met.ofW (cc := cX7_requirePlace) (maxL := 2) (ret := none) (by decide) rfl ?_
  intro p e s m args below meth c s₁ B hml hv
  obtain ⟨rfl, hSW, hW⟩ := hv
  have hx := B.exec; have hb := B.bytes; have hr := B.returns; have hlocks := B.notSynchronized
  have hown : s.vm.findClass RX7 = some m.cls := findClass_of_methodNamed B.named
  obtain ⟨hT, hK, hST, hB0⟩ := id hSW
  have hS : va_S (zA z) s.heap s.heap [] := va_S.rf
  have hl := lv_entry ([.ref (ad 0 0), .int x1]) (n := 2) (Nat.le_of_ble_eq_true rfl)
  rw [lg_entry_eq]
  generalize (lg_sl ([.ref (ad 0 0), .int x1]) ++ List.replicate (2 - (lg_sl ([.ref (ad 0 0), .int x1])).length) Slot.unset).toArray = ls at hl ⊢
  have hl : lv_has ls 2 [(0, .ref (ad 0 0)), (1, .int x1)] := hl
  unfold f_X7_requirePlace at h
  refine lv_iload_n hx hb dX7_requirePlace_0 rfl (lv_at hl 1 rfl) ?_
  refine lv_iconst (v := 0) hx hb dX7_requirePlace_1 (by decide) ?_
  refine lv_aload_n hx hb dX7_requirePlace_2 rfl (lv_at hl 0 rfl) ?_
  refine nb_get hx hb hT hK hown hW fl_X7_30 kr_0 (v := .ref (ad 8 0)) rfl dX7_requirePlace_3 ?_
  refine nb_get hx hb hT hK hown hW fl_X7_160 (kr_8 (by decide)) (v := .int (u 43 0 0)) rfl dX7_requirePlace_6 ?_
  refine lv_iconst (v := 1) hx hb dX7_requirePlace_9 (by decide) ?_
  refine lv_isub hx hb dX7_requirePlace_10 ?_
  obtain ⟨r1, u3, h2, h⟩ := sb_s h
  refine nb_ci (nb_runS (As := [.int x1, .int 0, .int ((u 43 0 0) - 1)]) (rest := []) hx hb hml hown hSW hS hW (c_X7_isWithin l z ad N X u x1 0 ((u 43 0 0) - 1) h2) mf_X7_isWithin lk_X7_96 rfl ⟨rfl, rfl⟩ ⟨Nat.le_of_ble_eq_true rfl, Nat.le_of_ble_eq_true rfl⟩ hl.1 (Nat.le_of_ble_eq_true rfl) dX7_requirePlace_11 ⟨Nat.le_of_ble_eq_true rfl, Nat.le_of_ble_eq_true rfl⟩) hS (fun H locs (hW : GW z ad (GC z ad N X u3) H) hS => ?_)
  refine lv_if_ne (tgt := 28) hx hb dX7_requirePlace_14 (by decide) (fun c4 => ?_) (fun c4 => ?_)
  · replace h := ite_f h c4
    exact ne_vretX hx hb hr hlocks hW hS dX7_requirePlace_28 h
  · replace h := ite_t h c4
    exact absurd h (by intro q; cases q)
/-- Panyard$Arrangement.closeUp -/
def f_X0_closeUp_L2b (N : Nt) (k0 : Nat) (ih2 : Int32 → St → Option (Unit × St)) (y2 : Int32) (u : St) : Option (Unit × St) :=
  if ((u 43 k0 0) - 1) ≤ y2 then
    nm (sset u 43 k0 0 ((u 43 k0 0) - 1)) fun u2 =>
    some ((), u2)
  else
    gd (inb (y2 + 1) 10) <|
    gd (inb y2 10) <|
    nm (sset u 42 k0 (ix y2) (u 42 k0 (ix (y2 + 1)))) fun u5 =>
    nm (y2 + 1) fun v6 =>
    ih2 v6 u5
def f_X0_closeUp_L2 (N : Nt) (k0 : Nat) : Nat → Int32 → St → Option (Unit × St) := lp (fun _ _ => none) (f_X0_closeUp_L2b N k0)
def f_X0_closeUp (N : Nt) (u : St) (k0 : Nat) (x1 : Int32) : Option (Unit × St) :=
  f_X0_closeUp_L2 N k0 1000000 x1 u
set_option maxRecDepth 100000 in
set_option maxHeartbeats 4000000 in
theorem c_X0_closeUp (l : Launch) (z : Zt) (ad : Ad) (N : Nt) (X : Gt) (u : St) (k0 : Nat) (x1 : Int32) (hk0 : k0 < 2) {r9 : Unit} {u9 : St} (h : f_X0_closeUp N u k0 x1 = some (r9, u9)) : MC l z yX0_closeUp cX0_closeUp 3 none { frames := 0, cells := 0, slots := 0, locals := 0 } 0 0 [.ref (ad 8 k0), .int x1] ad (GC z ad N X u) (QV z ad (GC z ad N X u9)) := by
  refine Met.ofW (cc := cX0_closeUp) (maxL := 3) (ret := none) (by decide) rfl ?_
  intro p e s m args below meth c s₁ B hml hv
  obtain ⟨rfl, hSW, hW⟩ := hv
  have hx := B.exec; have hb := B.bytes; have hr := B.returns; have hlocks := B.notSynchronized
  have hown : s.vm.findClass RX0 = some m.cls := findClass_of_methodNamed B.named
  obtain ⟨hT, hK, hST, hB0⟩ := id hSW
  have hS : va_S (zA z) s.heap s.heap [] := va_S.rf
  have hl := lv_entry ([.ref (ad 8 k0), .int x1]) (n := 3) (Nat.le_of_ble_eq_true rfl)
  rw [lg_entry_eq]
  generalize (lg_sl ([.ref (ad 8 k0), .int x1]) ++ List.replicate (3 - (lg_sl ([.ref (ad 8 k0), .int x1])).length) Slot.unset).toArray = ls at hl ⊢
  have hl : lv_has ls 3 [(0, .ref (ad 8 k0)), (1, .int x1)] := hl
  let WW : Heap → List Loc → JFrame → Prop := fun H locs g => W p l e (headSpec [Cond.code yX0_closeUp cX0_closeUp 3 none] { frames := 0, cells := 0, slots := 0, locals := 0 }).room s m [.ref (ad 8 k0), .int x1].toArray below meth c H locs 0 0 (MQ below (QV z ad (GC z ad N X u9)) [.ref (ad 8 k0), .int x1].toArray s 0 0 (zA z)) g
  have hL2b : ∀ (ih2 : Int32 → St → Option (Unit × St)) (hih2 : ∀ (y2 : Int32) (u : St) (H : Heap) (locs : List Loc) (ls : Array Slot), lv_has ls 3 [(2, .int y2), (0, .ref (ad 8 k0))] → GW z ad (GC z ad N X u) H → va_S (zA z) s.heap H locs → ih2 y2 u = some (r9, u9) → WW H locs (F0 m 2 ls [])), ∀ (y2 : Int32) (u : St) (H : Heap) (locs : List Loc) (ls : Array Slot), lv_has ls 3 [(2, .int y2), (0, .ref (ad 8 k0))] → GW z ad (GC z ad N X u) H → va_S (zA z) s.heap H locs → f_X0_closeUp_L2b N k0 ih2 y2 u = some (r9, u9) → WW H locs (F0 m 2 ls []) := by
    intro ih2 hih2 y2 u H locs ls hl hW hS h
    change W p l e _ s m _ below meth c H locs 0 0 _ (F0 m 2 ls [])
    unfold f_X0_closeUp_L2b at h
    refine lv_iload_n hx hb dX0_closeUp_2 rfl (lv_at hl 0 rfl) ?_
    refine lv_aload_n hx hb dX0_closeUp_3 rfl (lv_at hl 1 rfl) ?_
    refine nb_get hx hb hT hK hown hW fl_X0_21 (kr_8 hk0) (v := .int (u 43 k0 0)) rfl dX0_closeUp_4 ?_
    refine lv_iconst (v := 1) hx hb dX0_closeUp_7 (by decide) ?_
    refine lv_isub hx hb dX0_closeUp_8 ?_
    refine lv_icmp_ge (tgt := 32) hx hb dX0_closeUp_9 (by decide) (fun c1 => ?_) (fun c1 => ?_)
    · replace h := ite_t h c1
      refine lv_aload_n hx hb dX0_closeUp_32 rfl (lv_at hl 1 rfl) ?_
      refine lv_dup hx hb dX0_closeUp_33 rfl ?_
      refine nb_get hx hb hT hK hown hW fl_X0_21 (kr_8 hk0) (v := .int (u 43 k0 0)) rfl dX0_closeUp_34 ?_
      refine lv_iconst (v := 1) hx hb dX0_closeUp_37 (by decide) ?_
      refine lv_isub hx hb dX0_closeUp_38 ?_
      obtain ⟨u2, eu2, h⟩ := nm_s h
      refine nb_put hx hb hT hK hown hW hS fl_X0_21 tyX0 tyX0_ok nmX0 (kr_8 hk0) (v := .int ((u 43 k0 0) - 1)) rfl rfl rfl (Nat.le_of_ble_eq_true rfl) ((gp_43 hk0).trans (congrArg (GC z ad N X) eu2.symm)) dX0_closeUp_39 (fun H locs hW hS => ?_)
      exact ne_vret hx hb hr hlocks hW hS dX0_closeUp_42 h
    · replace h := ite_f h c1
      refine lv_aload_n hx hb dX0_closeUp_12 rfl (lv_at hl 1 rfl) ?_
      refine nb_get hx hb hT hK hown hW fl_X0_9 (kr_8 hk0) (v := .ref (ad 9 k0)) rfl dX0_closeUp_13 ?_
      refine lv_iload_n hx hb dX0_closeUp_16 rfl (lv_at hl 0 rfl) ?_
      refine lv_aload_n hx hb dX0_closeUp_17 rfl (lv_at hl 1 rfl) ?_
      refine nb_get hx hb hT hK hown hW fl_X0_9 (kr_8 hk0) (v := .ref (ad 9 k0)) rfl dX0_closeUp_18 ?_
      refine lv_iload_n hx hb dX0_closeUp_21 rfl (lv_at hl 0 rfl) ?_
      refine lv_iconst (v := 1) hx hb dX0_closeUp_22 (by decide) ?_
      refine lv_iadd hx hb dX0_closeUp_23 ?_
      obtain ⟨g3, h⟩ := gd_s h
      refine nb_iald hx hb hK hW 0 (kr_9 hk0) rfl (inb_in g3) dX0_closeUp_24 ?_
      obtain ⟨g4, h⟩ := gd_s h
      obtain ⟨u5, eu5, h⟩ := nm_s h
      refine nb_iast hx hb hK hW hS 0 (kr_9 hk0) rfl (inb_in g4) ((gp_42 hk0).trans (congrArg (GC z ad N X) eu5.symm)) dX0_closeUp_25 (fun H locs hW hS => ?_)
      obtain ⟨v6, ev6, h⟩ := nm_s h
      refine lv_iinc (v := v6) (lv' := [(2, .int v6), (0, .ref (ad 8 k0))]) hx hb dX0_closeUp_26 hl (k := 0) rfl (by rw [ev6]; rfl) (by decide) rfl (fun ls hl => ?_)
      refine lv_goto (tgt := 2) hx hb dX0_closeUp_29 (by decide) ?_
      exact hih2 _ _ _ _ _ (lv_sub hl [0, 1] rfl) hW hS h
  have hL2 : ∀ (n : Nat), ∀ (y2 : Int32) (u : St) (H : Heap) (locs : List Loc) (ls : Array Slot), lv_has ls 3 [(2, .int y2), (0, .ref (ad 8 k0))] → GW z ad (GC z ad N X u) H → va_S (zA z) s.heap H locs → f_X0_closeUp_L2 N k0 n y2 u = some (r9, u9) → WW H locs (F0 m 2 ls []) := by
    intro n
    induction n with
    | zero => intro y2 u H locs ls hl hW hS h; exact absurd h (by intro q; cases q)
    | succ n ihn => intro y2 u H locs ls hl hW hS h; exact hL2b (f_X0_closeUp_L2 N k0 n) ihn y2 u H locs ls hl hW hS h
  unfold f_X0_closeUp at h
  refine lv_iload_n hx hb dX0_closeUp_0 rfl (lv_at hl 1 rfl) ?_
  refine lv_istore_n (lv' := [(2, .int x1), (0, .ref (ad 8 k0)), (1, .int x1)]) hx hb dX0_closeUp_1 rfl hl (by decide) rfl (fun ls hl => ?_)
  exact hL2 1000000 _ _ _ _ _ (lv_sub hl [0, 1] rfl) hW hS h
/-- Panyard.cut -/
def f_X7_cut (N : Nt) (u : St) (x1 : Int32) : Option (Except String Int32 × St) :=
  xb (f_X7_requirePlace N u x1) fun r1 u3 =>
  gd (inb x1 10) <|
  nm (u3 42 0 (ix x1)) fun v5 =>
  sb (f_X0_closeUp N u3 0 x1) fun r6 u8 =>
  some (.ok v5, u8)
set_option maxRecDepth 100000 in
set_option maxHeartbeats 4000000 in
theorem c_X7_cut (l : Launch) (z : Zt) (ad : Ad) (N : Nt) (X : Gt) (u : St) (x1 : Int32) {r9 : Int32} {u9 : St} (h : f_X7_cut N u x1 = some (.ok r9, u9)) : MC l z yX7_cut cX7_cut 3 (some .int) { frames := 2, cells := 0, slots := 0, locals := 43 } 0 0 [.ref (ad 0 0), .int x1] ad (GC z ad N X u) (QI z ad (GC z ad N X u9) r9) := by
  refine Met.ofW (cc := cX7_cut) (maxL := 3) (ret := (some .int)) (by decide) rfl ?_
  intro p e s m args below meth c s₁ B hml hv
  obtain ⟨rfl, hSW, hW⟩ := hv
  have hx := B.exec; have hb := B.bytes; have hr := B.returns; have hlocks := B.notSynchronized
  have hown : s.vm.findClass RX7 = some m.cls := findClass_of_methodNamed B.named
  obtain ⟨hT, hK, hST, hB0⟩ := id hSW
  have hS : va_S (zA z) s.heap s.heap [] := va_S.rf
  have hl := lv_entry ([.ref (ad 0 0), .int x1]) (n := 3) (Nat.le_of_ble_eq_true rfl)
  rw [lg_entry_eq]
  generalize (lg_sl ([.ref (ad 0 0), .int x1]) ++ List.replicate (3 - (lg_sl ([.ref (ad 0 0), .int x1])).length) Slot.unset).toArray = ls at hl ⊢
  have hl : lv_has ls 3 [(0, .ref (ad 0 0)), (1, .int x1)] := hl
  unfold f_X7_cut at h
  refine lv_aload_n hx hb dX7_cut_0 rfl (lv_at hl 0 rfl) ?_
  refine lv_iload_n hx hb dX7_cut_1 rfl (lv_at hl 1 rfl) ?_
  obtain ⟨r1, u3, h2, h⟩ := xb_s h
  refine nb_cv (nb_runV (As := [.int x1]) (rest := []) hx hb hml hown hSW hS hW (c_X7_requirePlace l z ad N X u x1 h2) mf_X7_requirePlace lk_X7_168 kr_0 rfl rfl ⟨rfl, rfl⟩ ⟨Nat.le_of_ble_eq_true rfl, Nat.le_of_ble_eq_true rfl⟩ hl.1 (Nat.le_of_ble_eq_true rfl) dX7_cut_2 ⟨Nat.le_of_ble_eq_true rfl, Nat.le_of_ble_eq_true rfl⟩) hS (fun H locs (hW : GW z ad (GC z ad N X u3) H) hS => ?_)
  refine lv_aload_n hx hb dX7_cut_5 rfl (lv_at hl 0 rfl) ?_
  refine nb_get hx hb hT hK hown hW fl_X7_30 kr_0 (v := .ref (ad 8 0)) rfl dX7_cut_6 ?_
  refine nb_get hx hb hT hK hown hW fl_X7_171 (kr_8 (by decide)) (v := .ref (ad 9 0)) rfl dX7_cut_9 ?_
  refine lv_iload_n hx hb dX7_cut_12 rfl (lv_at hl 1 rfl) ?_
  obtain ⟨g4, h⟩ := gd_s h
  refine nb_iald hx hb hK hW 0 (kr_9 (by decide)) rfl (inb_in g4) dX7_cut_13 ?_
  refine lv_topi (fun v5 ev5 => ?_)
  replace h := nm_at ev5 h
  refine lv_istore_n (lv' := [(2, .int v5), (0, .ref (ad 0 0)), (1, .int x1)]) hx hb dX7_cut_14 rfl hl (by decide) rfl (fun ls hl => ?_)
  refine lv_aload_n hx hb dX7_cut_15 rfl (lv_at hl 1 rfl) ?_
  refine nb_get hx hb hT hK hown hW fl_X7_30 kr_0 (v := .ref (ad 8 0)) rfl dX7_cut_16 ?_
  refine lv_iload_n hx hb dX7_cut_19 rfl (lv_at hl 2 rfl) ?_
  obtain ⟨r6, u8, h7, h⟩ := sb_s h
  refine nb_cv (nb_runV (As := [.int x1]) (rest := []) hx hb hml hown hSW hS hW (c_X0_closeUp l z ad N X u3 0 x1 (by decide) h7) mf_X0_closeUp lk_X7_174 (kr_8 (by decide)) rfl rfl ⟨rfl, rfl⟩ ⟨Nat.le_of_ble_eq_true rfl, Nat.le_of_ble_eq_true rfl⟩ hl.1 (Nat.le_of_ble_eq_true rfl) dX7_cut_20 ⟨Nat.le_of_ble_eq_true rfl, Nat.le_of_ble_eq_true rfl⟩) hS (fun H locs (hW : GW z ad (GC z ad N X u8) H) hS => ?_)
  refine lv_iload_n hx hb dX7_cut_23 rfl (lv_at hl 0 rfl) ?_
  exact ne_iretX hx hb hr rfl hlocks hW hS dX7_cut_24 h
/-- Panyard.requirePlayer -/
def f_X7_requirePlayer (N : Nt) (u : St) (x1 : Int32) : Option (Except String Unit × St) :=
  sb (f_X7_isWithin N u x1 0 ((u 2 0 0) - 1)) fun r1 u3 =>
  if r1 = 0 then
    some (.error "java/lang/IndexOutOfBoundsException", u3)
  else
    some (.ok (), u3)
set_option maxRecDepth 100000 in
set_option maxHeartbeats 4000000 in
theorem c_X7_requirePlayer (l : Launch) (z : Zt) (ad : Ad) (N : Nt) (X : Gt) (u : St) (x1 : Int32) {r9 : Unit} {u9 : St} (h : f_X7_requirePlayer N u x1 = some (.ok r9, u9)) : MC l z yX7_requirePlayer cX7_requirePlayer 2 none { frames := 1, cells := 0, slots := 0, locals := 22 } 0 0 [.ref (ad 0 0), .int x1] ad (GC z ad N X u) (QV z ad (GC z ad N X u9)) := by
  refine Met.ofW (cc := cX7_requirePlayer) (maxL := 2) (ret := none) (by decide) rfl ?_
  intro p e s m args below meth c s₁ B hml hv
  obtain ⟨rfl, hSW, hW⟩ := hv
  have hx := B.exec; have hb := B.bytes; have hr := B.returns; have hlocks := B.notSynchronized
  have hown : s.vm.findClass RX7 = some m.cls := findClass_of_methodNamed B.named
  obtain ⟨hT, hK, hST, hB0⟩ := id hSW
  have hS : va_S (zA z) s.heap s.heap [] := va_S.rf
  have hl := lv_entry ([.ref (ad 0 0), .int x1]) (n := 2) (Nat.le_of_ble_eq_true rfl)
  rw [lg_entry_eq]
  generalize (lg_sl ([.ref (ad 0 0), .int x1]) ++ List.replicate (2 - (lg_sl ([.ref (ad 0 0), .int x1])).length) Slot.unset).toArray = ls at hl ⊢
  have hl : lv_has ls 2 [(0, .ref (ad 0 0)), (1, .int x1)] := hl
  unfold f_X7_requirePlayer at h
  refine lv_iload_n hx hb dX7_requirePlayer_0 rfl (lv_at hl 1 rfl) ?_
  refine lv_iconst (v := 0) hx hb dX7_requirePlayer_1 (by decide) ?_
  refine lv_aload_n hx hb dX7_requirePlayer_2 rfl (lv_at hl 0 rfl) ?_
  refine nb_get hx hb hT hK hown hW fl_X7_147 kr_0 (v := .int (u 2 0 0)) rfl dX7_requirePlayer_3 ?_
  refine lv_iconst (v := 1) hx hb dX7_requirePlayer_6 (by decide) ?_
  refine lv_isub hx hb dX7_requirePlayer_7 ?_
  obtain ⟨r1, u3, h2, h⟩ := sb_s h
  refine nb_ci (nb_runS (As := [.int x1, .int 0, .int ((u 2 0 0) - 1)]) (rest := []) hx hb hml hown hSW hS hW (c_X7_isWithin l z ad N X u x1 0 ((u 2 0 0) - 1) h2) mf_X7_isWithin lk_X7_96 rfl ⟨rfl, rfl⟩ ⟨Nat.le_of_ble_eq_true rfl, Nat.le_of_ble_eq_true rfl⟩ hl.1 (Nat.le_of_ble_eq_true rfl) dX7_requirePlayer_8 ⟨Nat.le_of_ble_eq_true rfl, Nat.le_of_ble_eq_true rfl⟩) hS (fun H locs (hW : GW z ad (GC z ad N X u3) H) hS => ?_)
  refine lv_if_ne (tgt := 25) hx hb dX7_requirePlayer_11 (by decide) (fun c4 => ?_) (fun c4 => ?_)
  · replace h := ite_f h c4
    exact ne_vretX hx hb hr hlocks hW hS dX7_requirePlayer_25 h
  · replace h := ite_t h c4
    exact absurd h (by intro q; cases q)
/-- Panyard$Player.panNumber -/
def f_X5_panNumber (N : Nt) (u : St) (k0 : Nat) : Option (Int32 × St) :=
  oc (ppan N u k0)
    (
      some ((-1), u)
    )
    fun q1 =>
    some ((u 10 q1 0), u)
set_option maxRecDepth 100000 in
set_option maxHeartbeats 4000000 in
theorem c_X5_panNumber (l : Launch) (z : Zt) (ad : Ad) (N : Nt) (X : Gt) (u : St) (k0 : Nat) (hk0 : k0 < N 15) {r9 : Int32} {u9 : St} (h : f_X5_panNumber N u k0 = some (r9, u9)) : MC l z yX5_panNumber cX5_panNumber 1 (some .int) { frames := 0, cells := 0, slots := 0, locals := 0 } 0 0 [.ref (ad 15 k0)] ad (GC z ad N X u) (QI z ad (GC z ad N X u9) r9) := by
  refine Met.ofW (cc := cX5_panNumber) (maxL := 1) (ret := (some .int)) (by decide) rfl ?_
  intro p e s m args below meth c s₁ B hml hv
  obtain ⟨rfl, hSW, hW⟩ := hv
  have hx := B.exec; have hb := B.bytes; have hr := B.returns; have hlocks := B.notSynchronized
  have hown : s.vm.findClass RX5 = some m.cls := findClass_of_methodNamed B.named
  obtain ⟨hT, hK, hST, hB0⟩ := id hSW
  have hS : va_S (zA z) s.heap s.heap [] := va_S.rf
  have hl := lv_entry ([.ref (ad 15 k0)]) (n := 1) (Nat.le_of_ble_eq_true rfl)
  rw [lg_entry_eq]
  generalize (lg_sl ([.ref (ad 15 k0)]) ++ List.replicate (1 - (lg_sl ([.ref (ad 15 k0)])).length) Slot.unset).toArray = ls at hl ⊢
  have hl : lv_has ls 1 [(0, .ref (ad 15 k0))] := hl
  unfold f_X5_panNumber at h
  refine lv_aload_n hx hb dX5_panNumber_0 rfl (lv_at hl 0 rfl) ?_
  refine nb_get hx hb hT hK hown hW fl_X5_21 (kr_15 hk0) (v := va_rf ((ppan N u k0).map (ad 12))) rfl dX5_panNumber_1 ?_
  refine nb_oc (fun o2 => ?_) (fun q1 o2 => ?_)
  · replace h := oc_n o2 h
    refine lv_ifnonnullN hx hb dX5_panNumber_4 ?_
    refine lv_iconst (v := (-1)) hx hb dX5_panNumber_7 (by decide) ?_
    refine lv_goto (tgt := 18) hx hb dX5_panNumber_8 (by decide) ?_
    exact ne_iret hx hb hr rfl hlocks hW hS dX5_panNumber_18 h
  · replace h := oc_q o2 h
    refine lv_ifnonnull (tgt := 11) hx hb dX5_panNumber_4 (by decide) ?_
    refine lv_aload_n hx hb dX5_panNumber_11 rfl (lv_at hl 0 rfl) ?_
    refine nb_get hx hb hT hK hown hW fl_X5_21 (kr_15 hk0) (v := va_rf ((ppan N u k0).map (ad 12))) rfl dX5_panNumber_12 ?_
    refine nb_ocq o2 ?_
    refine nb_get hx hb hT hK hown hW fl_X5_25 (kr_12 (Or.inl (ppan_lt o2))) (v := .int (u 10 q1 0)) rfl dX5_panNumber_15 ?_
    exact ne_iret hx hb hr rfl hlocks hW hS dX5_panNumber_18 h
/-- Panyard.give -/
def f_X7_give_B15 (N : Nt) (y1 : Int32) (y2 : Int32) (u : St) : Option (Except String Int32 × St) :=
  gd (inb y1 8) <|
  gd ((ix y1) < N 15) <|
  if y2 = (-1) then
    sb (f_X5_panNumber N u (ix y1)) fun r16 u18 =>
    nm (sset u18 33 (ix y1) 0 (penc none)) fun u19 =>
    some (.ok r16, u19)
  else
    gd (inb y2 6) <|
    gd ((ix y2) < N 12) <|
    if (u 11 (ix y2) 0) = (u 30 (ix y1) 0) then
      sb (f_X5_panNumber N u (ix y1)) fun r11 u13 =>
      gd ((ix y2) < N 12 ∧ (ix y2) < 2 ^ 31) <|
      nm (sset u13 33 (ix y1) 0 (penc (some (ix y2)))) fun u14 =>
      some (.ok r11, u14)
    else
      some (.error "java/lang/IllegalArgumentException", u)
def f_X7_give (N : Nt) (u : St) (x1 : Int32) (x2 : Int32) : Option (Except String Int32 × St) :=
  xb (f_X7_requirePlayer N u x1) fun r1 u3 =>
  if x2 = (-1) then
    f_X7_give_B15 N x1 x2 u3
  else
    xb (f_X7_requirePan N u3 x2) fun r20 u22 =>
    f_X7_give_B15 N x1 x2 u22
set_option maxRecDepth 100000 in
set_option maxHeartbeats 4000000 in
theorem c_X7_give (l : Launch) (z : Zt) (ad : Ad) (N : Nt) (X : Gt) (u : St) (x1 : Int32) (x2 : Int32) {r9 : Int32} {u9 : St} (h : f_X7_give N u x1 x2 = some (.ok r9, u9)) : MC l z yX7_give cX7_give 6 (some .int) { frames := 2, cells := 0, slots := 0, locals := 43 } 0 0 [.ref (ad 0 0), .int x1, .int x2] ad (GC z ad N X u) (QI z ad (GC z ad N X u9) r9) := by
  refine Met.ofW (cc := cX7_give) (maxL := 6) (ret := (some .int)) (by decide) rfl ?_
  intro p e s m args below meth c s₁ B hml hv
  obtain ⟨rfl, hSW, hW⟩ := hv
  have hx := B.exec; have hb := B.bytes; have hr := B.returns; have hlocks := B.notSynchronized
  have hown : s.vm.findClass RX7 = some m.cls := findClass_of_methodNamed B.named
  obtain ⟨hT, hK, hST, hB0⟩ := id hSW
  have hS : va_S (zA z) s.heap s.heap [] := va_S.rf
  have hl := lv_entry ([.ref (ad 0 0), .int x1, .int x2]) (n := 6) (Nat.le_of_ble_eq_true rfl)
  rw [lg_entry_eq]
  generalize (lg_sl ([.ref (ad 0 0), .int x1, .int x2]) ++ List.replicate (6 - (lg_sl ([.ref (ad 0 0), .int x1, .int x2])).length) Slot.unset).toArray = ls at hl ⊢
  have hl : lv_has ls 6 [(0, .ref (ad 0 0)), (1, .int x1), (2, .int x2)] := hl
  let WW : Heap → List Loc → JFrame → Prop := fun H locs g => W p l e (headSpec [Cond.code yX7_give cX7_give 6 (some .int)] { frames := 2, cells := 0, slots := 0, locals := 43 }).room s m [.ref (ad 0 0), .int x1, .int x2].toArray below meth c H locs 0 0 (MQ below (QI z ad (GC z ad N X u9) r9) [.ref (ad 0 0), .int x1, .int x2].toArray s 0 0 (zA z)) g
  have hB15 : ∀ (y1 : Int32) (y2 : Int32) (u : St) (H : Heap) (locs : List Loc) (ls : Array Slot), lv_has ls 6 [(0, .ref (ad 0 0)), (1, .int y1), (2, .int y2)] → GW z ad (GC z ad N X u) H → va_S (zA z) s.heap H locs → f_X7_give_B15 N y1 y2 u = some (.ok r9, u9) → WW H locs (F0 m 15 ls []) := by
    intro y1 y2 u H locs ls hl hW hS h
    change W p l e _ s m _ below meth c H locs 0 0 _ (F0 m 15 ls [])
    unfold f_X7_give_B15 at h
    refine lv_aload_n hx hb dX7_give_15 rfl (lv_at hl 0 rfl) ?_
    refine nb_get hx hb hT hK hown hW fl_X7_23 kr_0 (v := .ref (ad 3 0)) rfl dX7_give_16 ?_
    refine lv_iload_n hx hb dX7_give_19 rfl (lv_at hl 1 rfl) ?_
    obtain ⟨g5, h⟩ := gd_s h
    obtain ⟨g6, h⟩ := gd_s h
    refine nb_aald hx hb hK hW 4 kr_3 rfl rfl (inb_in g5) (a := ad 15 (ix y1)) (qrow_at g6) dX7_give_20 ?_
    refine lv_astore_n (lv' := [(3, .ref (ad 15 (ix y1))), (0, .ref (ad 0 0)), (1, .int y1), (2, .int y2)]) hx hb dX7_give_21 rfl hl (by decide) rfl (fun ls hl => ?_)
    refine lv_iload_n hx hb dX7_give_22 rfl (lv_at hl 3 rfl) ?_
    refine lv_iconst (v := (-1)) hx hb dX7_give_23 (by decide) ?_
    refine lv_icmp_ne (tgt := 31) hx hb dX7_give_24 (by decide) (fun c7 => ?_) (fun c7 => ?_)
    · replace h := ite_f h c7
      refine lv_aload_n hx hb dX7_give_31 rfl (lv_at hl 1 rfl) ?_
      refine nb_get hx hb hT hK hown hW fl_X7_11 kr_0 (v := .ref (ad 1 0)) rfl dX7_give_32 ?_
      refine lv_iload_n hx hb dX7_give_35 rfl (lv_at hl 3 rfl) ?_
      obtain ⟨g8, h⟩ := gd_s h
      obtain ⟨g9, h⟩ := gd_s h
      refine nb_aald hx hb hK hW 2 kr_1 rfl rfl (inb_in g8) (a := ad 12 (ix y2)) (qrow_at g9) dX7_give_36 ?_
      refine lv_astore (lv' := [(4, .ref (ad 12 (ix y2))), (3, .ref (ad 15 (ix y1))), (0, .ref (ad 0 0)), (1, .int y1), (2, .int y2)]) hx hb dX7_give_37 hl (by decide) rfl (fun ls hl => ?_)
      refine lv_aload hx hb dX7_give_39 (lv_at hl 0 rfl) ?_
      refine lv_ifnull hx hb dX7_give_41 ?_
      refine lv_aload hx hb dX7_give_44 (lv_at hl 0 rfl) ?_
      refine nb_get hx hb hT hK hown hW fl_X7_187 (kr_12 (Or.inl g9)) (v := .int (u 11 (ix y2) 0)) rfl dX7_give_46 ?_
      refine lv_aload_n hx hb dX7_give_49 rfl (lv_at hl 1 rfl) ?_
      refine nb_get hx hb hT hK hown hW fl_X7_190 (kr_15 g6) (v := .int (u 30 (ix y1) 0)) rfl dX7_give_50 ?_
      refine lv_icmp_eq (tgt := 66) hx hb dX7_give_53 (by decide) (fun c10 => ?_) (fun c10 => ?_)
      · replace h := ite_t h c10
        refine lv_aload_n hx hb dX7_give_66 rfl (lv_at hl 1 rfl) ?_
        obtain ⟨r11, u13, h12, h⟩ := sb_s h
        refine nb_ci (nb_runV (As := []) (rest := []) hx hb hml hown hSW hS hW (c_X5_panNumber l z ad N X u (ix y1) g6 h12) mf_X5_panNumber lk_X7_195 (kr_15 g6) rfl rfl ⟨rfl, rfl⟩ ⟨Nat.le_of_ble_eq_true rfl, Nat.le_of_ble_eq_true rfl⟩ hl.1 (Nat.le_of_ble_eq_true rfl) dX7_give_67 ⟨Nat.le_of_ble_eq_true rfl, Nat.le_of_ble_eq_true rfl⟩) hS (fun H locs (hW : GW z ad (GC z ad N X u13) H) hS => ?_)
        refine lv_istore (lv' := [(5, .int r11), (4, .ref (ad 12 (ix y2))), (3, .ref (ad 15 (ix y1))), (0, .ref (ad 0 0)), (1, .int y1), (2, .int y2)]) hx hb dX7_give_70 hl (by decide) rfl (fun ls hl => ?_)
        refine lv_aload_n hx hb dX7_give_72 rfl (lv_at hl 2 rfl) ?_
        refine lv_aload hx hb dX7_give_73 (lv_at hl 1 rfl) ?_
        obtain ⟨g15, h⟩ := gd_s h
        obtain ⟨u14, eu14, h⟩ := nm_s h
        refine nb_put hx hb hT hK hown hW hS fl_X7_199 tyX5 tyX5_ok nmX5 (kr_15 g6) (v := .ref (ad 12 (ix y2))) rfl rfl rfl (Nat.le_of_ble_eq_true rfl) ((gp_33 (r := (some (ix y2))) g6 (fun q hq => by cases hq; exact g15)).trans (congrArg (GC z ad N X) eu14.symm)) dX7_give_75 (fun H locs hW hS => ?_)
        refine lv_iload hx hb dX7_give_78 (lv_at hl 0 rfl) ?_
        exact ne_iretX hx hb hr rfl hlocks hW hS dX7_give_80 h
      · replace h := ite_f h c10
        exact absurd h (by intro q; cases q)
    · replace h := ite_t h c7
      refine lv_null hx hb dX7_give_27 ?_
      refine lv_goto (tgt := 37) hx hb dX7_give_28 (by decide) ?_
      refine lv_astoreN (lv' := [(4, .null), (3, .ref (ad 15 (ix y1))), (0, .ref (ad 0 0)), (1, .int y1), (2, .int y2)]) hx hb dX7_give_37 hl (by decide) rfl (fun ls hl => ?_)
      refine lv_aloadN hx hb dX7_give_39 (lv_at hl 0 rfl) ?_
      refine lv_ifnullN (tgt := 66) hx hb dX7_give_41 (by decide) ?_
      refine lv_aload_n hx hb dX7_give_66 rfl (lv_at hl 1 rfl) ?_
      obtain ⟨r16, u18, h17, h⟩ := sb_s h
      refine nb_ci (nb_runV (As := []) (rest := []) hx hb hml hown hSW hS hW (c_X5_panNumber l z ad N X u (ix y1) g6 h17) mf_X5_panNumber lk_X7_195 (kr_15 g6) rfl rfl ⟨rfl, rfl⟩ ⟨Nat.le_of_ble_eq_true rfl, Nat.le_of_ble_eq_true rfl⟩ hl.1 (Nat.le_of_ble_eq_true rfl) dX7_give_67 ⟨Nat.le_of_ble_eq_true rfl, Nat.le_of_ble_eq_true rfl⟩) hS (fun H locs (hW : GW z ad (GC z ad N X u18) H) hS => ?_)
      refine lv_istore (lv' := [(5, .int r16), (4, .null), (3, .ref (ad 15 (ix y1))), (0, .ref (ad 0 0)), (1, .int y1), (2, .int y2)]) hx hb dX7_give_70 hl (by decide) rfl (fun ls hl => ?_)
      refine lv_aload_n hx hb dX7_give_72 rfl (lv_at hl 2 rfl) ?_
      refine lv_aloadN hx hb dX7_give_73 (lv_at hl 1 rfl) ?_
      obtain ⟨u19, eu19, h⟩ := nm_s h
      refine nb_put hx hb hT hK hown hW hS fl_X7_199 tyX5 tyX5_ok nmX5 (kr_15 g6) (v := .null) rfl rfl rfl (Nat.le_of_ble_eq_true rfl) ((gp_33 (r := none) g6 (fun q hq => by cases hq)).trans (congrArg (GC z ad N X) eu19.symm)) dX7_give_75 (fun H locs hW hS => ?_)
      refine lv_iload hx hb dX7_give_78 (lv_at hl 0 rfl) ?_
      exact ne_iretX hx hb hr rfl hlocks hW hS dX7_give_80 h
  unfold f_X7_give at h
  refine lv_aload_n hx hb dX7_give_0 rfl (lv_at hl 0 rfl) ?_
  refine lv_iload_n hx hb dX7_give_1 rfl (lv_at hl 1 rfl) ?_
  obtain ⟨r1, u3, h2, h⟩ := xb_s h
  refine nb_cv (nb_runV (As := [.int x1]) (rest := []) hx hb hml hown hSW hS hW (c_X7_requirePlayer l z ad N X u x1 h2) mf_X7_requirePlayer lk_X7_184 kr_0 rfl rfl ⟨rfl, rfl⟩ ⟨Nat.le_of_ble_eq_true rfl, Nat.le_of_ble_eq_true rfl⟩ hl.1 (Nat.le_of_ble_eq_true rfl) dX7_give_2 ⟨Nat.le_of_ble_eq_true rfl, Nat.le_of_ble_eq_true rfl⟩) hS (fun H locs (hW : GW z ad (GC z ad N X u3) H) hS => ?_)
  refine lv_iload_n hx hb dX7_give_5 rfl (lv_at hl 2 rfl) ?_
  refine lv_iconst (v := (-1)) hx hb dX7_give_6 (by decide) ?_
  refine lv_icmp_eq (tgt := 15) hx hb dX7_give_7 (by decide) (fun c4 => ?_) (fun c4 => ?_)
  · replace h := ite_t h c4
    exact hB15 _ _ _ _ _ _ (lv_sub hl [0, 1, 2] rfl) hW hS h
  · replace h := ite_f h c4
    refine lv_aload_n hx hb dX7_give_10 rfl (lv_at hl 0 rfl) ?_
    refine lv_iload_n hx hb dX7_give_11 rfl (lv_at hl 2 rfl) ?_
    obtain ⟨r20, u22, h21, h⟩ := xb_s h
    refine nb_cv (nb_runV (As := [.int x2]) (rest := []) hx hb hml hown hSW hS hW (c_X7_requirePan l z ad N X u3 x2 h21) mf_X7_requirePan lk_X7_90 kr_0 rfl rfl ⟨rfl, rfl⟩ ⟨Nat.le_of_ble_eq_true rfl, Nat.le_of_ble_eq_true rfl⟩ hl.1 (Nat.le_of_ble_eq_true rfl) dX7_give_12 ⟨Nat.le_of_ble_eq_true rfl, Nat.le_of_ble_eq_true rfl⟩) hS (fun H locs (hW : GW z ad (GC z ad N X u22) H) hS => ?_)
    exact hB15 _ _ _ _ _ _ (lv_sub hl [0, 1, 2] rfl) hW hS h
/-- Panyard.absent -/
def f_X7_absent (N : Nt) (u : St) (x1 : Int32) (x2 : Int32) : Option (Except String Int32 × St) :=
  xb (f_X7_requirePlayer N u x1) fun r1 u3 =>
  gd (inb x1 8) <|
  gd ((ix x1) < N 15) <|
  nm (u3 34 (ix x1) 0) fun v6 =>
  gd (x2 = 0 ∨ x2 = 1) <|
  nm (sset u3 34 (ix x1) 0 x2) fun u7 =>
  gd (v6 = 0 ∨ v6 = 1) <|
  some (.ok v6, u7)
set_option maxRecDepth 100000 in
set_option maxHeartbeats 4000000 in
theorem c_X7_absent (l : Launch) (z : Zt) (ad : Ad) (N : Nt) (X : Gt) (u : St) (x1 : Int32) (x2 : Int32) {r9 : Int32} {u9 : St} (h : f_X7_absent N u x1 x2 = some (.ok r9, u9)) : MC l z yX7_absent cX7_absent 4 (some .boolean) { frames := 2, cells := 0, slots := 0, locals := 43 } 0 0 [.ref (ad 0 0), .int x1, .int x2] ad (GC z ad N X u) (QI z ad (GC z ad N X u9) r9) := by
  refine Met.ofW (cc := cX7_absent) (maxL := 4) (ret := (some .boolean)) (by decide) rfl ?_
  intro p e s m args below meth c s₁ B hml hv
  obtain ⟨rfl, hSW, hW⟩ := hv
  have hx := B.exec; have hb := B.bytes; have hr := B.returns; have hlocks := B.notSynchronized
  have hown : s.vm.findClass RX7 = some m.cls := findClass_of_methodNamed B.named
  obtain ⟨hT, hK, hST, hB0⟩ := id hSW
  have hS : va_S (zA z) s.heap s.heap [] := va_S.rf
  have hl := lv_entry ([.ref (ad 0 0), .int x1, .int x2]) (n := 4) (Nat.le_of_ble_eq_true rfl)
  rw [lg_entry_eq]
  generalize (lg_sl ([.ref (ad 0 0), .int x1, .int x2]) ++ List.replicate (4 - (lg_sl ([.ref (ad 0 0), .int x1, .int x2])).length) Slot.unset).toArray = ls at hl ⊢
  have hl : lv_has ls 4 [(0, .ref (ad 0 0)), (1, .int x1), (2, .int x2)] := hl
  unfold f_X7_absent at h
  refine lv_aload_n hx hb dX7_absent_0 rfl (lv_at hl 0 rfl) ?_
  refine lv_iload_n hx hb dX7_absent_1 rfl (lv_at hl 1 rfl) ?_
  obtain ⟨r1, u3, h2, h⟩ := xb_s h
  refine nb_cv (nb_runV (As := [.int x1]) (rest := []) hx hb hml hown hSW hS hW (c_X7_requirePlayer l z ad N X u x1 h2) mf_X7_requirePlayer lk_X7_184 kr_0 rfl rfl ⟨rfl, rfl⟩ ⟨Nat.le_of_ble_eq_true rfl, Nat.le_of_ble_eq_true rfl⟩ hl.1 (Nat.le_of_ble_eq_true rfl) dX7_absent_2 ⟨Nat.le_of_ble_eq_true rfl, Nat.le_of_ble_eq_true rfl⟩) hS (fun H locs (hW : GW z ad (GC z ad N X u3) H) hS => ?_)
  refine lv_aload_n hx hb dX7_absent_5 rfl (lv_at hl 0 rfl) ?_
  refine nb_get hx hb hT hK hown hW fl_X7_23 kr_0 (v := .ref (ad 3 0)) rfl dX7_absent_6 ?_
  refine lv_iload_n hx hb dX7_absent_9 rfl (lv_at hl 1 rfl) ?_
  obtain ⟨g4, h⟩ := gd_s h
  obtain ⟨g5, h⟩ := gd_s h
  refine nb_aald hx hb hK hW 4 kr_3 rfl rfl (inb_in g4) (a := ad 15 (ix x1)) (qrow_at g5) dX7_absent_10 ?_
  refine nb_get hx hb hT hK hown hW fl_X7_202 (kr_15 g5) (v := .int (u3 34 (ix x1) 0)) rfl dX7_absent_11 ?_
  refine lv_topi (fun v6 ev6 => ?_)
  replace h := nm_at ev6 h
  refine lv_istore_n (lv' := [(3, .int v6), (0, .ref (ad 0 0)), (1, .int x1), (2, .int x2)]) hx hb dX7_absent_14 rfl hl (by decide) rfl (fun ls hl => ?_)
  refine lv_aload_n hx hb dX7_absent_15 rfl (lv_at hl 1 rfl) ?_
  refine nb_get hx hb hT hK hown hW fl_X7_23 kr_0 (v := .ref (ad 3 0)) rfl dX7_absent_16 ?_
  refine lv_iload_n hx hb dX7_absent_19 rfl (lv_at hl 2 rfl) ?_
  refine nb_aald hx hb hK hW 4 kr_3 rfl rfl (inb_in g4) (a := ad 15 (ix x1)) (qrow_at g5) dX7_absent_20 ?_
  refine lv_iload_n hx hb dX7_absent_21 rfl (lv_at hl 3 rfl) ?_
  obtain ⟨g8, h⟩ := gd_s h
  obtain ⟨u7, eu7, h⟩ := nm_s h
  refine nb_put hx hb hT hK hown hW hS fl_X7_202 tyX5 tyX5_ok nmX5 (kr_15 g5) (v := .int x2) rfl (nbool g8).1 (nbool g8).2 (Nat.le_of_ble_eq_true rfl) ((gp_34 g5).trans (congrArg (GC z ad N X) eu7.symm)) dX7_absent_22 (fun H locs hW hS => ?_)
  refine lv_iload_n hx hb dX7_absent_25 rfl (lv_at hl 0 rfl) ?_
  obtain ⟨g9, h⟩ := gd_s h
  exact ne_iretX hx hb hr (nbool g9).1 hlocks hW hS dX7_absent_26 h
