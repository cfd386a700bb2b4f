/-- Panyard.tuner -/
def f_X7_tuner (N : Nt) (u : St) (x1 : Int32) (x2 : Int32) : Option (Except String Int32 × St) :=
  xb (f_X7_requirePan N u x1) fun r1 u3 =>
  sb (f_X7_isWithin N u3 x2 10 120) fun r4 u6 =>
  if r4 = 0 then
    some (.error "java/lang/IllegalArgumentException", u6)
  else
    xb (f_X7_requireWhole N u6 x1) fun r8 u10 =>
    gd (inb x1 6) <|
    gd ((ix x1) < N 12) <|
    sb (f_X3_tuneUpTo N u10 (ix x1) (x2 / 10)) fun r13 u15 =>
    nm (sset u15 3 0 0 ((u15 3 0 0) - (4 * r13))) fun u16 =>
    some (.ok r13, u16)
set_option maxRecDepth 100000 in
set_option maxHeartbeats 4000000 in
theorem c_X7_tuner (l : Launch) (z : Zt) (ad : Ad) (N : Nt) (X : Gt) (u : St) (x1 : Int32) (x2 : Int32) {r9 : Int32} {u9 : St} (h : f_X7_tuner N u x1 x2 = some (.ok r9, u9)) : MC l z yX7_tuner cX7_tuner 4 (some .int) { frames := 5, cells := 0, slots := 0, locals := 110 } 0 0 [.ref (ad 0 0), .int x1, .int x2] ad (GC z ad N X u) (QI z ad (GC z ad N X u9) r9) := by
  refine Met.ofW (cc := cX7_tuner) (maxL := 4) (ret := (some .int)) (by decide) rfl ?_
  intro p e s m args below meth c s₁ B hml hv
  obtain ⟨rfl, hSW, hW⟩ := hv
  have hx := B.exec; have hb := B.bytes; have hr := B.returns; have hlocks := B.notSynchronized
  have hown : s.vm.findClass RX7 = some m.cls := findClass_of_methodNamed B.named
  obtain ⟨hT, hK, hST, hB0⟩ := id hSW
  have hS : va_S (zA z) s.heap s.heap [] := va_S.rf
  have hl := lv_entry ([.ref (ad 0 0), .int x1, .int x2]) (n := 4) (Nat.le_of_ble_eq_true rfl)
  rw [lg_entry_eq]
  generalize (lg_sl ([.ref (ad 0 0), .int x1, .int x2]) ++ List.replicate (4 - (lg_sl ([.ref (ad 0 0), .int x1, .int x2])).length) Slot.unset).toArray = ls at hl ⊢
  have hl : lv_has ls 4 [(0, .ref (ad 0 0)), (1, .int x1), (2, .int x2)] := hl
  unfold f_X7_tuner at h
  refine lv_aload_n hx hb dX7_tuner_0 rfl (lv_at hl 0 rfl) ?_
  refine lv_iload_n hx hb dX7_tuner_1 rfl (lv_at hl 1 rfl) ?_
  obtain ⟨r1, u3, h2, h⟩ := xb_s h
  refine nb_cv (nb_runV (As := [.int x1]) (rest := []) hx hb hml hown hSW hS hW (c_X7_requirePan l z ad N X u x1 h2) mf_X7_requirePan lk_X7_90 kr_0 rfl rfl ⟨rfl, rfl⟩ ⟨Nat.le_of_ble_eq_true rfl, Nat.le_of_ble_eq_true rfl⟩ hl.1 (Nat.le_of_ble_eq_true rfl) dX7_tuner_2 ⟨Nat.le_of_ble_eq_true rfl, Nat.le_of_ble_eq_true rfl⟩) hS (fun H locs (hW : GW z ad (GC z ad N X u3) H) hS => ?_)
  refine lv_iload_n hx hb dX7_tuner_5 rfl (lv_at hl 2 rfl) ?_
  refine lv_bipush (v := 10) hx hb dX7_tuner_6 (by decide) ?_
  refine lv_bipush (v := 120) hx hb dX7_tuner_8 (by decide) ?_
  obtain ⟨r4, u6, h5, h⟩ := sb_s h
  refine nb_ci (nb_runS (As := [.int x2, .int 10, .int 120]) (rest := []) hx hb hml hown hSW hS hW (c_X7_isWithin l z ad N X u3 x2 10 120 h5) mf_X7_isWithin lk_X7_96 rfl ⟨rfl, rfl⟩ ⟨Nat.le_of_ble_eq_true rfl, Nat.le_of_ble_eq_true rfl⟩ hl.1 (Nat.le_of_ble_eq_true rfl) dX7_tuner_10 ⟨Nat.le_of_ble_eq_true rfl, Nat.le_of_ble_eq_true rfl⟩) hS (fun H locs (hW : GW z ad (GC z ad N X u6) H) hS => ?_)
  refine lv_if_ne (tgt := 26) hx hb dX7_tuner_13 (by decide) (fun c7 => ?_) (fun c7 => ?_)
  · replace h := ite_f h c7
    refine lv_aload_n hx hb dX7_tuner_26 rfl (lv_at hl 0 rfl) ?_
    refine lv_iload_n hx hb dX7_tuner_27 rfl (lv_at hl 1 rfl) ?_
    obtain ⟨r8, u10, h09, h⟩ := xb_s h
    refine nb_cv (nb_runV (As := [.int x1]) (rest := []) hx hb hml hown hSW hS hW (c_X7_requireWhole l z ad N X u6 x1 h09) mf_X7_requireWhole lk_X7_105 kr_0 rfl rfl ⟨rfl, rfl⟩ ⟨Nat.le_of_ble_eq_true rfl, Nat.le_of_ble_eq_true rfl⟩ hl.1 (Nat.le_of_ble_eq_true rfl) dX7_tuner_28 ⟨Nat.le_of_ble_eq_true rfl, Nat.le_of_ble_eq_true rfl⟩) hS (fun H locs (hW : GW z ad (GC z ad N X u10) H) hS => ?_)
    refine lv_aload_n hx hb dX7_tuner_31 rfl (lv_at hl 0 rfl) ?_
    refine nb_get hx hb hT hK hown hW fl_X7_11 kr_0 (v := .ref (ad 1 0)) rfl dX7_tuner_32 ?_
    refine lv_iload_n hx hb dX7_tuner_35 rfl (lv_at hl 1 rfl) ?_
    obtain ⟨g11, h⟩ := gd_s h
    obtain ⟨g12, h⟩ := gd_s h
    refine nb_aald hx hb hK hW 2 kr_1 rfl rfl (inb_in g11) (a := ad 12 (ix x1)) (qrow_at g12) dX7_tuner_36 ?_
    refine lv_iload_n hx hb dX7_tuner_37 rfl (lv_at hl 2 rfl) ?_
    refine lv_bipush (v := 10) hx hb dX7_tuner_38 (by decide) ?_
    refine lv_idiv hx hb dX7_tuner_40 (by decide) ?_
    obtain ⟨r13, u15, h14, h⟩ := sb_s h
    refine nb_ci (nb_runV (As := [.int (x2 / 10)]) (rest := []) hx hb hml hown hSW hS hW (c_X3_tuneUpTo l z ad N X u10 (ix x1) (x2 / 10) (Or.inl g12) h14) mf_X3_tuneUpTo lk_X7_122 (kr_12 (Or.inl g12)) rfl rfl ⟨rfl, rfl⟩ ⟨Nat.le_of_ble_eq_true rfl, Nat.le_of_ble_eq_true rfl⟩ hl.1 (Nat.le_of_ble_eq_true rfl) dX7_tuner_41 ⟨Nat.le_of_ble_eq_true rfl, Nat.le_of_ble_eq_true rfl⟩) hS (fun H locs (hW : GW z ad (GC z ad N X u15) H) hS => ?_)
    refine lv_istore_n (lv' := [(3, .int r13), (0, .ref (ad 0 0)), (1, .int x1), (2, .int x2)]) hx hb dX7_tuner_44 rfl hl (by decide) rfl (fun ls hl => ?_)
    refine lv_aload_n hx hb dX7_tuner_45 rfl (lv_at hl 1 rfl) ?_
    refine lv_dup hx hb dX7_tuner_46 rfl ?_
    refine nb_get hx hb hT hK hown hW fl_X7_55 kr_0 (v := .int (u15 3 0 0)) rfl dX7_tuner_47 ?_
    refine lv_iconst (v := 4) hx hb dX7_tuner_50 (by decide) ?_
    refine lv_iload_n hx hb dX7_tuner_51 rfl (lv_at hl 0 rfl) ?_
    refine lv_imul hx hb dX7_tuner_52 ?_
    refine lv_isub hx hb dX7_tuner_53 ?_
    obtain ⟨u16, eu16, h⟩ := nm_s h
    refine nb_put hx hb hT hK hown hW hS fl_X7_55 tyX7 tyX7_ok nmX7 kr_0 (v := .int ((u15 3 0 0) - (4 * r13))) rfl rfl rfl (Nat.le_of_ble_eq_true rfl) ((gp_3).trans (congrArg (GC z ad N X) eu16.symm)) dX7_tuner_54 (fun H locs hW hS => ?_)
    refine lv_iload_n hx hb dX7_tuner_57 rfl (lv_at hl 0 rfl) ?_
    exact ne_iretX hx hb hr rfl hlocks hW hS dX7_tuner_58 h
  · replace h := ite_t h c7
    exact absurd h (by intro q; cases q)
/-- Panyard.cover -/
def f_X7_cover (N : Nt) (u : St) (x1 : Int32) : Option (Int32 × St) :=
  nm (u 4 0 0) fun v1 =>
  gd (x1 = 0 ∨ x1 = 1) <|
  nm (sset u 4 0 0 x1) fun u2 =>
  gd (v1 = 0 ∨ v1 = 1) <|
  some (v1, u2)
set_option maxRecDepth 100000 in
set_option maxHeartbeats 4000000 in
theorem c_X7_cover (l : Launch) (z : Zt) (ad : Ad) (N : Nt) (X : Gt) (u : St) (x1 : Int32) {r9 : Int32} {u9 : St} (h : f_X7_cover N u x1 = some (r9, u9)) : MC l z yX7_cover cX7_cover 3 (some .boolean) { frames := 0, cells := 0, slots := 0, locals := 0 } 0 0 [.ref (ad 0 0), .int x1] ad (GC z ad N X u) (QI z ad (GC z ad N X u9) r9) := by
  refine Met.ofW (cc := cX7_cover) (maxL := 3) (ret := (some .boolean)) (by decide) rfl ?_
  intro p e s m args below meth c s₁ B hml hv
  obtain ⟨rfl, hSW, hW⟩ := hv
  have hx := B.exec; have hb := B.bytes; have hr := B.returns; have hlocks := B.notSynchronized
  have hown : s.vm.findClass RX7 = some m.cls := findClass_of_methodNamed B.named
  obtain ⟨hT, hK, hST, hB0⟩ := id hSW
  have hS : va_S (zA z) s.heap s.heap [] := va_S.rf
  have hl := lv_entry ([.ref (ad 0 0), .int x1]) (n := 3) (Nat.le_of_ble_eq_true rfl)
  rw [lg_entry_eq]
  generalize (lg_sl ([.ref (ad 0 0), .int x1]) ++ List.replicate (3 - (lg_sl ([.ref (ad 0 0), .int x1])).length) Slot.unset).toArray = ls at hl ⊢
  have hl : lv_has ls 3 [(0, .ref (ad 0 0)), (1, .int x1)] := hl
  unfold f_X7_cover at h
  refine lv_aload_n hx hb dX7_cover_0 rfl (lv_at hl 0 rfl) ?_
  refine nb_get hx hb hT hK hown hW fl_X7_126 kr_0 (v := .int (u 4 0 0)) rfl dX7_cover_1 ?_
  refine lv_topi (fun v1 ev1 => ?_)
  replace h := nm_at ev1 h
  refine lv_istore_n (lv' := [(2, .int v1), (0, .ref (ad 0 0)), (1, .int x1)]) hx hb dX7_cover_4 rfl hl (by decide) rfl (fun ls hl => ?_)
  refine lv_aload_n hx hb dX7_cover_5 rfl (lv_at hl 1 rfl) ?_
  refine lv_iload_n hx hb dX7_cover_6 rfl (lv_at hl 2 rfl) ?_
  obtain ⟨g3, h⟩ := gd_s h
  obtain ⟨u2, eu2, h⟩ := nm_s h
  refine nb_put hx hb hT hK hown hW hS fl_X7_126 tyX7 tyX7_ok nmX7 kr_0 (v := .int x1) rfl (nbool g3).1 (nbool g3).2 (Nat.le_of_ble_eq_true rfl) ((gp_4).trans (congrArg (GC z ad N X) eu2.symm)) dX7_cover_7 (fun H locs hW hS => ?_)
  refine lv_iload_n hx hb dX7_cover_10 rfl (lv_at hl 0 rfl) ?_
  obtain ⟨g4, h⟩ := gd_s h
  exact ne_iret hx hb hr (nbool g4).1 hlocks hW hS dX7_cover_11 h
/-- Panyard.requirePhraseWords -/
def f_X7_requirePhraseWords (N : Nt) (u : St) (x0 : Int32) (x1 : Int32) : Option (Except String Unit × St) :=
  sb (f_X7_isWithin N u x0 1 9) fun r1 u3 =>
  if r1 = 0 then
    some (.error "java/lang/IllegalArgumentException", u3)
  else
    sb (f_X7_isWithin N u3 x1 1 255) fun r5 u7 =>
    if r5 = 0 then
      some (.error "java/lang/IllegalArgumentException", u7)
    else
      some (.ok (), u7)
set_option maxRecDepth 100000 in
set_option maxHeartbeats 4000000 in
theorem c_X7_requirePhraseWords (l : Launch) (z : Zt) (ad : Ad) (N : Nt) (X : Gt) (u : St) (x0 : Int32) (x1 : Int32) {r9 : Unit} {u9 : St} (h : f_X7_requirePhraseWords N u x0 x1 = some (.ok r9, u9)) : MC l z yX7_requirePhraseWords cX7_requirePhraseWords 2 none { frames := 1, cells := 0, slots := 0, locals := 22 } 0 0 [.int x0, .int x1] ad (GC z ad N X u) (QV z ad (GC z ad N X u9)) := by
  refine Met.ofW (cc := cX7_requirePhraseWords) (maxL := 2) (ret := none) (by decide) rfl ?_
  intro p e s m args below meth c s₁ B hml hv
  obtain ⟨rfl, hSW, hW⟩ := hv
  have hx := B.exec; have hb := B.bytes; have hr := B.returns; have hlocks := B.notSynchronized
  have hown : s.vm.findClass RX7 = some m.cls := findClass_of_methodNamed B.named
  obtain ⟨hT, hK, hST, hB0⟩ := id hSW
  have hS : va_S (zA z) s.heap s.heap [] := va_S.rf
  have hl := lv_entry ([.int x0, .int x1]) (n := 2) (Nat.le_of_ble_eq_true rfl)
  rw [lg_entry_eq]
  generalize (lg_sl ([.int x0, .int x1]) ++ List.replicate (2 - (lg_sl ([.int x0, .int x1])).length) Slot.unset).toArray = ls at hl ⊢
  have hl : lv_has ls 2 [(0, .int x0), (1, .int x1)] := hl
  unfold f_X7_requirePhraseWords at h
  refine lv_iload_n hx hb dX7_requirePhraseWords_0 rfl (lv_at hl 0 rfl) ?_
  refine lv_iconst (v := 1) hx hb dX7_requirePhraseWords_1 (by decide) ?_
  refine lv_bipush (v := 9) hx hb dX7_requirePhraseWords_2 (by decide) ?_
  obtain ⟨r1, u3, h2, h⟩ := sb_s h
  refine nb_ci (nb_runS (As := [.int x0, .int 1, .int 9]) (rest := []) hx hb hml hown hSW hS hW (c_X7_isWithin l z ad N X u x0 1 9 h2) mf_X7_isWithin lk_X7_96 rfl ⟨rfl, rfl⟩ ⟨Nat.le_of_ble_eq_true rfl, Nat.le_of_ble_eq_true rfl⟩ hl.1 (Nat.le_of_ble_eq_true rfl) dX7_requirePhraseWords_4 ⟨Nat.le_of_ble_eq_true rfl, Nat.le_of_ble_eq_true rfl⟩) hS (fun H locs (hW : GW z ad (GC z ad N X u3) H) hS => ?_)
  refine lv_if_ne (tgt := 21) hx hb dX7_requirePhraseWords_7 (by decide) (fun c4 => ?_) (fun c4 => ?_)
  · replace h := ite_f h c4
    refine lv_iload_n hx hb dX7_requirePhraseWords_21 rfl (lv_at hl 1 rfl) ?_
    refine lv_iconst (v := 1) hx hb dX7_requirePhraseWords_22 (by decide) ?_
    refine lv_sipush (v := 255) hx hb dX7_requirePhraseWords_23 (by decide) ?_
    obtain ⟨r5, u7, h6, h⟩ := sb_s h
    refine nb_ci (nb_runS (As := [.int x1, .int 1, .int 255]) (rest := []) hx hb hml hown hSW hS hW (c_X7_isWithin l z ad N X u3 x1 1 255 h6) mf_X7_isWithin lk_X7_96 rfl ⟨rfl, rfl⟩ ⟨Nat.le_of_ble_eq_true rfl, Nat.le_of_ble_eq_true rfl⟩ hl.1 (Nat.le_of_ble_eq_true rfl) dX7_requirePhraseWords_26 ⟨Nat.le_of_ble_eq_true rfl, Nat.le_of_ble_eq_true rfl⟩) hS (fun H locs (hW : GW z ad (GC z ad N X u7) H) hS => ?_)
    refine lv_if_ne (tgt := 43) hx hb dX7_requirePhraseWords_29 (by decide) (fun c8 => ?_) (fun c8 => ?_)
    · replace h := ite_f h c8
      exact ne_vretX hx hb hr hlocks hW hS dX7_requirePhraseWords_43 h
    · replace h := ite_t h c8
      exact absurd h (by intro q; cases q)
  · replace h := ite_t h c4
    exact absurd h (by intro q; cases q)
/-- Panyard.phrase -/
def f_X7_phrase (N : Nt) (u : St) (x1 : Int32) (x2 : Int32) (x3 : Int32) : Option (Except String Int32 × St) :=
  xb (f_X7_requireSection N u x1) fun r1 u3 =>
  xb (f_X7_requirePhraseWords N u3 x2 x3) fun r4 u6 =>
  if (u6 1 0 0) < 8 then
    nm (u6 1 0 0) fun v8 =>
    gd (inb v8 8 ∧ ix v8 = N 14) <|
    nm (mkPhr u6 (N 14) x1 x2 x3) fun u10 =>
    some (.ok v8, u10)
  else
    some (.error "java/lang/IllegalStateException", u6)
set_option maxRecDepth 100000 in
set_option maxHeartbeats 4000000 in
theorem c_X7_phrase (l : Launch) (z : Zt) (ad : Ad) (N : Nt) (X : Gt) (u : St) (x1 : Int32) (x2 : Int32) (x3 : Int32) (hA : Raw ad) {r9 : Int32} {u9 : St} (h : f_X7_phrase N u x1 x2 x3 = some (.ok r9, u9)) : MC l z yX7_phrase cX7_phrase 5 (some .int) { frames := 2, cells := 1, slots := 4, locals := 43 } 1 4 [.ref (ad 0 0), .int x1, .int x2, .int x3] ad (GC z ad N X u) (QM z (fun ad2 : Ad => ∀ a b, ¬ (b = N 14 ∧ a = 14) → ad2 a b = ad a b) (fun ad2 => GC z ad2 (Nup N 14) X u9) r9) := by
  refine Met.ofW (cc := cX7_phrase) (maxL := 5) (ret := (some .int)) (by decide) rfl ?_
  intro p e s m args below meth c s₁ B hml hv
  obtain ⟨rfl, hSW, hW⟩ := hv
  have hx := B.exec; have hb := B.bytes; have hr := B.returns; have hlocks := B.notSynchronized
  have hown : s.vm.findClass RX7 = some m.cls := findClass_of_methodNamed B.named
  obtain ⟨hT, hK, hST, hB0⟩ := id hSW
  have hS : va_S (zA z) s.heap s.heap [] := va_S.rf
  have hl := lv_entry ([.ref (ad 0 0), .int x1, .int x2, .int x3]) (n := 5) (Nat.le_of_ble_eq_true rfl)
  rw [lg_entry_eq]
  generalize (lg_sl ([.ref (ad 0 0), .int x1, .int x2, .int x3]) ++ List.replicate (5 - (lg_sl ([.ref (ad 0 0), .int x1, .int x2, .int x3])).length) Slot.unset).toArray = ls at hl ⊢
  have hl : lv_has ls 5 [(0, .ref (ad 0 0)), (1, .int x1), (2, .int x2), (3, .int x3)] := hl
  unfold f_X7_phrase at h
  refine lv_iload_n hx hb dX7_phrase_0 rfl (lv_at hl 1 rfl) ?_
  obtain ⟨r1, u3, h2, h⟩ := xb_s h
  refine nb_cv (nb_runS (As := [.int x1]) (rest := []) hx hb hml hown hSW hS hW (c_X7_requireSection l z ad N X u x1 h2) mf_X7_requireSection lk_X7_76 rfl ⟨rfl, rfl⟩ ⟨Nat.le_of_ble_eq_true rfl, Nat.le_of_ble_eq_true rfl⟩ hl.1 (Nat.le_of_ble_eq_true rfl) dX7_phrase_1 ⟨Nat.le_of_ble_eq_true rfl, Nat.le_of_ble_eq_true rfl⟩) hS (fun H locs (hW : GW z ad (GC z ad N X u3) H) hS => ?_)
  refine lv_iload_n hx hb dX7_phrase_4 rfl (lv_at hl 2 rfl) ?_
  refine lv_iload_n hx hb dX7_phrase_5 rfl (lv_at hl 3 rfl) ?_
  obtain ⟨r4, u6, h5, h⟩ := xb_s h
  refine nb_cv (nb_runS (As := [.int x2, .int x3]) (rest := []) hx hb hml hown hSW hS hW (c_X7_requirePhraseWords l z ad N X u3 x2 x3 h5) mf_X7_requirePhraseWords lk_X7_130 rfl ⟨rfl, rfl⟩ ⟨Nat.le_of_ble_eq_true rfl, Nat.le_of_ble_eq_true rfl⟩ hl.1 (Nat.le_of_ble_eq_true rfl) dX7_phrase_6 ⟨Nat.le_of_ble_eq_true rfl, Nat.le_of_ble_eq_true rfl⟩) hS (fun H locs (hW : GW z ad (GC z ad N X u6) H) hS => ?_)
  refine lv_aload_n hx hb dX7_phrase_9 rfl (lv_at hl 0 rfl) ?_
  refine nb_get hx hb hT hK hown hW fl_X7_133 kr_0 (v := .int (u6 1 0 0)) rfl dX7_phrase_10 ?_
  refine lv_bipush (v := 8) hx hb dX7_phrase_13 (by decide) ?_
  refine lv_icmp_lt (tgt := 28) hx hb dX7_phrase_15 (by decide) (fun c7 => ?_) (fun c7 => ?_)
  · replace h := ite_t h c7
    refine lv_aload_n hx hb dX7_phrase_28 rfl (lv_at hl 0 rfl) ?_
    refine nb_get hx hb hT hK hown hW fl_X7_133 kr_0 (v := .int (u6 1 0 0)) rfl dX7_phrase_29 ?_
    refine lv_topi (fun v8 ev8 => ?_)
    replace h := nm_at ev8 h
    refine lv_istore (lv' := [(4, .int v8), (0, .ref (ad 0 0)), (1, .int x1), (2, .int x2), (3, .int x3)]) hx hb dX7_phrase_32 hl (by decide) rfl (fun ls hl => ?_)
    refine lv_aload_n hx hb dX7_phrase_34 rfl (lv_at hl 1 rfl) ?_
    refine nb_get hx hb hT hK hown hW fl_X7_17 kr_0 (v := .ref (ad 2 0)) rfl dX7_phrase_35 ?_
    refine lv_iload hx hb dX7_phrase_38 (lv_at hl 0 rfl) ?_
    obtain ⟨g09, h⟩ := gd_s h
    refine nb_new (fs := [.int 0, .int 0, .int 0, .int 0]) hx hb hSW hown hA hW hS nw_X7_15 tyX4 tyX4_ok (fun j hj => by rcases (show j = 0 ∨ j = 1 ∨ j = 2 ∨ j = 3 by omega) with rfl | rfl | rfl | rfl <;> rfl) ⟨Nat.le_of_ble_eq_true rfl, Nat.le_of_ble_eq_true rfl⟩ dX7_phrase_40 (fun b9 H G2 hnb hE hcb hW hS => ?_)
    refine lv_dup hx hb dX7_phrase_43 rfl ?_
    refine lv_iload_n hx hb dX7_phrase_44 rfl (lv_at hl 2 rfl) ?_
    refine lv_iload_n hx hb dX7_phrase_45 rfl (lv_at hl 3 rfl) ?_
    refine lv_iload_n hx hb dX7_phrase_46 rfl (lv_at hl 4 rfl) ?_
    refine va_callv (nb_runI (As := [.int x1, .int x2, .int x3]) (rest := [.ref b9, .int v8, .ref (ad 2 0)]) hx hb hml hown hSW hS hW (c_X4_init l z ad G2 hA b9 x1 x2 x3 hcb) mf_X4_init lk_X7_138 rfl ⟨rfl, rfl⟩ ⟨Nat.le_of_ble_eq_true rfl, Nat.le_of_ble_eq_true rfl⟩ hl.1 (Nat.le_of_ble_eq_true rfl) dX7_phrase_47 ⟨Nat.le_of_ble_eq_true rfl, Nat.le_of_ble_eq_true rfl⟩) hS (fun _ _ h => h) (fun _ h => h) (fun u9_ t9 H locs ht9 _ hp9 hW9 _ _ hS => ?_)
    obtain ⟨hu9, hJ⟩ := hp9
    rw [hu9] at hJ
    subst ht9
    obtain ⟨G3, _⟩ := u9_
    replace hW : GW z ad G3 t9.heap := hW9
    have hg1 : G3 2 0 = some _ := hJ.1 _ _ _ (by simp) (hE _ _ _ (kr_2 (z := z) (ad := ad) (N := N) (X := X) (s := u6)))
    refine nb_aastr (r := (RX4, TX4, 4)) hA hx hb hK hW hS 3 hg1 rfl hJ.2.1 rfl (inb_in g09.1) dX7_phrase_50 (fun H locs hW hS => ?_)
    rw [show (v8 : Int32).toNatClampNeg = N 14 from g09.2] at hW
    refine lv_aload_n hx hb dX7_phrase_51 rfl (lv_at hl 1 rfl) ?_
    refine lv_dup hx hb dX7_phrase_52 rfl ?_
    have hg0 : ∀ e9, up2 G3 2 0 e9 0 0 = some _ := fun e9 => (up2_ne (by simp)).trans (hJ.1 _ _ _ (by simp) (hE _ _ _ (kr_0 (z := z) (ad := ad) (N := N) (X := X) (s := u6))))
    refine nb_get hx hb hT hK hown hW fl_X7_133 (hg0 _) (v := .int (u6 1 0 0)) rfl dX7_phrase_53 ?_
    refine lv_iconst (v := 1) hx hb dX7_phrase_56 (by decide) ?_
    refine lv_iadd hx hb dX7_phrase_57 ?_
    refine nb_put hx hb hT hK hown hW hS fl_X7_133 tyX7 tyX7_ok nmX7 (hg0 _) (v := .int ((u6 1 0 0) + 1)) rfl rfl rfl (Nat.le_of_ble_eq_true rfl) rfl dX7_phrase_58 (fun H locs hW hS => ?_)
    obtain ⟨ad2, hd, hW⟩ := mkPhr_w hA hnb hE hJ (by have h1 := inb_lt g09.1; rw [g09.2] at h1; exact h1) hW
    obtain ⟨u10, eu10, h⟩ := nm_s h
    rw [← eu10] at hW
    rw [← hd 0 0 (by simp)] at hl
    obtain ⟨ad, hd9⟩ : ∃ q : Ad, q = ad2 := ⟨_, rfl⟩
    rw [← hd9] at hl hW hd
    obtain ⟨N, hN9⟩ : ∃ q : Nt, q = Nup N 14 := ⟨_, rfl⟩
    rw [← hN9] at hW
    refine lv_iload hx hb dX7_phrase_61 (lv_at hl 0 rfl) ?_
    subst hN9
    exact ne_mret (GN := fun ad u => GC z ad (Nup _ 14) X u) hx hb hr rfl hlocks hW hS dX7_phrase_63 h (fun a b hq => by rw [hd a b hq])
  · replace h := ite_f h c7
    exact absurd h (by intro q; cases q)
/-- Panyard.requirePhrase -/
def f_X7_requirePhrase (N : Nt) (u : St) (x1 : Int32) : Option (Except String Unit × St) :=
  sb (f_X7_isWithin N u x1 0 ((u 1 0 0) - 1)) fun r1 u3 =>
  if r1 = 0 then
    some (.error "java/lang/IndexOutOfBoundsException", u3)
  else
    some (.ok (), u3)
set_option maxRecDepth 100000 in
set_option maxHeartbeats 4000000 in
theorem c_X7_requirePhrase (l : Launch) (z : Zt) (ad : Ad) (N : Nt) (X : Gt) (u : St) (x1 : Int32) {r9 : Unit} {u9 : St} (h : f_X7_requirePhrase N u x1 = some (.ok r9, u9)) : MC l z yX7_requirePhrase cX7_requirePhrase 2 none { frames := 1, cells := 0, slots := 0, locals := 22 } 0 0 [.ref (ad 0 0), .int x1] ad (GC z ad N X u) (QV z ad (GC z ad N X u9)) := by
  refine Met.ofW (cc := cX7_requirePhrase) (maxL := 2) (ret := none) (by decide) rfl ?_
  intro p e s m args below meth c s₁ B hml hv
  obtain ⟨rfl, hSW, hW⟩ := hv
  have hx := B.exec; have hb := B.bytes; have hr := B.returns; have hlocks := B.notSynchronized
  have hown : s.vm.findClass RX7 = some m.cls := findClass_of_methodNamed B.named
  obtain ⟨hT, hK, hST, hB0⟩ := id hSW
  have hS : va_S (zA z) s.heap s.heap [] := va_S.rf
  have hl := lv_entry ([.ref (ad 0 0), .int x1]) (n := 2) (Nat.le_of_ble_eq_true rfl)
  rw [lg_entry_eq]
  generalize (lg_sl ([.ref (ad 0 0), .int x1]) ++ List.replicate (2 - (lg_sl ([.ref (ad 0 0), .int x1])).length) Slot.unset).toArray = ls at hl ⊢
  have hl : lv_has ls 2 [(0, .ref (ad 0 0)), (1, .int x1)] := hl
  unfold f_X7_requirePhrase at h
  refine lv_iload_n hx hb dX7_requirePhrase_0 rfl (lv_at hl 1 rfl) ?_
  refine lv_iconst (v := 0) hx hb dX7_requirePhrase_1 (by decide) ?_
  refine lv_aload_n hx hb dX7_requirePhrase_2 rfl (lv_at hl 0 rfl) ?_
  refine nb_get hx hb hT hK hown hW fl_X7_133 kr_0 (v := .int (u 1 0 0)) rfl dX7_requirePhrase_3 ?_
  refine lv_iconst (v := 1) hx hb dX7_requirePhrase_6 (by decide) ?_
  refine lv_isub hx hb dX7_requirePhrase_7 ?_
  obtain ⟨r1, u3, h2, h⟩ := sb_s h
  refine nb_ci (nb_runS (As := [.int x1, .int 0, .int ((u 1 0 0) - 1)]) (rest := []) hx hb hml hown hSW hS hW (c_X7_isWithin l z ad N X u x1 0 ((u 1 0 0) - 1) h2) mf_X7_isWithin lk_X7_96 rfl ⟨rfl, rfl⟩ ⟨Nat.le_of_ble_eq_true rfl, Nat.le_of_ble_eq_true rfl⟩ hl.1 (Nat.le_of_ble_eq_true rfl) dX7_requirePhrase_8 ⟨Nat.le_of_ble_eq_true rfl, Nat.le_of_ble_eq_true rfl⟩) hS (fun H locs (hW : GW z ad (GC z ad N X u3) H) hS => ?_)
  refine lv_if_ne (tgt := 25) hx hb dX7_requirePhrase_11 (by decide) (fun c4 => ?_) (fun c4 => ?_)
  · replace h := ite_f h c4
    exact ne_vretX hx hb hr hlocks hW hS dX7_requirePhrase_25 h
  · replace h := ite_t h c4
    exact absurd h (by intro q; cases q)
/-- Panyard$Phrase.tellAnew -/
def f_X4_tellAnew (N : Nt) (u : St) (k0 : Nat) (x1 : Int32) (x2 : Int32) : Option (Unit × St) :=
  nm (sset u 21 k0 0 x1) fun u1 =>
  nm (sset u1 22 k0 0 x2) fun u2 =>
  nm (sset u2 23 k0 0 ((u2 23 k0 0) + 1)) fun u3 =>
  some ((), u3)
set_option maxRecDepth 100000 in
set_option maxHeartbeats 4000000 in
theorem c_X4_tellAnew (l : Launch) (z : Zt) (ad : Ad) (N : Nt) (X : Gt) (u : St) (k0 : Nat) (x1 : Int32) (x2 : Int32) (hk0 : k0 < N 14) {r9 : Unit} {u9 : St} (h : f_X4_tellAnew N u k0 x1 x2 = some (r9, u9)) : MC l z yX4_tellAnew cX4_tellAnew 3 none { frames := 0, cells := 0, slots := 0, locals := 0 } 0 0 [.ref (ad 14 k0), .int x1, .int x2] ad (GC z ad N X u) (QV z ad (GC z ad N X u9)) := by
  refine Met.ofW (cc := cX4_tellAnew) (maxL := 3) (ret := none) (by decide) rfl ?_
  intro p e s m args below meth c s₁ B hml hv
  obtain ⟨rfl, hSW, hW⟩ := hv
  have hx := B.exec; have hb := B.bytes; have hr := B.returns; have hlocks := B.notSynchronized
  have hown : s.vm.findClass RX4 = some m.cls := findClass_of_methodNamed B.named
  obtain ⟨hT, hK, hST, hB0⟩ := id hSW
  have hS : va_S (zA z) s.heap s.heap [] := va_S.rf
  have hl := lv_entry ([.ref (ad 14 k0), .int x1, .int x2]) (n := 3) (Nat.le_of_ble_eq_true rfl)
  rw [lg_entry_eq]
  generalize (lg_sl ([.ref (ad 14 k0), .int x1, .int x2]) ++ List.replicate (3 - (lg_sl ([.ref (ad 14 k0), .int x1, .int x2])).length) Slot.unset).toArray = ls at hl ⊢
  have hl : lv_has ls 3 [(0, .ref (ad 14 k0)), (1, .int x1), (2, .int x2)] := hl
  unfold f_X4_tellAnew at h
  refine lv_aload_n hx hb dX4_tellAnew_0 rfl (lv_at hl 0 rfl) ?_
  refine lv_iload_n hx hb dX4_tellAnew_1 rfl (lv_at hl 1 rfl) ?_
  obtain ⟨u1, eu1, h⟩ := nm_s h
  refine nb_put hx hb hT hK hown hW hS fl_X4_13 tyX4 tyX4_ok nmX4 (kr_14 hk0) (v := .int x1) rfl rfl rfl (Nat.le_of_ble_eq_true rfl) ((gp_21 hk0).trans (congrArg (GC z ad N X) eu1.symm)) dX4_tellAnew_2 (fun H locs hW hS => ?_)
  refine lv_aload_n hx hb dX4_tellAnew_5 rfl (lv_at hl 0 rfl) ?_
  refine lv_iload_n hx hb dX4_tellAnew_6 rfl (lv_at hl 2 rfl) ?_
  obtain ⟨u2, eu2, h⟩ := nm_s h
  refine nb_put hx hb hT hK hown hW hS fl_X4_16 tyX4 tyX4_ok nmX4 (kr_14 hk0) (v := .int x2) rfl rfl rfl (Nat.le_of_ble_eq_true rfl) ((gp_22 hk0).trans (congrArg (GC z ad N X) eu2.symm)) dX4_tellAnew_7 (fun H locs hW hS => ?_)
  refine lv_aload_n hx hb dX4_tellAnew_10 rfl (lv_at hl 0 rfl) ?_
  refine lv_dup hx hb dX4_tellAnew_11 rfl ?_
  refine nb_get hx hb hT hK hown hW fl_X4_19 (kr_14 hk0) (v := .int (u2 23 k0 0)) rfl dX4_tellAnew_12 ?_
  refine lv_iconst (v := 1) hx hb dX4_tellAnew_15 (by decide) ?_
  refine lv_iadd hx hb dX4_tellAnew_16 ?_
  obtain ⟨u3, eu3, h⟩ := nm_s h
  refine nb_put hx hb hT hK hown hW hS fl_X4_19 tyX4 tyX4_ok nmX4 (kr_14 hk0) (v := .int ((u2 23 k0 0) + 1)) rfl rfl rfl (Nat.le_of_ble_eq_true rfl) ((gp_23 hk0).trans (congrArg (GC z ad N X) eu3.symm)) dX4_tellAnew_17 (fun H locs hW hS => ?_)
  exact ne_vret hx hb hr hlocks hW hS dX4_tellAnew_20 h
/-- java/lang/Integer.bitCount -/
def f_J6_bitCount_0f7a4 (N : Nt) (u : St) (x0 : Int32) : Option (Int32 × St) :=
  nm (iush x0 1) fun v1 =>
  nm (x0 - (v1 &&& 1431655765)) fun v2 =>
  nm (iush v2 2) fun v3 =>
  nm ((v2 &&& 858993459) + (v3 &&& 858993459)) fun v4 =>
  nm (iush v4 4) fun v5 =>
  nm ((v4 + v5) &&& 252645135) fun v6 =>
  nm (iush v6 8) fun v7 =>
  nm (v6 + v7) fun v8 =>
  nm (iush v8 16) fun v09 =>
  nm (v8 + v09) fun v10 =>
  some ((v10 &&& 63), u)
set_option maxRecDepth 100000 in
set_option maxHeartbeats 4000000 in
theorem c_J6_bitCount_0f7a4 (l : Launch) (z : Zt) (ad : Ad) (N : Nt) (X : Gt) (u : St) (x0 : Int32) {r9 : Int32} {u9 : St} (h : f_J6_bitCount_0f7a4 N u x0 = some (r9, u9)) : MC l z yJ6_bitCount_0f7a4 cJ6_bitCount_0f7a4 1 (some .int) { frames := 0, cells := 0, slots := 0, locals := 0 } 0 0 [.int x0] ad (GC z ad N X u) (QI z ad (GC z ad N X u9) r9) := by
  refine Met.ofW (cc := cJ6_bitCount_0f7a4) (maxL := 1) (ret := (some .int)) (by decide) rfl ?_
  intro p e s m args below meth c s₁ B hml hv
  obtain ⟨rfl, hSW, hW⟩ := hv
  have hx := B.exec; have hb := B.bytes; have hr := B.returns; have hlocks := B.notSynchronized
  have hown : s.vm.findClass RJ6 = some m.cls := findClass_of_methodNamed B.named
  obtain ⟨hT, hK, hST, hB0⟩ := id hSW
  have hS : va_S (zA z) s.heap s.heap [] := va_S.rf
  have hl := lv_entry ([.int x0]) (n := 1) (Nat.le_of_ble_eq_true rfl)
  rw [lg_entry_eq]
  generalize (lg_sl ([.int x0]) ++ List.replicate (1 - (lg_sl ([.int x0])).length) Slot.unset).toArray = ls at hl ⊢
  have hl : lv_has ls 1 [(0, .int x0)] := hl
  unfold f_J6_bitCount_0f7a4 at h
  refine lv_iload_n hx hb dJ6_bitCount_0f7a4_0 rfl (lv_at hl 0 rfl) ?_
  refine lv_iload_n hx hb dJ6_bitCount_0f7a4_1 rfl (lv_at hl 0 rfl) ?_
  refine lv_iconst (v := 1) hx hb dJ6_bitCount_0f7a4_2 (by decide) ?_
  refine lv_iushr hx hb dJ6_bitCount_0f7a4_3 rfl ?_
  refine lv_topi (fun v1 ev1 => ?_)
  replace h := nm_at ev1 h
  refine lv_ldcw (v := 1431655765) hx hb hown (hT.use (List.mem_of_getElem? (i := 326) (by decide +kernel)) rfl) dJ6_bitCount_0f7a4_4 ?_
  refine lv_iand hx hb dJ6_bitCount_0f7a4_7 ?_
  refine lv_isub hx hb dJ6_bitCount_0f7a4_8 ?_
  refine lv_topi (fun v2 ev2 => ?_)
  replace h := nm_at ev2 h
  refine lv_istore_n (lv' := [(0, .int v2)]) hx hb dJ6_bitCount_0f7a4_9 rfl hl (by decide) rfl (fun ls hl => ?_)
  refine lv_iload_n hx hb dJ6_bitCount_0f7a4_10 rfl (lv_at hl 0 rfl) ?_
  refine lv_ldcw (v := 858993459) hx hb hown (hT.use (List.mem_of_getElem? (i := 327) (by decide +kernel)) rfl) dJ6_bitCount_0f7a4_11 ?_
  refine lv_iand hx hb dJ6_bitCount_0f7a4_14 ?_
  refine lv_iload_n hx hb dJ6_bitCount_0f7a4_15 rfl (lv_at hl 0 rfl) ?_
  refine lv_iconst (v := 2) hx hb dJ6_bitCount_0f7a4_16 (by decide) ?_
  refine lv_iushr hx hb dJ6_bitCount_0f7a4_17 rfl ?_
  refine lv_topi (fun v3 ev3 => ?_)
  replace h := nm_at ev3 h
  refine lv_ldcw (v := 858993459) hx hb hown (hT.use (List.mem_of_getElem? (i := 327) (by decide +kernel)) rfl) dJ6_bitCount_0f7a4_18 ?_
  refine lv_iand hx hb dJ6_bitCount_0f7a4_21 ?_
  refine lv_iadd hx hb dJ6_bitCount_0f7a4_22 ?_
  refine lv_topi (fun v4 ev4 => ?_)
  replace h := nm_at ev4 h
  refine lv_istore_n (lv' := [(0, .int v4)]) hx hb dJ6_bitCount_0f7a4_23 rfl hl (by decide) rfl (fun ls hl => ?_)
  refine lv_iload_n hx hb dJ6_bitCount_0f7a4_24 rfl (lv_at hl 0 rfl) ?_
  refine lv_iload_n hx hb dJ6_bitCount_0f7a4_25 rfl (lv_at hl 0 rfl) ?_
  refine lv_iconst (v := 4) hx hb dJ6_bitCount_0f7a4_26 (by decide) ?_
  refine lv_iushr hx hb dJ6_bitCount_0f7a4_27 rfl ?_
  refine lv_topi (fun v5 ev5 => ?_)
  replace h := nm_at ev5 h
  refine lv_iadd hx hb dJ6_bitCount_0f7a4_28 ?_
  refine lv_ldcw (v := 252645135) hx hb hown (hT.use (List.mem_of_getElem? (i := 328) (by decide +kernel)) rfl) dJ6_bitCount_0f7a4_29 ?_
  refine lv_iand hx hb dJ6_bitCount_0f7a4_32 ?_
  refine lv_topi (fun v6 ev6 => ?_)
  replace h := nm_at ev6 h
  refine lv_istore_n (lv' := [(0, .int v6)]) hx hb dJ6_bitCount_0f7a4_33 rfl hl (by decide) rfl (fun ls hl => ?_)
  refine lv_iload_n hx hb dJ6_bitCount_0f7a4_34 rfl (lv_at hl 0 rfl) ?_
  refine lv_iload_n hx hb dJ6_bitCount_0f7a4_35 rfl (lv_at hl 0 rfl) ?_
  refine lv_bipush (v := 8) hx hb dJ6_bitCount_0f7a4_36 (by decide) ?_
  refine lv_iushr hx hb dJ6_bitCount_0f7a4_38 rfl ?_
  refine lv_topi (fun v7 ev7 => ?_)
  replace h := nm_at ev7 h
  refine lv_iadd hx hb dJ6_bitCount_0f7a4_39 ?_
  refine lv_topi (fun v8 ev8 => ?_)
  replace h := nm_at ev8 h
  refine lv_istore_n (lv' := [(0, .int v8)]) hx hb dJ6_bitCount_0f7a4_40 rfl hl (by decide) rfl (fun ls hl => ?_)
  refine lv_iload_n hx hb dJ6_bitCount_0f7a4_41 rfl (lv_at hl 0 rfl) ?_
  refine lv_iload_n hx hb dJ6_bitCount_0f7a4_42 rfl (lv_at hl 0 rfl) ?_
  refine lv_bipush (v := 16) hx hb dJ6_bitCount_0f7a4_43 (by decide) ?_
  refine lv_iushr hx hb dJ6_bitCount_0f7a4_45 rfl ?_
  refine lv_topi (fun v09 ev09 => ?_)
  replace h := nm_at ev09 h
  refine lv_iadd hx hb dJ6_bitCount_0f7a4_46 ?_
  refine lv_topi (fun v10 ev10 => ?_)
  replace h := nm_at ev10 h
  refine lv_istore_n (lv' := [(0, .int v10)]) hx hb dJ6_bitCount_0f7a4_47 rfl hl (by decide) rfl (fun ls hl => ?_)
  refine lv_iload_n hx hb dJ6_bitCount_0f7a4_48 rfl (lv_at hl 0 rfl) ?_
  refine lv_bipush (v := 63) hx hb dJ6_bitCount_0f7a4_49 (by decide) ?_
  refine lv_iand hx hb dJ6_bitCount_0f7a4_51 ?_
  exact ne_iret hx hb hr rfl hlocks hW hS dJ6_bitCount_0f7a4_52 h
/-- Panyard$Phrase.noteCount -/
def f_X4_noteCount (N : Nt) (u : St) (k0 : Nat) : Option (Int32 × St) :=
  sb (f_J6_bitCount_0f7a4 N u (u 22 k0 0)) fun r1 u3 =>
  some (r1, u3)
set_option maxRecDepth 100000 in
set_option maxHeartbeats 4000000 in
theorem c_X4_noteCount (l : Launch) (z : Zt) (ad : Ad) (N : Nt) (X : Gt) (u : St) (k0 : Nat) (hk0 : k0 < N 14) {r9 : Int32} {u9 : St} (h : f_X4_noteCount N u k0 = some (r9, u9)) : MC l z yX4_noteCount cX4_noteCount 1 (some .int) { frames := 1, cells := 0, slots := 0, locals := 20 } 0 0 [.ref (ad 14 k0)] ad (GC z ad N X u) (QI z ad (GC z ad N X u9) r9) := by
  refine Met.ofW (cc := cX4_noteCount) (maxL := 1) (ret := (some .int)) (by decide) rfl ?_
  intro p e s m args below meth c s₁ B hml hv
  obtain ⟨rfl, hSW, hW⟩ := hv
  have hx := B.exec; have hb := B.bytes; have hr := B.returns; have hlocks := B.notSynchronized
  have hown : s.vm.findClass RX4 = some m.cls := findClass_of_methodNamed B.named
  obtain ⟨hT, hK, hST, hB0⟩ := id hSW
  have hS : va_S (zA z) s.heap s.heap [] := va_S.rf
  have hl := lv_entry ([.ref (ad 14 k0)]) (n := 1) (Nat.le_of_ble_eq_true rfl)
  rw [lg_entry_eq]
  generalize (lg_sl ([.ref (ad 14 k0)]) ++ List.replicate (1 - (lg_sl ([.ref (ad 14 k0)])).length) Slot.unset).toArray = ls at hl ⊢
  have hl : lv_has ls 1 [(0, .ref (ad 14 k0))] := hl
  unfold f_X4_noteCount at h
  refine lv_aload_n hx hb dX4_noteCount_0 rfl (lv_at hl 0 rfl) ?_
  refine nb_get hx hb hT hK hown hW fl_X4_16 (kr_14 hk0) (v := .int (u 22 k0 0)) rfl dX4_noteCount_1 ?_
  obtain ⟨r1, u3, h2, h⟩ := sb_s h
  refine nb_ci (nb_runS (As := [.int (u 22 k0 0)]) (rest := []) hx hb hml hown hSW hS hW (c_J6_bitCount_0f7a4 l z ad N X u (u 22 k0 0) h2) mf_J6_bitCount_0f7a4 lk_X4_22 rfl ⟨rfl, rfl⟩ ⟨Nat.le_of_ble_eq_true rfl, Nat.le_of_ble_eq_true rfl⟩ hl.1 (Nat.le_of_ble_eq_true rfl) dX4_noteCount_4 ⟨Nat.le_of_ble_eq_true rfl, Nat.le_of_ble_eq_true rfl⟩) hS (fun H locs (hW : GW z ad (GC z ad N X u3) H) hS => ?_)
  exact ne_iret hx hb hr rfl hlocks hW hS dX4_noteCount_7 h
/-- Panyard$Player.mostMemory -/
def f_X5_mostMemory (N : Nt) (u : St) (k0 : Nat) (k1 : Nat) : Option (Int32 × St) :=
  sb (f_X4_noteCount N u k1) fun r1 u3 =>
  if r1 ≤ (u3 32 k0 0) then
    some (100, u3)
  else
    some (70, u3)
set_option maxRecDepth 100000 in
set_option maxHeartbeats 4000000 in
theorem c_X5_mostMemory (l : Launch) (z : Zt) (ad : Ad) (N : Nt) (X : Gt) (u : St) (k0 : Nat) (k1 : Nat) (hk0 : k0 < N 15) (hk1 : k1 < N 14) {r9 : Int32} {u9 : St} (h : f_X5_mostMemory N u k0 k1 = some (r9, u9)) : MC l z yX5_mostMemory cX5_mostMemory 2 (some .int) { frames := 2, cells := 0, slots := 0, locals := 40 } 0 0 [.ref (ad 15 k0), .ref (ad 14 k1)] ad (GC z ad N X u) (QI z ad (GC z ad N X u9) r9) := by
  refine Met.ofW (cc := cX5_mostMemory) (maxL := 2) (ret := (some .int)) (by decide) rfl ?_
  intro p e s m args below meth c s₁ B hml hv
  obtain ⟨rfl, hSW, hW⟩ := hv
  have hx := B.exec; have hb := B.bytes; have hr := B.returns; have hlocks := B.notSynchronized
  have hown : s.vm.findClass RX5 = some m.cls := findClass_of_methodNamed B.named
  obtain ⟨hT, hK, hST, hB0⟩ := id hSW
  have hS : va_S (zA z) s.heap s.heap [] := va_S.rf
  have hl := lv_entry ([.ref (ad 15 k0), .ref (ad 14 k1)]) (n := 2) (Nat.le_of_ble_eq_true rfl)
  rw [lg_entry_eq]
  generalize (lg_sl ([.ref (ad 15 k0), .ref (ad 14 k1)]) ++ List.replicate (2 - (lg_sl ([.ref (ad 15 k0), .ref (ad 14 k1)])).length) Slot.unset).toArray = ls at hl ⊢
  have hl : lv_has ls 2 [(0, .ref (ad 15 k0)), (1, .ref (ad 14 k1))] := hl
  unfold f_X5_mostMemory at h
  refine lv_aload_n hx hb dX5_mostMemory_0 rfl (lv_at hl 1 rfl) ?_
  obtain ⟨r1, u3, h2, h⟩ := sb_s h
  refine nb_ci (nb_runV (As := []) (rest := []) hx hb hml hown hSW hS hW (c_X4_noteCount l z ad N X u k1 hk1 h2) mf_X4_noteCount lk_X5_38 (kr_14 hk1) rfl rfl ⟨rfl, rfl⟩ ⟨Nat.le_of_ble_eq_true rfl, Nat.le_of_ble_eq_true rfl⟩ hl.1 (Nat.le_of_ble_eq_true rfl) dX5_mostMemory_1 ⟨Nat.le_of_ble_eq_true rfl, Nat.le_of_ble_eq_true rfl⟩) hS (fun H locs (hW : GW z ad (GC z ad N X u3) H) hS => ?_)
  refine lv_aload_n hx hb dX5_mostMemory_4 rfl (lv_at hl 0 rfl) ?_
  refine nb_get hx hb hT hK hown hW fl_X5_18 (kr_15 hk0) (v := .int (u3 32 k0 0)) rfl dX5_mostMemory_5 ?_
  refine lv_icmp_le (tgt := 16) hx hb dX5_mostMemory_8 (by decide) (fun c4 => ?_) (fun c4 => ?_)
  · replace h := ite_t h c4
    refine lv_bipush (v := 100) hx hb dX5_mostMemory_16 (by decide) ?_
    exact ne_iret hx hb hr rfl hlocks hW hS dX5_mostMemory_18 h
  · replace h := ite_f h c4
    refine lv_bipush (v := 70) hx hb dX5_mostMemory_11 (by decide) ?_
    refine lv_goto (tgt := 18) hx hb dX5_mostMemory_13 (by decide) ?_
    exact ne_iret hx hb hr rfl hlocks hW hS dX5_mostMemory_18 h
/-- Panyard$Minds.halve -/
def f_X2_halve (N : Nt) (u : St) (k0 : Nat) (x1 : Int32) (x2 : Int32) (x3 : Int32) : Option (Unit × St) :=
  gd (inb x1 8) <|
  gd (inb x2 8) <|
  nm (mmin x3 ((u 40 (8 * k0 + (ix x1)) (ix x2)) / 2)) fun v3 =>
  nm (sset u 40 (8 * k0 + (ix x1)) (ix x2) v3) fun u4 =>
  some ((), u4)
set_option maxRecDepth 100000 in
set_option maxHeartbeats 4000000 in
theorem c_X2_halve (l : Launch) (z : Zt) (ad : Ad) (N : Nt) (X : Gt) (u : St) (k0 : Nat) (x1 : Int32) (x2 : Int32) (x3 : Int32) (hk0 : k0 < 2) {r9 : Unit} {u9 : St} (h : f_X2_halve N u k0 x1 x2 x3 = some (r9, u9)) : MC l z yX2_halve cX2_halve 4 none { frames := 1, cells := 0, slots := 0, locals := 21 } 0 0 [.ref (ad 10 k0), .int x1, .int x2, .int x3] ad (GC z ad N X u) (QV z ad (GC z ad N X u9)) := by
  refine Met.ofW (cc := cX2_halve) (maxL := 4) (ret := none) (by decide) rfl ?_
  intro p e s m args below meth c s₁ B hml hv
  obtain ⟨rfl, hSW, hW⟩ := hv
  have hx := B.exec; have hb := B.bytes; have hr := B.returns; have hlocks := B.notSynchronized
  have hown : s.vm.findClass RX2 = some m.cls := findClass_of_methodNamed B.named
  obtain ⟨hT, hK, hST, hB0⟩ := id hSW
  have hS : va_S (zA z) s.heap s.heap [] := va_S.rf
  have hl := lv_entry ([.ref (ad 10 k0), .int x1, .int x2, .int x3]) (n := 4) (Nat.le_of_ble_eq_true rfl)
  rw [lg_entry_eq]
  generalize (lg_sl ([.ref (ad 10 k0), .int x1, .int x2, .int x3]) ++ List.replicate (4 - (lg_sl ([.ref (ad 10 k0), .int x1, .int x2, .int x3])).length) Slot.unset).toArray = ls at hl ⊢
  have hl : lv_has ls 4 [(0, .ref (ad 10 k0)), (1, .int x1), (2, .int x2), (3, .int x3)] := hl
  unfold f_X2_halve at h
  refine lv_aload_n hx hb dX2_halve_0 rfl (lv_at hl 0 rfl) ?_
  refine nb_get hx hb hT hK hown hW fl_X2_11 (kr_10 hk0) (v := .ref (ad 11 k0)) rfl dX2_halve_1 ?_
  refine lv_iload_n hx hb dX2_halve_4 rfl (lv_at hl 1 rfl) ?_
  obtain ⟨g1, h⟩ := gd_s h
  refine nb_aald hx hb hK hW 1 (kr_11 hk0) rfl rfl (inb_in g1) (a := ad 20 (8 * k0 + (ix x1))) (qrow_at (inb_lt g1)) dX2_halve_5 ?_
  refine lv_iload_n hx hb dX2_halve_6 rfl (lv_at hl 2 rfl) ?_
  refine lv_iload_n hx hb dX2_halve_7 rfl (lv_at hl 3 rfl) ?_
  refine lv_aload_n hx hb dX2_halve_8 rfl (lv_at hl 0 rfl) ?_
  refine nb_get hx hb hT hK hown hW fl_X2_11 (kr_10 hk0) (v := .ref (ad 11 k0)) rfl dX2_halve_9 ?_
  refine lv_iload_n hx hb dX2_halve_12 rfl (lv_at hl 1 rfl) ?_
  refine nb_aald hx hb hK hW 1 (kr_11 hk0) rfl rfl (inb_in g1) (a := ad 20 (8 * k0 + (ix x1))) (qrow_at (inb_lt g1)) dX2_halve_13 ?_
  refine lv_iload_n hx hb dX2_halve_14 rfl (lv_at hl 2 rfl) ?_
  obtain ⟨g2, h⟩ := gd_s h
  refine nb_iald hx hb hK hW 0 (kr_20 (row_lt hk0 (inb_lt g1))) rfl (inb_in g2) dX2_halve_15 ?_
  refine lv_iconst (v := 2) hx hb dX2_halve_16 (by decide) ?_
  refine lv_idiv hx hb dX2_halve_17 (by decide) ?_
  refine nb_mmin hx hb hml hl.1 hown hT lm_X2_26 mf_Math_min ⟨Nat.le_of_ble_eq_true rfl, Nat.le_of_ble_eq_true rfl⟩ ⟨Nat.le_of_ble_eq_true rfl, Nat.le_of_ble_eq_true rfl⟩ dX2_halve_18 ?_
  refine lv_topi (fun v3 ev3 => ?_)
  replace h := nm_at ev3 h
  obtain ⟨u4, eu4, h⟩ := nm_s h
  refine nb_iast hx hb hK hW hS 0 (kr_20 (row_lt hk0 (inb_lt g1))) rfl (inb_in g2) ((gp_40 (row_lt hk0 (inb_lt g1))).trans (congrArg (GC z ad N X) eu4.symm)) dX2_halve_21 (fun H locs hW hS => ?_)
  exact ne_vret hx hb hr hlocks hW hS dX2_halve_22 h
/-- Panyard.change -/
def f_X7_change_L28b (N : Nt) (ih28 : Int32 → Nat → Int32 → St → Option (Except String Int32 × St)) (y5 : Int32) (q4 : Nat) (y1 : Int32) (u : St) : Option (Except String Int32 × St) :=
  if (u 2 0 0) ≤ y5 then
    some (.ok (u 23 q4 0), u)
  else
    gd (inb y5 8) <|
    gd ((ix y5) < N 15) <|
    sb (f_X5_mostMemory N u (ix y5) q4) fun r15 u17 =>
    sb (f_X2_halve N u17 0 y5 y1 r15) fun r18 u20 =>
    nm (y5 + 1) fun v21 =>
    ih28 v21 q4 y1 u20
def f_X7_change_L28 (N : Nt) : Nat → Int32 → Nat → Int32 → St → Option (Except String Int32 × St) := lp (fun _ _ _ _ => none) (f_X7_change_L28b N)
def f_X7_change (N : Nt) (u : St) (x1 : Int32) (x2 : Int32) (x3 : Int32) : Option (Except String Int32 × St) :=
  xb (f_X7_requirePhrase N u x1) fun r1 u3 =>
  xb (f_X7_requirePhraseWords N u3 x2 x3) fun r4 u6 =>
  gd (inb x1 8) <|
  gd ((ix x1) < N 14) <|
  sb (f_X4_tellAnew N u6 (ix x1) x2 x3) fun r09 u11 =>
  f_X7_change_L28 N 1000000 0 (ix x1) x1 u11
set_option maxRecDepth 100000 in
set_option maxHeartbeats 4000000 in
theorem c_X7_change (l : Launch) (z : Zt) (ad : Ad) (N : Nt) (X : Gt) (u : St) (x1 : Int32) (x2 : Int32) (x3 : Int32) {r9 : Int32} {u9 : St} (h : f_X7_change N u x1 x2 x3 = some (.ok r9, u9)) : MC l z yX7_change cX7_change 6 (some .int) { frames := 3, cells := 0, slots := 0, locals := 61 } 0 0 [.ref (ad 0 0), .int x1, .int x2, .int x3] ad (GC z ad N X u) (QI z ad (GC z ad N X u9) r9) := by
  refine Met.ofW (cc := cX7_change) (maxL := 6) (ret := (some .int)) (by decide) rfl ?_
  intro p e s m args below meth c s₁ B hml hv
  obtain ⟨rfl, hSW, hW⟩ := hv
  have hx := B.exec; have hb := B.bytes; have hr := B.returns; have hlocks := B.notSynchronized
  have hown : s.vm.findClass RX7 = some m.cls := findClass_of_methodNamed B.named
  obtain ⟨hT, hK, hST, hB0⟩ := id hSW
  have hS : va_S (zA z) s.heap s.heap [] := va_S.rf
  have hl := lv_entry ([.ref (ad 0 0), .int x1, .int x2, .int x3]) (n := 6) (Nat.le_of_ble_eq_true rfl)
  rw [lg_entry_eq]
  generalize (lg_sl ([.ref (ad 0 0), .int x1, .int x2, .int x3]) ++ List.replicate (6 - (lg_sl ([.ref (ad 0 0), .int x1, .int x2, .int x3])).length) Slot.unset).toArray = ls at hl ⊢
  have hl : lv_has ls 6 [(0, .ref (ad 0 0)), (1, .int x1), (2, .int x2), (3, .int x3)] := hl
  let WW : Heap → List Loc → JFrame → Prop := fun H locs g => W p l e (headSpec [Cond.code yX7_change cX7_change 6 (some .int)] { frames := 3, cells := 0, slots := 0, locals := 61 }).room s m [.ref (ad 0 0), .int x1, .int x2, .int x3].toArray below meth c H locs 0 0 (MQ below (QI z ad (GC z ad N X u9) r9) [.ref (ad 0 0), .int x1, .int x2, .int x3].toArray s 0 0 (zA z)) g
  have hL28b : ∀ (ih28 : Int32 → Nat → Int32 → St → Option (Except String Int32 × St)) (hih28 : ∀ (y5 : Int32) (q4 : Nat) (y1 : Int32) (u : St) (H : Heap) (locs : List Loc) (ls : Array Slot), q4 < N 14 → lv_has ls 6 [(5, .int y5), (4, .ref (ad 14 q4)), (0, .ref (ad 0 0)), (1, .int y1)] → GW z ad (GC z ad N X u) H → va_S (zA z) s.heap H locs → ih28 y5 q4 y1 u = some (.ok r9, u9) → WW H locs (F0 m 28 ls [])), ∀ (y5 : Int32) (q4 : Nat) (y1 : Int32) (u : St) (H : Heap) (locs : List Loc) (ls : Array Slot), q4 < N 14 → lv_has ls 6 [(5, .int y5), (4, .ref (ad 14 q4)), (0, .ref (ad 0 0)), (1, .int y1)] → GW z ad (GC z ad N X u) H → va_S (zA z) s.heap H locs → f_X7_change_L28b N ih28 y5 q4 y1 u = some (.ok r9, u9) → WW H locs (F0 m 28 ls []) := by
    intro ih28 hih28 y5 q4 y1 u H locs ls hq4 hl hW hS h
    change W p l e _ s m _ below meth c H locs 0 0 _ (F0 m 28 ls [])
    unfold f_X7_change_L28b at h
    refine lv_iload hx hb dX7_change_28 (lv_at hl 0 rfl) ?_
    refine lv_aload_n hx hb dX7_change_30 rfl (lv_at hl 2 rfl) ?_
    refine nb_get hx hb hT hK hown hW fl_X7_147 kr_0 (v := .int (u 2 0 0)) rfl dX7_change_31 ?_
    refine lv_icmp_ge (tgt := 65) hx hb dX7_change_34 (by decide) (fun c12 => ?_) (fun c12 => ?_)
    · replace h := ite_t h c12
      refine lv_aload hx hb dX7_change_65 (lv_at hl 1 rfl) ?_
      refine nb_get hx hb hT hK hown hW fl_X7_157 (kr_14 hq4) (v := .int (u 23 q4 0)) rfl dX7_change_67 ?_
      exact ne_iretX hx hb hr rfl hlocks hW hS dX7_change_70 h
    · replace h := ite_f h c12
      refine lv_aload_n hx hb dX7_change_37 rfl (lv_at hl 2 rfl) ?_
      refine nb_get hx hb hT hK hown hW fl_X7_37 kr_0 (v := .ref (ad 10 0)) rfl dX7_change_38 ?_
      refine lv_iload hx hb dX7_change_41 (lv_at hl 0 rfl) ?_
      refine lv_iload_n hx hb dX7_change_43 rfl (lv_at hl 3 rfl) ?_
      refine lv_aload_n hx hb dX7_change_44 rfl (lv_at hl 2 rfl) ?_
      refine nb_get hx hb hT hK hown hW fl_X7_23 kr_0 (v := .ref (ad 3 0)) rfl dX7_change_45 ?_
      refine lv_iload hx hb dX7_change_48 (lv_at hl 0 rfl) ?_
      obtain ⟨g13, h⟩ := gd_s h
      obtain ⟨g14, h⟩ := gd_s h
      refine nb_aald hx hb hK hW 4 kr_3 rfl rfl (inb_in g13) (a := ad 15 (ix y5)) (qrow_at g14) dX7_change_50 ?_
      refine lv_aload hx hb dX7_change_51 (lv_at hl 1 rfl) ?_
      obtain ⟨r15, u17, h16, h⟩ := sb_s h
      refine nb_ci (nb_runV (As := [.ref (ad 14 q4)]) (rest := [.int y1, .int y5, .ref (ad 10 0)]) hx hb hml hown hSW hS hW (c_X5_mostMemory l z ad N X u (ix y5) q4 g14 hq4 h16) mf_X5_mostMemory lk_X7_150 (kr_15 g14) rfl rfl ⟨rfl, rfl⟩ ⟨Nat.le_of_ble_eq_true rfl, Nat.le_of_ble_eq_true rfl⟩ hl.1 (Nat.le_of_ble_eq_true rfl) dX7_change_53 ⟨Nat.le_of_ble_eq_true rfl, Nat.le_of_ble_eq_true rfl⟩) hS (fun H locs (hW : GW z ad (GC z ad N X u17) H) hS => ?_)
      obtain ⟨r18, u20, h19, h⟩ := sb_s h
      refine nb_cv (nb_runV (As := [.int y5, .int y1, .int r15]) (rest := []) hx hb hml hown hSW hS hW (c_X2_halve l z ad N X u17 0 y5 y1 r15 (by decide) h19) mf_X2_halve lk_X7_154 (kr_10 (by decide)) rfl rfl ⟨rfl, rfl⟩ ⟨Nat.le_of_ble_eq_true rfl, Nat.le_of_ble_eq_true rfl⟩ hl.1 (Nat.le_of_ble_eq_true rfl) dX7_change_56 ⟨Nat.le_of_ble_eq_true rfl, Nat.le_of_ble_eq_true rfl⟩) hS (fun H locs (hW : GW z ad (GC z ad N X u20) H) hS => ?_)
      obtain ⟨v21, ev21, h⟩ := nm_s h
      refine lv_iinc (v := v21) (lv' := [(5, .int v21), (4, .ref (ad 14 q4)), (0, .ref (ad 0 0)), (1, .int y1)]) hx hb dX7_change_59 hl (k := 0) rfl (by rw [ev21]; rfl) (by decide) rfl (fun ls hl => ?_)
      refine lv_goto (tgt := 28) hx hb dX7_change_62 (by decide) ?_
      exact hih28 _ _ _ _ _ _ _ hq4 (lv_sub hl [0, 1, 2, 3] rfl) hW hS h
  have hL28 : ∀ (n : Nat), ∀ (y5 : Int32) (q4 : Nat) (y1 : Int32) (u : St) (H : Heap) (locs : List Loc) (ls : Array Slot), q4 < N 14 → lv_has ls 6 [(5, .int y5), (4, .ref (ad 14 q4)), (0, .ref (ad 0 0)), (1, .int y1)] → GW z ad (GC z ad N X u) H → va_S (zA z) s.heap H locs → f_X7_change_L28 N n y5 q4 y1 u = some (.ok r9, u9) → WW H locs (F0 m 28 ls []) := by
    intro n
    induction n with
    | zero => intro y5 q4 y1 u H locs ls hq4 hl hW hS h; exact absurd h (by intro q; cases q)
    | succ n ihn => intro y5 q4 y1 u H locs ls hq4 hl hW hS h; exact hL28b (f_X7_change_L28 N n) ihn y5 q4 y1 u H locs ls hq4 hl hW hS h
  unfold f_X7_change at h
  refine lv_aload_n hx hb dX7_change_0 rfl (lv_at hl 0 rfl) ?_
  refine lv_iload_n hx hb dX7_change_1 rfl (lv_at hl 1 rfl) ?_
  obtain ⟨r1, u3, h2, h⟩ := xb_s h
  refine nb_cv (nb_runV (As := [.int x1]) (rest := []) hx hb hml hown hSW hS hW (c_X7_requirePhrase l z ad N X u x1 h2) mf_X7_requirePhrase lk_X7_141 kr_0 rfl rfl ⟨rfl, rfl⟩ ⟨Nat.le_of_ble_eq_true rfl, Nat.le_of_ble_eq_true rfl⟩ hl.1 (Nat.le_of_ble_eq_true rfl) dX7_change_2 ⟨Nat.le_of_ble_eq_true rfl, Nat.le_of_ble_eq_true rfl⟩) hS (fun H locs (hW : GW z ad (GC z ad N X u3) H) hS => ?_)
  refine lv_iload_n hx hb dX7_change_5 rfl (lv_at hl 2 rfl) ?_
  refine lv_iload_n hx hb dX7_change_6 rfl (lv_at hl 3 rfl) ?_
  obtain ⟨r4, u6, h5, h⟩ := xb_s h
  refine nb_cv (nb_runS (As := [.int x2, .int x3]) (rest := []) hx hb hml hown hSW hS hW (c_X7_requirePhraseWords l z ad N X u3 x2 x3 h5) mf_X7_requirePhraseWords lk_X7_130 rfl ⟨rfl, rfl⟩ ⟨Nat.le_of_ble_eq_true rfl, Nat.le_of_ble_eq_true rfl⟩ hl.1 (Nat.le_of_ble_eq_true rfl) dX7_change_7 ⟨Nat.le_of_ble_eq_true rfl, Nat.le_of_ble_eq_true rfl⟩) hS (fun H locs (hW : GW z ad (GC z ad N X u6) H) hS => ?_)
  refine lv_aload_n hx hb dX7_change_10 rfl (lv_at hl 0 rfl) ?_
  refine nb_get hx hb hT hK hown hW fl_X7_17 kr_0 (v := .ref (ad 2 0)) rfl dX7_change_11 ?_
  refine lv_iload_n hx hb dX7_change_14 rfl (lv_at hl 1 rfl) ?_
  obtain ⟨g7, h⟩ := gd_s h
  obtain ⟨g8, h⟩ := gd_s h
  refine nb_aald hx hb hK hW 3 kr_2 rfl rfl (inb_in g7) (a := ad 14 (ix x1)) (qrow_at g8) dX7_change_15 ?_
  refine lv_astore (lv' := [(4, .ref (ad 14 (ix x1))), (0, .ref (ad 0 0)), (1, .int x1), (2, .int x2), (3, .int x3)]) hx hb dX7_change_16 hl (by decide) rfl (fun ls hl => ?_)
  refine lv_aload hx hb dX7_change_18 (lv_at hl 0 rfl) ?_
  refine lv_iload_n hx hb dX7_change_20 rfl (lv_at hl 3 rfl) ?_
  refine lv_iload_n hx hb dX7_change_21 rfl (lv_at hl 4 rfl) ?_
  obtain ⟨r09, u11, h10, h⟩ := sb_s h
  refine nb_cv (nb_runV (As := [.int x2, .int x3]) (rest := []) hx hb hml hown hSW hS hW (c_X4_tellAnew l z ad N X u6 (ix x1) x2 x3 g8 h10) mf_X4_tellAnew lk_X7_144 (kr_14 g8) rfl rfl ⟨rfl, rfl⟩ ⟨Nat.le_of_ble_eq_true rfl, Nat.le_of_ble_eq_true rfl⟩ hl.1 (Nat.le_of_ble_eq_true rfl) dX7_change_22 ⟨Nat.le_of_ble_eq_true rfl, Nat.le_of_ble_eq_true rfl⟩) hS (fun H locs (hW : GW z ad (GC z ad N X u11) H) hS => ?_)
  refine lv_iconst (v := 0) hx hb dX7_change_25 (by decide) ?_
  refine lv_istore (lv' := [(5, .int 0), (4, .ref (ad 14 (ix x1))), (0, .ref (ad 0 0)), (1, .int x1), (2, .int x2), (3, .int x3)]) hx hb dX7_change_26 hl (by decide) rfl (fun ls hl => ?_)
  exact hL28 1000000 _ _ _ _ _ _ _ g8 (lv_sub hl [0, 1, 2, 3] rfl) hW hS h
/-- Panyard$Arrangement.append -/
def f_X0_append (N : Nt) (u : St) (k0 : Nat) (x1 : Int32) : Option (Unit × St) :=
  gd (inb (u 43 k0 0) 10) <|
  nm (sset u 42 k0 (ix (u 43 k0 0)) x1) fun u2 =>
  nm (sset u2 43 k0 0 ((u2 43 k0 0) + 1)) fun u3 =>
  some ((), u3)
set_option maxRecDepth 100000 in
set_option maxHeartbeats 4000000 in
theorem c_X0_append (l : Launch) (z : Zt) (ad : Ad) (N : Nt) (X : Gt) (u : St) (k0 : Nat) (x1 : Int32) (hk0 : k0 < 2) {r9 : Unit} {u9 : St} (h : f_X0_append N u k0 x1 = some (r9, u9)) : MC l z yX0_append cX0_append 2 none { frames := 0, cells := 0, slots := 0, locals := 0 } 0 0 [.ref (ad 8 k0), .int x1] ad (GC z ad N X u) (QV z ad (GC z ad N X u9)) := by
  refine Met.ofW (cc := cX0_append) (maxL := 2) (ret := none) (by decide) rfl ?_
  intro p e s m args below meth c s₁ B hml hv
  obtain ⟨rfl, hSW, hW⟩ := hv
  have hx := B.exec; have hb := B.bytes; have hr := B.returns; have hlocks := B.notSynchronized
  have hown : s.vm.findClass RX0 = some m.cls := findClass_of_methodNamed B.named
  obtain ⟨hT, hK, hST, hB0⟩ := id hSW
  have hS : va_S (zA z) s.heap s.heap [] := va_S.rf
  have hl := lv_entry ([.ref (ad 8 k0), .int x1]) (n := 2) (Nat.le_of_ble_eq_true rfl)
  rw [lg_entry_eq]
  generalize (lg_sl ([.ref (ad 8 k0), .int x1]) ++ List.replicate (2 - (lg_sl ([.ref (ad 8 k0), .int x1])).length) Slot.unset).toArray = ls at hl ⊢
  have hl : lv_has ls 2 [(0, .ref (ad 8 k0)), (1, .int x1)] := hl
  unfold f_X0_append at h
  refine lv_aload_n hx hb dX0_append_0 rfl (lv_at hl 0 rfl) ?_
  refine nb_get hx hb hT hK hown hW fl_X0_9 (kr_8 hk0) (v := .ref (ad 9 k0)) rfl dX0_append_1 ?_
  refine lv_aload_n hx hb dX0_append_4 rfl (lv_at hl 0 rfl) ?_
  refine nb_get hx hb hT hK hown hW fl_X0_21 (kr_8 hk0) (v := .int (u 43 k0 0)) rfl dX0_append_5 ?_
  refine lv_iload_n hx hb dX0_append_8 rfl (lv_at hl 1 rfl) ?_
  obtain ⟨g1, h⟩ := gd_s h
  obtain ⟨u2, eu2, h⟩ := nm_s h
  refine nb_iast hx hb hK hW hS 0 (kr_9 hk0) rfl (inb_in g1) ((gp_42 hk0).trans (congrArg (GC z ad N X) eu2.symm)) dX0_append_9 (fun H locs hW hS => ?_)
  refine lv_aload_n hx hb dX0_append_10 rfl (lv_at hl 0 rfl) ?_
  refine lv_dup hx hb dX0_append_11 rfl ?_
  refine nb_get hx hb hT hK hown hW fl_X0_21 (kr_8 hk0) (v := .int (u2 43 k0 0)) rfl dX0_append_12 ?_
  refine lv_iconst (v := 1) hx hb dX0_append_15 (by decide) ?_
  refine lv_iadd hx hb dX0_append_16 ?_
  obtain ⟨u3, eu3, h⟩ := nm_s h
  refine nb_put hx hb hT hK hown hW hS fl_X0_21 tyX0 tyX0_ok nmX0 (kr_8 hk0) (v := .int ((u2 43 k0 0) + 1)) rfl rfl rfl (Nat.le_of_ble_eq_true rfl) ((gp_43 hk0).trans (congrArg (GC z ad N X) eu3.symm)) dX0_append_17 (fun H locs hW hS => ?_)
  exact ne_vret hx hb hr hlocks hW hS dX0_append_20 h
/-- Panyard.put -/
def f_X7_put (N : Nt) (u : St) (x1 : Int32) : Option (Except String Int32 × St) :=
  xb (f_X7_requirePhrase N u x1) fun r1 u3 =>
  if (u3 43 0 0) < 10 then
    nm (u3 43 0 0) fun v5 =>
    sb (f_X0_append N u3 0 x1) fun r6 u8 =>
    some (.ok v5, u8)
  else
    some (.error "java/lang/IllegalStateException", u3)
set_option maxRecDepth 100000 in
set_option maxHeartbeats 4000000 in
theorem c_X7_put (l : Launch) (z : Zt) (ad : Ad) (N : Nt) (X : Gt) (u : St) (x1 : Int32) {r9 : Int32} {u9 : St} (h : f_X7_put N u x1 = some (.ok r9, u9)) : MC l z yX7_put cX7_put 3 (some .int) { frames := 2, cells := 0, slots := 0, locals := 43 } 0 0 [.ref (ad 0 0), .int x1] ad (GC z ad N X u) (QI z ad (GC z ad N X u9) r9) := by
  refine Met.ofW (cc := cX7_put) (maxL := 3) (ret := (some .int)) (by decide) rfl ?_
  intro p e s m args below meth c s₁ B hml hv
  obtain ⟨rfl, hSW, hW⟩ := hv
  have hx := B.exec; have hb := B.bytes; have hr := B.returns; have hlocks := B.notSynchronized
  have hown : s.vm.findClass RX7 = some m.cls := findClass_of_methodNamed B.named
  obtain ⟨hT, hK, hST, hB0⟩ := id hSW
  have hS : va_S (zA z) s.heap s.heap [] := va_S.rf
  have hl := lv_entry ([.ref (ad 0 0), .int x1]) (n := 3) (Nat.le_of_ble_eq_true rfl)
  rw [lg_entry_eq]
  generalize (lg_sl ([.ref (ad 0 0), .int x1]) ++ List.replicate (3 - (lg_sl ([.ref (ad 0 0), .int x1])).length) Slot.unset).toArray = ls at hl ⊢
  have hl : lv_has ls 3 [(0, .ref (ad 0 0)), (1, .int x1)] := hl
  unfold f_X7_put at h
  refine lv_aload_n hx hb dX7_put_0 rfl (lv_at hl 0 rfl) ?_
  refine lv_iload_n hx hb dX7_put_1 rfl (lv_at hl 1 rfl) ?_
  obtain ⟨r1, u3, h2, h⟩ := xb_s h
  refine nb_cv (nb_runV (As := [.int x1]) (rest := []) hx hb hml hown hSW hS hW (c_X7_requirePhrase l z ad N X u x1 h2) mf_X7_requirePhrase lk_X7_141 kr_0 rfl rfl ⟨rfl, rfl⟩ ⟨Nat.le_of_ble_eq_true rfl, Nat.le_of_ble_eq_true rfl⟩ hl.1 (Nat.le_of_ble_eq_true rfl) dX7_put_2 ⟨Nat.le_of_ble_eq_true rfl, Nat.le_of_ble_eq_true rfl⟩) hS (fun H locs (hW : GW z ad (GC z ad N X u3) H) hS => ?_)
  refine lv_aload_n hx hb dX7_put_5 rfl (lv_at hl 0 rfl) ?_
  refine nb_get hx hb hT hK hown hW fl_X7_30 kr_0 (v := .ref (ad 8 0)) rfl dX7_put_6 ?_
  refine nb_get hx hb hT hK hown hW fl_X7_160 (kr_8 (by decide)) (v := .int (u3 43 0 0)) rfl dX7_put_9 ?_
  refine lv_bipush (v := 10) hx hb dX7_put_12 (by decide) ?_
  refine lv_icmp_lt (tgt := 27) hx hb dX7_put_14 (by decide) (fun c4 => ?_) (fun c4 => ?_)
  · replace h := ite_t h c4
    refine lv_aload_n hx hb dX7_put_27 rfl (lv_at hl 0 rfl) ?_
    refine nb_get hx hb hT hK hown hW fl_X7_30 kr_0 (v := .ref (ad 8 0)) rfl dX7_put_28 ?_
    refine nb_get hx hb hT hK hown hW fl_X7_160 (kr_8 (by decide)) (v := .int (u3 43 0 0)) rfl dX7_put_31 ?_
    refine lv_topi (fun v5 ev5 => ?_)
    replace h := nm_at ev5 h
    refine lv_istore_n (lv' := [(2, .int v5), (0, .ref (ad 0 0)), (1, .int x1)]) hx hb dX7_put_34 rfl hl (by decide) rfl (fun ls hl => ?_)
    refine lv_aload_n hx hb dX7_put_35 rfl (lv_at hl 1 rfl) ?_
    refine nb_get hx hb hT hK hown hW fl_X7_30 kr_0 (v := .ref (ad 8 0)) rfl dX7_put_36 ?_
    refine lv_iload_n hx hb dX7_put_39 rfl (lv_at hl 2 rfl) ?_
    obtain ⟨r6, u8, h7, h⟩ := sb_s h
    refine nb_cv (nb_runV (As := [.int x1]) (rest := []) hx hb hml hown hSW hS hW (c_X0_append l z ad N X u3 0 x1 (by decide) h7) mf_X0_append lk_X7_165 (kr_8 (by decide)) rfl rfl ⟨rfl, rfl⟩ ⟨Nat.le_of_ble_eq_true rfl, Nat.le_of_ble_eq_true rfl⟩ hl.1 (Nat.le_of_ble_eq_true rfl) dX7_put_40 ⟨Nat.le_of_ble_eq_true rfl, Nat.le_of_ble_eq_true rfl⟩) hS (fun H locs (hW : GW z ad (GC z ad N X u8) H) hS => ?_)
    refine lv_iload_n hx hb dX7_put_43 rfl (lv_at hl 0 rfl) ?_
    exact ne_iretX hx hb hr rfl hlocks hW hS dX7_put_44 h
  · replace h := ite_f h c4
    exact absurd h (by intro q; cases q)
/-- Panyard.requirePlace -/
def f_X7_requirePlace (N : Nt) (u : St) (x1 : Int32) : Option (Except String Unit × St) :=
  sb (f_X7_isWithin N u x1 0 ((u 43 0 0) - 1)) fun r1 u3 =>
  if r1 = 0 then
    some (.error "java/lang/IndexOutOfBoundsException", u3)
  else
    some (.ok (), u3)
set_option maxRecDepth 100000 in
set_option maxHeartbeats 4000000 in
theorem c_X7_requirePlace (l : Launch) (z : Zt) (ad : Ad) (N : Nt) (X : Gt) (u : St) (x1 : Int32) {r9 : Unit} {u9 : St} (h : f_X7_requirePlace N u x1 = some (.ok r9, u9)) : MC l z yX7_requirePlace cX7_requirePlace 2 none { frames := 1, cells := 0, slots := 0, locals := 22 } 0 0 [.ref (ad 0 0), .int x1] ad (GC z ad N X u) (QV z ad (GC z ad N X u9)) := by
  refine Met.ofW (cc := cX7_requirePlace) (maxL := 2) (ret := none) (by decide) rfl ?_
  intro p e s m args below meth c s₁ B hml hv
  obtain ⟨rfl, hSW, hW⟩ := hv
  have hx := B.exec; have hb := B.bytes; have hr := B.returns; have hlocks := B.notSynchronized
  have hown : s.vm.findClass RX7 = some m.cls := findClass_of_methodNamed B.named
  obtain ⟨hT, hK, hST, hB0⟩ := id hSW
  have hS : va_S (zA z) s.heap s.heap [] := va_S.rf
  have hl := lv_entry ([.ref (ad 0 0), .int x1]) (n := 2) (Nat.le_of_ble_eq_true rfl)
  rw [lg_entry_eq]
  generalize (lg_sl ([.ref (ad 0 0), .int x1]) ++ List.replicate (2 - (lg_sl ([.ref (ad 0 0), .int x1])).length) Slot.unset).toArray = ls at hl ⊢
  have hl : lv_has ls 2 [(0, .ref (ad 0 0)), (1, .int x1)] := hl
  unfold f_X7_requirePlace at h
  refine lv_iload_n hx hb dX7_requirePlace_0 rfl (lv_at hl 1 rfl) ?_
  refine lv_iconst (v := 0) hx hb dX7_requirePlace_1 (by decide) ?_
  refine lv_aload_n hx hb dX7_requirePlace_2 rfl (lv_at hl 0 rfl) ?_
  refine nb_get hx hb hT hK hown hW fl_X7_30 kr_0 (v := .ref (ad 8 0)) rfl dX7_requirePlace_3 ?_
  refine nb_get hx hb hT hK hown hW fl_X7_160 (kr_8 (by decide)) (v := .int (u 43 0 0)) rfl dX7_requirePlace_6 ?_
  refine lv_iconst (v := 1) hx hb dX7_requirePlace_9 (by decide) ?_
  refine lv_isub hx hb dX7_requirePlace_10 ?_
  obtain ⟨r1, u3, h2, h⟩ := sb_s h
  refine nb_ci (nb_runS (As := [.int x1, .int 0, .int ((u 43 0 0) - 1)]) (rest := []) hx hb hml hown hSW hS hW (c_X7_isWithin l z ad N X u x1 0 ((u 43 0 0) - 1) h2) mf_X7_isWithin lk_X7_96 rfl ⟨rfl, rfl⟩ ⟨Nat.le_of_ble_eq_true rfl, Nat.le_of_ble_eq_true rfl⟩ hl.1 (Nat.le_of_ble_eq_true rfl) dX7_requirePlace_11 ⟨Nat.le_of_ble_eq_true rfl, Nat.le_of_ble_eq_true rfl⟩) hS (fun H locs (hW : GW z ad (GC z ad N X u3) H) hS => ?_)
  refine lv_if_ne (tgt := 28) hx hb dX7_requirePlace_14 (by decide) (fun c4 => ?_) (fun c4 => ?_)
  · replace h := ite_f h c4
    exact ne_vretX hx hb hr hlocks hW hS dX7_requirePlace_28 h
  · replace h := ite_t h c4
    exact absurd h (by intro q; cases q)
/-- Panyard$Arrangement.closeUp -/
def f_X0_closeUp_L2b (N : Nt) (k0 : Nat) (ih2 : Int32 → St → Option (Unit × St)) (y2 : Int32) (u : St) : Option (Unit × St) :=
  if ((u 43 k0 0) - 1) ≤ y2 then
    nm (sset u 43 k0 0 ((u 43 k0 0) - 1)) fun u2 =>
    some ((), u2)
  else
    gd (inb (y2 + 1) 10) <|
    gd (inb y2 10) <|
    nm (sset u 42 k0 (ix y2) (u 42 k0 (ix (y2 + 1)))) fun u5 =>
    nm (y2 + 1) fun v6 =>
    ih2 v6 u5
def f_X0_closeUp_L2 (N : Nt) (k0 : Nat) : Nat → Int32 → St → Option (Unit × St) := lp (fun _ _ => none) (f_X0_closeUp_L2b N k0)
def f_X0_closeUp (N : Nt) (u : St) (k0 : Nat) (x1 : Int32) : Option (Unit × St) :=
  f_X0_closeUp_L2 N k0 1000000 x1 u
set_option maxRecDepth 100000 in
set_option maxHeartbeats 4000000 in
theorem c_X0_closeUp (l : Launch) (z : Zt) (ad : Ad) (N : Nt) (X : Gt) (u : St) (k0 : Nat) (x1 : Int32) (hk0 : k0 < 2) {r9 : Unit} {u9 : St} (h : f_X0_closeUp N u k0 x1 = some (r9, u9)) : MC l z yX0_closeUp cX0_closeUp 3 none { frames := 0, cells := 0, slots := 0, locals := 0 } 0 0 [.ref (ad 8 k0), .int x1] ad (GC z ad N X u) (QV z ad (GC z ad N X u9)) := by
  refine Met.ofW (cc := cX0_closeUp) (maxL := 3) (ret := none) (by decide) rfl ?_
  intro p e s m args below meth c s₁ B hml hv
  obtain ⟨rfl, hSW, hW⟩ := hv
  have hx := B.exec; have hb := B.bytes; have hr := B.returns; have hlocks := B.notSynchronized
  have hown : s.vm.findClass RX0 = some m.cls := findClass_of_methodNamed B.named
  obtain ⟨hT, hK, hST, hB0⟩ := id hSW
  have hS : va_S (zA z) s.heap s.heap [] := va_S.rf
  have hl := lv_entry ([.ref (ad 8 k0), .int x1]) (n := 3) (Nat.le_of_ble_eq_true rfl)
  rw [lg_entry_eq]
  generalize (lg_sl ([.ref (ad 8 k0), .int x1]) ++ List.replicate (3 - (lg_sl ([.ref (ad 8 k0), .int x1])).length) Slot.unset).toArray = ls at hl ⊢
  have hl : lv_has ls 3 [(0, .ref (ad 8 k0)), (1, .int x1)] := hl
  let WW : Heap → List Loc → JFrame → Prop := fun H locs g => W p l e (headSpec [Cond.code yX0_closeUp cX0_closeUp 3 none] { frames := 0, cells := 0, slots := 0, locals := 0 }).room s m [.ref (ad 8 k0), .int x1].toArray below meth c H locs 0 0 (MQ below (QV z ad (GC z ad N X u9)) [.ref (ad 8 k0), .int x1].toArray s 0 0 (zA z)) g
  have hL2b : ∀ (ih2 : Int32 → St → Option (Unit × St)) (hih2 : ∀ (y2 : Int32) (u : St) (H : Heap) (locs : List Loc) (ls : Array Slot), lv_has ls 3 [(2, .int y2), (0, .ref (ad 8 k0))] → GW z ad (GC z ad N X u) H → va_S (zA z) s.heap H locs → ih2 y2 u = some (r9, u9) → WW H locs (F0 m 2 ls [])), ∀ (y2 : Int32) (u : St) (H : Heap) (locs : List Loc) (ls : Array Slot), lv_has ls 3 [(2, .int y2), (0, .ref (ad 8 k0))] → GW z ad (GC z ad N X u) H → va_S (zA z) s.heap H locs → f_X0_closeUp_L2b N k0 ih2 y2 u = some (r9, u9) → WW H locs (F0 m 2 ls []) := by
    intro ih2 hih2 y2 u H locs ls hl hW hS h
    change W p l e _ s m _ below meth c H locs 0 0 _ (F0 m 2 ls [])
    unfold f_X0_closeUp_L2b at h
    refine lv_iload_n hx hb dX0_closeUp_2 rfl (lv_at hl 0 rfl) ?_
    refine lv_aload_n hx hb dX0_closeUp_3 rfl (lv_at hl 1 rfl) ?_
    refine nb_get hx hb hT hK hown hW fl_X0_21 (kr_8 hk0) (v := .int (u 43 k0 0)) rfl dX0_closeUp_4 ?_
    refine lv_iconst (v := 1) hx hb dX0_closeUp_7 (by decide) ?_
    refine lv_isub hx hb dX0_closeUp_8 ?_
    refine lv_icmp_ge (tgt := 32) hx hb dX0_closeUp_9 (by decide) (fun c1 => ?_) (fun c1 => ?_)
    · replace h := ite_t h c1
      refine lv_aload_n hx hb dX0_closeUp_32 rfl (lv_at hl 1 rfl) ?_
      refine lv_dup hx hb dX0_closeUp_33 rfl ?_
      refine nb_get hx hb hT hK hown hW fl_X0_21 (kr_8 hk0) (v := .int (u 43 k0 0)) rfl dX0_closeUp_34 ?_
      refine lv_iconst (v := 1) hx hb dX0_closeUp_37 (by decide) ?_
      refine lv_isub hx hb dX0_closeUp_38 ?_
      obtain ⟨u2, eu2, h⟩ := nm_s h
      refine nb_put hx hb hT hK hown hW hS fl_X0_21 tyX0 tyX0_ok nmX0 (kr_8 hk0) (v := .int ((u 43 k0 0) - 1)) rfl rfl rfl (Nat.le_of_ble_eq_true rfl) ((gp_43 hk0).trans (congrArg (GC z ad N X) eu2.symm)) dX0_closeUp_39 (fun H locs hW hS => ?_)
      exact ne_vret hx hb hr hlocks hW hS dX0_closeUp_42 h
    · replace h := ite_f h c1
      refine lv_aload_n hx hb dX0_closeUp_12 rfl (lv_at hl 1 rfl) ?_
      refine nb_get hx hb hT hK hown hW fl_X0_9 (kr_8 hk0) (v := .ref (ad 9 k0)) rfl dX0_closeUp_13 ?_
      refine lv_iload_n hx hb dX0_closeUp_16 rfl (lv_at hl 0 rfl) ?_
      refine lv_aload_n hx hb dX0_closeUp_17 rfl (lv_at hl 1 rfl) ?_
      refine nb_get hx hb hT hK hown hW fl_X0_9 (kr_8 hk0) (v := .ref (ad 9 k0)) rfl dX0_closeUp_18 ?_
      refine lv_iload_n hx hb dX0_closeUp_21 rfl (lv_at hl 0 rfl) ?_
      refine lv_iconst (v := 1) hx hb dX0_closeUp_22 (by decide) ?_
      refine lv_iadd hx hb dX0_closeUp_23 ?_
      obtain ⟨g3, h⟩ := gd_s h
      refine nb_iald hx hb hK hW 0 (kr_9 hk0) rfl (inb_in g3) dX0_closeUp_24 ?_
      obtain ⟨g4, h⟩ := gd_s h
      obtain ⟨u5, eu5, h⟩ := nm_s h
      refine nb_iast hx hb hK hW hS 0 (kr_9 hk0) rfl (inb_in g4) ((gp_42 hk0).trans (congrArg (GC z ad N X) eu5.symm)) dX0_closeUp_25 (fun H locs hW hS => ?_)
      obtain ⟨v6, ev6, h⟩ := nm_s h
      refine lv_iinc (v := v6) (lv' := [(2, .int v6), (0, .ref (ad 8 k0))]) hx hb dX0_closeUp_26 hl (k := 0) rfl (by rw [ev6]; rfl) (by decide) rfl (fun ls hl => ?_)
      refine lv_goto (tgt := 2) hx hb dX0_closeUp_29 (by decide) ?_
      exact hih2 _ _ _ _ _ (lv_sub hl [0, 1] rfl) hW hS h
  have hL2 : ∀ (n : Nat), ∀ (y2 : Int32) (u : St) (H : Heap) (locs : List Loc) (ls : Array Slot), lv_has ls 3 [(2, .int y2), (0, .ref (ad 8 k0))] → GW z ad (GC z ad N X u) H → va_S (zA z) s.heap H locs → f_X0_closeUp_L2 N k0 n y2 u = some (r9, u9) → WW H locs (F0 m 2 ls []) := by
    intro n
    induction n with
    | zero => intro y2 u H locs ls hl hW hS h; exact absurd h (by intro q; cases q)
    | succ n ihn => intro y2 u H locs ls hl hW hS h; exact hL2b (f_X0_closeUp_L2 N k0 n) ihn y2 u H locs ls hl hW hS h
  unfold f_X0_closeUp at h
  refine lv_iload_n hx hb dX0_closeUp_0 rfl (lv_at hl 1 rfl) ?_
  refine lv_istore_n (lv' := [(2, .int x1), (0, .ref (ad 8 k0)), (1, .int x1)]) hx hb dX0_closeUp_1 rfl hl (by decide) rfl (fun ls hl => ?_)
  exact hL2 1000000 _ _ _ _ _ (lv_sub hl [0, 1] rfl) hW hS h
/-- Panyard.cut -/
def f_X7_cut (N : Nt) (u : St) (x1 : Int32) : Option (Except String Int32 × St) :=
  xb (f_X7_requirePlace N u x1) fun r1 u3 =>
  gd (inb x1 10) <|
  nm (u3 42 0 (ix x1)) fun v5 =>
  sb (f_X0_closeUp N u3 0 x1) fun r6 u8 =>
  some (.ok v5, u8)
set_option maxRecDepth 100000 in
set_option maxHeartbeats 4000000 in
theorem c_X7_cut (l : Launch) (z : Zt) (ad : Ad) (N : Nt) (X : Gt) (u : St) (x1 : Int32) {r9 : Int32} {u9 : St} (h : f_X7_cut N u x1 = some (.ok r9, u9)) : MC l z yX7_cut cX7_cut 3 (some .int) { frames := 2, cells := 0, slots := 0, locals := 43 } 0 0 [.ref (ad 0 0), .int x1] ad (GC z ad N X u) (QI z ad (GC z ad N X u9) r9) := by
  refine Met.ofW (cc := cX7_cut) (maxL := 3) (ret := (some .int)) (by decide) rfl ?_
  intro p e s m args below meth c s₁ B hml hv
  obtain ⟨rfl, hSW, hW⟩ := hv
  have hx := B.exec; have hb := B.bytes; have hr := B.returns; have hlocks := B.notSynchronized
  have hown : s.vm.findClass RX7 = some m.cls := findClass_of_methodNamed B.named
  obtain ⟨hT, hK, hST, hB0⟩ := id hSW
  have hS : va_S (zA z) s.heap s.heap [] := va_S.rf
  have hl := lv_entry ([.ref (ad 0 0), .int x1]) (n := 3) (Nat.le_of_ble_eq_true rfl)
  rw [lg_entry_eq]
  generalize (lg_sl ([.ref (ad 0 0), .int x1]) ++ List.replicate (3 - (lg_sl ([.ref (ad 0 0), .int x1])).length) Slot.unset).toArray = ls at hl ⊢
  have hl : lv_has ls 3 [(0, .ref (ad 0 0)), (1, .int x1)] := hl
  unfold f_X7_cut at h
  refine lv_aload_n hx hb dX7_cut_0 rfl (lv_at hl 0 rfl) ?_
  refine lv_iload_n hx hb dX7_cut_1 rfl (lv_at hl 1 rfl) ?_
  obtain ⟨r1, u3, h2, h⟩ := xb_s h
  refine nb_cv (nb_runV (As := [.int x1]) (rest := []) hx hb hml hown hSW hS hW (c_X7_requirePlace l z ad N X u x1 h2) mf_X7_requirePlace lk_X7_168 kr_0 rfl rfl ⟨rfl, rfl⟩ ⟨Nat.le_of_ble_eq_true rfl, Nat.le_of_ble_eq_true rfl⟩ hl.1 (Nat.le_of_ble_eq_true rfl) dX7_cut_2 ⟨Nat.le_of_ble_eq_true rfl, Nat.le_of_ble_eq_true rfl⟩) hS (fun H locs (hW : GW z ad (GC z ad N X u3) H) hS => ?_)
  refine lv_aload_n hx hb dX7_cut_5 rfl (lv_at hl 0 rfl) ?_
  refine nb_get hx hb hT hK hown hW fl_X7_30 kr_0 (v := .ref (ad 8 0)) rfl dX7_cut_6 ?_
  refine nb_get hx hb hT hK hown hW fl_X7_171 (kr_8 (by decide)) (v := .ref (ad 9 0)) rfl dX7_cut_9 ?_
  refine lv_iload_n hx hb dX7_cut_12 rfl (lv_at hl 1 rfl) ?_
  obtain ⟨g4, h⟩ := gd_s h
  refine nb_iald hx hb hK hW 0 (kr_9 (by decide)) rfl (inb_in g4) dX7_cut_13 ?_
  refine lv_topi (fun v5 ev5 => ?_)
  replace h := nm_at ev5 h
  refine lv_istore_n (lv' := [(2, .int v5), (0, .ref (ad 0 0)), (1, .int x1)]) hx hb dX7_cut_14 rfl hl (by decide) rfl (fun ls hl => ?_)
  refine lv_aload_n hx hb dX7_cut_15 rfl (lv_at hl 1 rfl) ?_
  refine nb_get hx hb hT hK hown hW fl_X7_30 kr_0 (v := .ref (ad 8 0)) rfl dX7_cut_16 ?_
  refine lv_iload_n hx hb dX7_cut_19 rfl (lv_at hl 2 rfl) ?_
  obtain ⟨r6, u8, h7, h⟩ := sb_s h
  refine nb_cv (nb_runV (As := [.int x1]) (rest := []) hx hb hml hown hSW hS hW (c_X0_closeUp l z ad N X u3 0 x1 (by decide) h7) mf_X0_closeUp lk_X7_174 (kr_8 (by decide)) rfl rfl ⟨rfl, rfl⟩ ⟨Nat.le_of_ble_eq_true rfl, Nat.le_of_ble_eq_true rfl⟩ hl.1 (Nat.le_of_ble_eq_true rfl) dX7_cut_20 ⟨Nat.le_of_ble_eq_true rfl, Nat.le_of_ble_eq_true rfl⟩) hS (fun H locs (hW : GW z ad (GC z ad N X u8) H) hS => ?_)
  refine lv_iload_n hx hb dX7_cut_23 rfl (lv_at hl 0 rfl) ?_
  exact ne_iretX hx hb hr rfl hlocks hW hS dX7_cut_24 h
/-- Panyard.player -/
def f_X7_player (N : Nt) (u : St) (x1 : Int32) (x2 : Int32) (x3 : Int32) : Option (Except String Int32 × St) :=
  xb (f_X7_requireSection N u x1) fun r1 u3 =>
  sb (f_X7_isWithin N u3 x2 1 9) fun r4 u6 =>
  if r4 = 0 then
    some (.error "java/lang/IllegalArgumentException", u6)
  else
    sb (f_X7_isWithin N u6 x3 1 8) fun r8 u10 =>
    if r8 = 0 then
      some (.error "java/lang/IllegalArgumentException", u10)
    else
      if (u10 2 0 0) < 8 then
        nm (u10 2 0 0) fun v13 =>
        gd (inb v13 8 ∧ ix v13 = N 15) <|
        nm (mkPly u10 (N 15) x1 x2 x3) fun u15 =>
        some (.ok v13, u15)
      else
        some (.error "java/lang/IllegalStateException", u10)
set_option maxRecDepth 100000 in
set_option maxHeartbeats 4000000 in
theorem c_X7_player (l : Launch) (z : Zt) (ad : Ad) (N : Nt) (X : Gt) (u : St) (x1 : Int32) (x2 : Int32) (x3 : Int32) (hA : Raw ad) {r9 : Int32} {u9 : St} (h : f_X7_player N u x1 x2 x3 = some (.ok r9, u9)) : MC l z yX7_player cX7_player 5 (some .int) { frames := 2, cells := 1, slots := 6, locals := 42 } 1 6 [.ref (ad 0 0), .int x1, .int x2, .int x3] ad (GC z ad N X u) (QM z (fun ad2 : Ad => ∀ a b, ¬ (b = N 15 ∧ a = 15) → ad2 a b = ad a b) (fun ad2 => GC z ad2 (Nup N 15) X u9) r9) := by
  refine Met.ofW (cc := cX7_player) (maxL := 5) (ret := (some .int)) (by decide) rfl ?_
  intro p e s m args below meth c s₁ B hml hv
  obtain ⟨rfl, hSW, hW⟩ := hv
  have hx := B.exec; have hb := B.bytes; have hr := B.returns; have hlocks := B.notSynchronized
  have hown : s.vm.findClass RX7 = some m.cls := findClass_of_methodNamed B.named
  obtain ⟨hT, hK, hST, hB0⟩ := id hSW
  have hS : va_S (zA z) s.heap s.heap [] := va_S.rf
  have hl := lv_entry ([.ref (ad 0 0), .int x1, .int x2, .int x3]) (n := 5) (Nat.le_of_ble_eq_true rfl)
  rw [lg_entry_eq]
  generalize (lg_sl ([.ref (ad 0 0), .int x1, .int x2, .int x3]) ++ List.replicate (5 - (lg_sl ([.ref (ad 0 0), .int x1, .int x2, .int x3])).length) Slot.unset).toArray = ls at hl ⊢
  have hl : lv_has ls 5 [(0, .ref (ad 0 0)), (1, .int x1), (2, .int x2), (3, .int x3)] := hl
  unfold f_X7_player at h
  refine lv_iload_n hx hb dX7_player_0 rfl (lv_at hl 1 rfl) ?_
  obtain ⟨r1, u3, h2, h⟩ := xb_s h
  refine nb_cv (nb_runS (As := [.int x1]) (rest := []) hx hb hml hown hSW hS hW (c_X7_requireSection l z ad N X u x1 h2) mf_X7_requireSection lk_X7_76 rfl ⟨rfl, rfl⟩ ⟨Nat.le_of_ble_eq_true rfl, Nat.le_of_ble_eq_true rfl⟩ hl.1 (Nat.le_of_ble_eq_true rfl) dX7_player_1 ⟨Nat.le_of_ble_eq_true rfl, Nat.le_of_ble_eq_true rfl⟩) hS (fun H locs (hW : GW z ad (GC z ad N X u3) H) hS => ?_)
  refine lv_iload_n hx hb dX7_player_4 rfl (lv_at hl 2 rfl) ?_
  refine lv_iconst (v := 1) hx hb dX7_player_5 (by decide) ?_
  refine lv_bipush (v := 9) hx hb dX7_player_6 (by decide) ?_
  obtain ⟨r4, u6, h5, h⟩ := sb_s h
  refine nb_ci (nb_runS (As := [.int x2, .int 1, .int 9]) (rest := []) hx hb hml hown hSW hS hW (c_X7_isWithin l z ad N X u3 x2 1 9 h5) mf_X7_isWithin lk_X7_96 rfl ⟨rfl, rfl⟩ ⟨Nat.le_of_ble_eq_true rfl, Nat.le_of_ble_eq_true rfl⟩ hl.1 (Nat.le_of_ble_eq_true rfl) dX7_player_8 ⟨Nat.le_of_ble_eq_true rfl, Nat.le_of_ble_eq_true rfl⟩) hS (fun H locs (hW : GW z ad (GC z ad N X u6) H) hS => ?_)
  refine lv_if_ne (tgt := 24) hx hb dX7_player_11 (by decide) (fun c7 => ?_) (fun c7 => ?_)
  · replace h := ite_f h c7
    refine lv_iload_n hx hb dX7_player_24 rfl (lv_at hl 3 rfl) ?_
    refine lv_iconst (v := 1) hx hb dX7_player_25 (by decide) ?_
    refine lv_bipush (v := 8) hx hb dX7_player_26 (by decide) ?_
    obtain ⟨r8, u10, h09, h⟩ := sb_s h
    refine nb_ci (nb_runS (As := [.int x3, .int 1, .int 8]) (rest := []) hx hb hml hown hSW hS hW (c_X7_isWithin l z ad N X u6 x3 1 8 h09) mf_X7_isWithin lk_X7_96 rfl ⟨rfl, rfl⟩ ⟨Nat.le_of_ble_eq_true rfl, Nat.le_of_ble_eq_true rfl⟩ hl.1 (Nat.le_of_ble_eq_true rfl) dX7_player_28 ⟨Nat.le_of_ble_eq_true rfl, Nat.le_of_ble_eq_true rfl⟩) hS (fun H locs (hW : GW z ad (GC z ad N X u10) H) hS => ?_)
    refine lv_if_ne (tgt := 44) hx hb dX7_player_31 (by decide) (fun c11 => ?_) (fun c11 => ?_)
    · replace h := ite_f h c11
      refine lv_aload_n hx hb dX7_player_44 rfl (lv_at hl 0 rfl) ?_
      refine nb_get hx hb hT hK hown hW fl_X7_147 kr_0 (v := .int (u10 2 0 0)) rfl dX7_player_45 ?_
      refine lv_bipush (v := 8) hx hb dX7_player_48 (by decide) ?_
      refine lv_icmp_lt (tgt := 63) hx hb dX7_player_50 (by decide) (fun c12 => ?_) (fun c12 => ?_)
      · replace h := ite_t h c12
        refine lv_aload_n hx hb dX7_player_63 rfl (lv_at hl 0 rfl) ?_
        refine nb_get hx hb hT hK hown hW fl_X7_147 kr_0 (v := .int (u10 2 0 0)) rfl dX7_player_64 ?_
        refine lv_topi (fun v13 ev13 => ?_)
        replace h := nm_at ev13 h
        refine lv_istore (lv' := [(4, .int v13), (0, .ref (ad 0 0)), (1, .int x1), (2, .int x2), (3, .int x3)]) hx hb dX7_player_67 hl (by decide) rfl (fun ls hl => ?_)
        refine lv_aload_n hx hb dX7_player_69 rfl (lv_at hl 1 rfl) ?_
        refine nb_get hx hb hT hK hown hW fl_X7_23 kr_0 (v := .ref (ad 3 0)) rfl dX7_player_70 ?_
        refine lv_iload hx hb dX7_player_73 (lv_at hl 0 rfl) ?_
        obtain ⟨g14, h⟩ := gd_s h
        refine nb_new (fs := [.int 0, .int 0, .int 0, .null, .int 0, .int 0]) hx hb hSW hown hA hW hS nw_X7_21 tyX5 tyX5_ok (fun j hj => by rcases (show j = 0 ∨ j = 1 ∨ j = 2 ∨ j = 3 ∨ j = 4 ∨ j = 5 by omega) with rfl | rfl | rfl | rfl | rfl | rfl <;> rfl) ⟨Nat.le_of_ble_eq_true rfl, Nat.le_of_ble_eq_true rfl⟩ dX7_player_75 (fun b9 H G2 hnb hE hcb hW hS => ?_)
        refine lv_dup hx hb dX7_player_78 rfl ?_
        refine lv_iload_n hx hb dX7_player_79 rfl (lv_at hl 2 rfl) ?_
        refine lv_iload_n hx hb dX7_player_80 rfl (lv_at hl 3 rfl) ?_
        refine lv_iload_n hx hb dX7_player_81 rfl (lv_at hl 4 rfl) ?_
        refine va_callv (nb_runI (As := [.int x1, .int x2, .int x3]) (rest := [.ref b9, .int v13, .ref (ad 3 0)]) hx hb hml hown hSW hS hW (c_X5_init l z ad G2 hA b9 x1 x2 x3 hcb) mf_X5_init lk_X7_183 rfl ⟨rfl, rfl⟩ ⟨Nat.le_of_ble_eq_true rfl, Nat.le_of_ble_eq_true rfl⟩ hl.1 (Nat.le_of_ble_eq_true rfl) dX7_player_82 ⟨Nat.le_of_ble_eq_true rfl, Nat.le_of_ble_eq_true rfl⟩) hS (fun _ _ h => h) (fun _ h => h) (fun u9_ t9 H locs ht9 _ hp9 hW9 _ _ hS => ?_)
        obtain ⟨hu9, hJ⟩ := hp9
        rw [hu9] at hJ
        subst ht9
        obtain ⟨G3, _⟩ := u9_
        replace hW : GW z ad G3 t9.heap := hW9
        have hg1 : G3 3 0 = some _ := hJ.1 _ _ _ (by simp) (hE _ _ _ (kr_3 (z := z) (ad := ad) (N := N) (X := X) (s := u10)))
        refine nb_aastr (r := (RX5, TX5, 6)) hA hx hb hK hW hS 4 hg1 rfl hJ.2.1 rfl (inb_in g14.1) dX7_player_85 (fun H locs hW hS => ?_)
        rw [show (v13 : Int32).toNatClampNeg = N 15 from g14.2] at hW
        refine lv_aload_n hx hb dX7_player_86 rfl (lv_at hl 1 rfl) ?_
        refine lv_dup hx hb dX7_player_87 rfl ?_
        have hg0 : ∀ e9, up2 G3 3 0 e9 0 0 = some _ := fun e9 => (up2_ne (by simp)).trans (hJ.1 _ _ _ (by simp) (hE _ _ _ (kr_0 (z := z) (ad := ad) (N := N) (X := X) (s := u10))))
        refine nb_get hx hb hT hK hown hW fl_X7_147 (hg0 _) (v := .int (u10 2 0 0)) rfl dX7_player_88 ?_
        refine lv_iconst (v := 1) hx hb dX7_player_91 (by decide) ?_
        refine lv_iadd hx hb dX7_player_92 ?_
        refine nb_put hx hb hT hK hown hW hS fl_X7_147 tyX7 tyX7_ok nmX7 (hg0 _) (v := .int ((u10 2 0 0) + 1)) rfl rfl rfl (Nat.le_of_ble_eq_true rfl) rfl dX7_player_93 (fun H locs hW hS => ?_)
        obtain ⟨ad2, hd, hW⟩ := mkPly_w hA hnb hE hJ (by have h1 := inb_lt g14.1; rw [g14.2] at h1; exact h1) hW
        obtain ⟨u15, eu15, h⟩ := nm_s h
        rw [← eu15] at hW
        rw [← hd 0 0 (by simp)] at hl
        obtain ⟨ad, hd9⟩ : ∃ q : Ad, q = ad2 := ⟨_, rfl⟩
        rw [← hd9] at hl hW hd
        obtain ⟨N, hN9⟩ : ∃ q : Nt, q = Nup N 15 := ⟨_, rfl⟩
        rw [← hN9] at hW
        refine lv_iload hx hb dX7_player_96 (lv_at hl 0 rfl) ?_
        subst hN9
        exact ne_mret (GN := fun ad u => GC z ad (Nup _ 15) X u) hx hb hr rfl hlocks hW hS dX7_player_98 h (fun a b hq => by rw [hd a b hq])
      · replace h := ite_f h c12
        exact absurd h (by intro q; cases q)
    · replace h := ite_t h c11
      exact absurd h (by intro q; cases q)
  · replace h := ite_t h c7
    exact absurd h (by intro q; cases q)
