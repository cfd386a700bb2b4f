/-! the ends by an exception -/
-- Panyard.requireSection
set_option maxRecDepth 100000 in
set_option maxHeartbeats 4000000 in
theorem cx_X7_requireSection (l : Launch) (z : Zt) (ad : Ad) (N : Nt) (X : Gt) (u : St) (x0 : Int32) (hfl : l.stackTraces = false) {E9 : String} {u9 : St} (h : f_X7_requireSection N u x0 = some (.error E9, u9)) : MX l z yX7_requireSection cX7_requireSection 1 none { frames := 6, cells := 1, slots := 6, locals := 82 } [.int x0] ad (GC z ad N X u) (QvF z) (GC z ad N X u9) E9 := by
  refine vx_ofW (cc := cX7_requireSection) (maxL := 1) (ret := none) (by decide) rfl ?_
  intro p e s m args below meth c s₁ B hml ht hv
  obtain ⟨rfl, hSW, hW⟩ := hv
  have hx := B.exec; have hb := B.bytes; have hr := B.returns; have hlocks := B.notSynchronized
  have hown : s.vm.findClass RX7 = some m.cls := findClass_of_methodNamed B.named
  obtain ⟨hT, hK, hST, hB0⟩ := id hSW
  have hS : va_S (zA z) s.heap s.heap [] := va_S.rf
  have hl := lv_entry ([.int x0]) (n := 1) (Nat.le_of_ble_eq_true rfl)
  rw [lg_entry_eq]
  generalize (lg_sl ([.int x0]) ++ List.replicate (1 - (lg_sl ([.int x0])).length) Slot.unset).toArray = ls at hl ⊢
  have hl : lv_has ls 1 [(0, .int x0)] := hl
  unfold f_X7_requireSection at h
  refine lv_iload_n hx hb dX7_requireSection_0 rfl (lv_at hl 0 rfl) ?_
  refine lv_iconst (v := 0) hx hb dX7_requireSection_1 (by decide) ?_
  refine lv_iconst (v := 3) hx hb dX7_requireSection_2 (by decide) ?_
  obtain ⟨r1, u3, h2, h⟩ := sb_s h
  refine nb_ci (nb_runS (As := [.int x0, .int 0, .int 3]) (rest := []) hx hb hml hown hSW hS hW (c_X7_isWithin l z ad N X u x0 0 3 h2) mf_X7_isWithin lk_X7_96 rfl ⟨rfl, rfl⟩ ⟨Nat.le_of_ble_eq_true rfl, Nat.le_of_ble_eq_true rfl⟩ hl.1 (Nat.le_of_ble_eq_true rfl) dX7_requireSection_3 ⟨Nat.le_of_ble_eq_true rfl, Nat.le_of_ble_eq_true rfl⟩) hS (fun H locs (hW : GW z ad (GC z ad N X u3) H) hS => ?_)
  refine lv_if_ne (tgt := 20) hx hb dX7_requireSection_6 (by decide) (fun c4 => ?_) (fun c4 => ?_)
  · replace h := ite_f h c4
    exact absurd h (by intro q; cases q)
  · replace h := ite_t h c4
    obtain ⟨rfl, rfl⟩ : _ = E9 ∧ u3 = u9 := ⟨Except.error.inj (congrArg Prod.fst (Option.some.inj h)), congrArg Prod.snd (Option.some.inj h)⟩
    exact nb_throwSW (rest := []) hx hb hfl hSW hown th_X7_276_280 (List.mem_of_getElem? (i := 14) rfl) hW hS hml hl.1 dX7_requireSection_9 dX7_requireSection_12 dX7_requireSection_13 dX7_requireSection_16 dX7_requireSection_19 (fun x9 h9 => (ht x9 h9).elim) ⟨Nat.le_of_ble_eq_true rfl, Nat.le_of_ble_eq_true rfl, Nat.le_of_ble_eq_true rfl, Nat.le_of_ble_eq_true rfl⟩ hlocks ⟨rfl, rfl⟩
-- Panyard.pan
set_option maxRecDepth 100000 in
set_option maxHeartbeats 4000000 in
theorem cx_X7_pan (l : Launch) (z : Zt) (ad : Ad) (N : Nt) (X : Gt) (u : St) (x1 : Int32) (hfl : l.stackTraces = false) {E9 : String} {u9 : St} (h : f_X7_pan N u x1 = some (.error E9, u9)) : MX l z yX7_pan cX7_pan 3 (some .int) { frames := 7, cells := 1, slots := 6, locals := 102 } [.ref (ad 0 0), .int x1] ad (GC z ad N X u) (QiF z) (GC z ad N X u9) E9 := by
  refine vx_ofW (cc := cX7_pan) (maxL := 3) (ret := (some .int)) (by decide) rfl ?_
  intro p e s m args below meth c s₁ B hml ht hv
  obtain ⟨rfl, hSW, hW⟩ := hv
  have hx := B.exec; have hb := B.bytes; have hr := B.returns; have hlocks := B.notSynchronized
  have hown : s.vm.findClass RX7 = some m.cls := findClass_of_methodNamed B.named
  obtain ⟨hT, hK, hST, hB0⟩ := id hSW
  have hS : va_S (zA z) s.heap s.heap [] := va_S.rf
  have hl := lv_entry ([.ref (ad 0 0), .int x1]) (n := 3) (Nat.le_of_ble_eq_true rfl)
  rw [lg_entry_eq]
  generalize (lg_sl ([.ref (ad 0 0), .int x1]) ++ List.replicate (3 - (lg_sl ([.ref (ad 0 0), .int x1])).length) Slot.unset).toArray = ls at hl ⊢
  have hl : lv_has ls 3 [(0, .ref (ad 0 0)), (1, .int x1)] := hl
  unfold f_X7_pan at h
  refine lv_iload_n hx hb dX7_pan_0 rfl (lv_at hl 1 rfl) ?_
  rcases xb_e h with ⟨r1, u3, h2, h⟩ | h
  rotate_left
  · exact nx_cv (nx_runS (As := [.int x1]) (rest := []) hx hb hml hown hSW hS hW (cx_X7_requireSection l z ad N X u x1 hfl h) mf_X7_requireSection (List.mem_of_getElem? (i := 672) (by decide +kernel)) rfl ⟨rfl, rfl⟩ ⟨Nat.le_of_ble_eq_true rfl, Nat.le_of_ble_eq_true rfl⟩ hl.1 (Nat.le_of_ble_eq_true rfl) dX7_pan_1 ⟨Nat.le_of_ble_eq_true rfl, Nat.le_of_ble_eq_true rfl⟩) hS (fun ce9 q9 H locs hce hcv hcc hW hS => nx_out (fun x9 h9 => (ht x9 h9).elim) hlocks hce hcv hcc hW hS ⟨Nat.le_of_ble_eq_true rfl, Nat.le_of_ble_eq_true rfl⟩)
  refine nb_cv (nb_runS (As := [.int x1]) (rest := []) hx hb hml hown hSW hS hW (c_X7_requireSection l z ad N X u x1 h2) mf_X7_requireSection lk_X7_76 rfl ⟨rfl, rfl⟩ ⟨Nat.le_of_ble_eq_true rfl, Nat.le_of_ble_eq_true rfl⟩ hl.1 (Nat.le_of_ble_eq_true rfl) dX7_pan_1 ⟨Nat.le_of_ble_eq_true rfl, Nat.le_of_ble_eq_true rfl⟩) hS (fun H locs (hW : GW z ad (GC z ad N X u3) H) hS => ?_)
  refine lv_aload_n hx hb dX7_pan_4 rfl (lv_at hl 0 rfl) ?_
  refine nb_get hx hb hT hK hown hW fl_X7_80 kr_0 (v := .int (u3 0 0 0)) rfl dX7_pan_5 ?_
  refine lv_bipush (v := 6) hx hb dX7_pan_8 (by decide) ?_
  refine lv_icmp_lt (tgt := 23) hx hb dX7_pan_10 (by decide) (fun c4 => ?_) (fun c4 => ?_)
  · replace h := ite_t h c4
    refine lv_aload_n hx hb dX7_pan_23 rfl (lv_at hl 0 rfl) ?_
    refine nb_get hx hb hT hK hown hW fl_X7_80 kr_0 (v := .int (u3 0 0 0)) rfl dX7_pan_24 ?_
    refine lv_topi (fun v5 ev5 => ?_)
    replace h := nm_at ev5 h
    refine lv_istore_n (lv' := [(2, .int v5), (0, .ref (ad 0 0)), (1, .int x1)]) hx hb dX7_pan_27 rfl hl (by decide) rfl (fun ls hl => ?_)
    refine lv_aload_n hx hb dX7_pan_28 rfl (lv_at hl 1 rfl) ?_
    refine nb_get hx hb hT hK hown hW fl_X7_11 kr_0 (v := .ref (ad 1 0)) rfl dX7_pan_29 ?_
    refine lv_iload_n hx hb dX7_pan_32 rfl (lv_at hl 0 rfl) ?_
    obtain ⟨g6, h⟩ := gd_s h
    obtain ⟨g7, h⟩ := gd_s h
    obtain ⟨u8, eu8, h⟩ := nm_s h
    obtain ⟨u09, eu09, h⟩ := nm_s h
    exact absurd h (by intro q; cases q)
  · replace h := ite_f h c4
    obtain ⟨rfl, rfl⟩ : _ = E9 ∧ u3 = u9 := ⟨Except.error.inj (congrArg Prod.fst (Option.some.inj h)), congrArg Prod.snd (Option.some.inj h)⟩
    exact nb_throwS (rest := []) hx hb hfl hSW hown th_X7_83_87 (List.mem_of_getElem? (i := 15) rfl) hW hS hml hl.1 dX7_pan_13 dX7_pan_16 dX7_pan_17 dX7_pan_19 dX7_pan_22 (fun x9 h9 => (ht x9 h9).elim) ⟨Nat.le_of_ble_eq_true rfl, Nat.le_of_ble_eq_true rfl, Nat.le_of_ble_eq_true rfl, Nat.le_of_ble_eq_true rfl⟩ hlocks ⟨rfl, rfl⟩
-- Panyard.requirePan
set_option maxRecDepth 100000 in
set_option maxHeartbeats 4000000 in
theorem cx_X7_requirePan (l : Launch) (z : Zt) (ad : Ad) (N : Nt) (X : Gt) (u : St) (x1 : Int32) (hfl : l.stackTraces = false) {E9 : String} {u9 : St} (h : f_X7_requirePan N u x1 = some (.error E9, u9)) : MX l z yX7_requirePan cX7_requirePan 2 none { frames := 6, cells := 1, slots := 6, locals := 82 } [.ref (ad 0 0), .int x1] ad (GC z ad N X u) (QvF z) (GC z ad N X u9) E9 := by
  refine vx_ofW (cc := cX7_requirePan) (maxL := 2) (ret := none) (by decide) rfl ?_
  intro p e s m args below meth c s₁ B hml ht hv
  obtain ⟨rfl, hSW, hW⟩ := hv
  have hx := B.exec; have hb := B.bytes; have hr := B.returns; have hlocks := B.notSynchronized
  have hown : s.vm.findClass RX7 = some m.cls := findClass_of_methodNamed B.named
  obtain ⟨hT, hK, hST, hB0⟩ := id hSW
  have hS : va_S (zA z) s.heap s.heap [] := va_S.rf
  have hl := lv_entry ([.ref (ad 0 0), .int x1]) (n := 2) (Nat.le_of_ble_eq_true rfl)
  rw [lg_entry_eq]
  generalize (lg_sl ([.ref (ad 0 0), .int x1]) ++ List.replicate (2 - (lg_sl ([.ref (ad 0 0), .int x1])).length) Slot.unset).toArray = ls at hl ⊢
  have hl : lv_has ls 2 [(0, .ref (ad 0 0)), (1, .int x1)] := hl
  unfold f_X7_requirePan at h
  refine lv_iload_n hx hb dX7_requirePan_0 rfl (lv_at hl 1 rfl) ?_
  refine lv_iconst (v := 0) hx hb dX7_requirePan_1 (by decide) ?_
  refine lv_aload_n hx hb dX7_requirePan_2 rfl (lv_at hl 0 rfl) ?_
  refine nb_get hx hb hT hK hown hW fl_X7_80 kr_0 (v := .int (u 0 0 0)) rfl dX7_requirePan_3 ?_
  refine lv_iconst (v := 1) hx hb dX7_requirePan_6 (by decide) ?_
  refine lv_isub hx hb dX7_requirePan_7 ?_
  obtain ⟨r1, u3, h2, h⟩ := sb_s h
  refine nb_ci (nb_runS (As := [.int x1, .int 0, .int ((u 0 0 0) - 1)]) (rest := []) hx hb hml hown hSW hS hW (c_X7_isWithin l z ad N X u x1 0 ((u 0 0 0) - 1) h2) mf_X7_isWithin lk_X7_96 rfl ⟨rfl, rfl⟩ ⟨Nat.le_of_ble_eq_true rfl, Nat.le_of_ble_eq_true rfl⟩ hl.1 (Nat.le_of_ble_eq_true rfl) dX7_requirePan_8 ⟨Nat.le_of_ble_eq_true rfl, Nat.le_of_ble_eq_true rfl⟩) hS (fun H locs (hW : GW z ad (GC z ad N X u3) H) hS => ?_)
  refine lv_if_ne (tgt := 25) hx hb dX7_requirePan_11 (by decide) (fun c4 => ?_) (fun c4 => ?_)
  · replace h := ite_f h c4
    exact absurd h (by intro q; cases q)
  · replace h := ite_t h c4
    obtain ⟨rfl, rfl⟩ : _ = E9 ∧ u3 = u9 := ⟨Except.error.inj (congrArg Prod.fst (Option.some.inj h)), congrArg Prod.snd (Option.some.inj h)⟩
    exact nb_throwSW (rest := []) hx hb hfl hSW hown th_X7_276_280 (List.mem_of_getElem? (i := 1) rfl) hW hS hml hl.1 dX7_requirePan_14 dX7_requirePan_17 dX7_requirePan_18 dX7_requirePan_21 dX7_requirePan_24 (fun x9 h9 => (ht x9 h9).elim) ⟨Nat.le_of_ble_eq_true rfl, Nat.le_of_ble_eq_true rfl, Nat.le_of_ble_eq_true rfl, Nat.le_of_ble_eq_true rfl⟩ hlocks ⟨rfl, rfl⟩
-- Panyard.requireNote
set_option maxRecDepth 100000 in
set_option maxHeartbeats 4000000 in
theorem cx_X7_requireNote (l : Launch) (z : Zt) (ad : Ad) (N : Nt) (X : Gt) (u : St) (x0 : Int32) (hfl : l.stackTraces = false) {E9 : String} {u9 : St} (h : f_X7_requireNote N u x0 = some (.error E9, u9)) : MX l z yX7_requireNote cX7_requireNote 1 none { frames := 6, cells := 1, slots := 6, locals := 82 } [.int x0] ad (GC z ad N X u) (QvF z) (GC z ad N X u9) E9 := by
  refine vx_ofW (cc := cX7_requireNote) (maxL := 1) (ret := none) (by decide) rfl ?_
  intro p e s m args below meth c s₁ B hml ht hv
  obtain ⟨rfl, hSW, hW⟩ := hv
  have hx := B.exec; have hb := B.bytes; have hr := B.returns; have hlocks := B.notSynchronized
  have hown : s.vm.findClass RX7 = some m.cls := findClass_of_methodNamed B.named
  obtain ⟨hT, hK, hST, hB0⟩ := id hSW
  have hS : va_S (zA z) s.heap s.heap [] := va_S.rf
  have hl := lv_entry ([.int x0]) (n := 1) (Nat.le_of_ble_eq_true rfl)
  rw [lg_entry_eq]
  generalize (lg_sl ([.int x0]) ++ List.replicate (1 - (lg_sl ([.int x0])).length) Slot.unset).toArray = ls at hl ⊢
  have hl : lv_has ls 1 [(0, .int x0)] := hl
  unfold f_X7_requireNote at h
  refine lv_iload_n hx hb dX7_requireNote_0 rfl (lv_at hl 0 rfl) ?_
  refine lv_iconst (v := 0) hx hb dX7_requireNote_1 (by decide) ?_
  refine lv_bipush (v := 7) hx hb dX7_requireNote_2 (by decide) ?_
  obtain ⟨r1, u3, h2, h⟩ := sb_s h
  refine nb_ci (nb_runS (As := [.int x0, .int 0, .int 7]) (rest := []) hx hb hml hown hSW hS hW (c_X7_isWithin l z ad N X u x0 0 7 h2) mf_X7_isWithin lk_X7_96 rfl ⟨rfl, rfl⟩ ⟨Nat.le_of_ble_eq_true rfl, Nat.le_of_ble_eq_true rfl⟩ hl.1 (Nat.le_of_ble_eq_true rfl) dX7_requireNote_4 ⟨Nat.le_of_ble_eq_true rfl, Nat.le_of_ble_eq_true rfl⟩) hS (fun H locs (hW : GW z ad (GC z ad N X u3) H) hS => ?_)
  refine lv_if_ne (tgt := 21) hx hb dX7_requireNote_7 (by decide) (fun c4 => ?_) (fun c4 => ?_)
  · replace h := ite_f h c4
    exact absurd h (by intro q; cases q)
  · replace h := ite_t h c4
    obtain ⟨rfl, rfl⟩ : _ = E9 ∧ u3 = u9 := ⟨Except.error.inj (congrArg Prod.fst (Option.some.inj h)), congrArg Prod.snd (Option.some.inj h)⟩
    exact nb_throwSW (rest := []) hx hb hfl hSW hown th_X7_276_280 (List.mem_of_getElem? (i := 3) rfl) hW hS hml hl.1 dX7_requireNote_10 dX7_requireNote_13 dX7_requireNote_14 dX7_requireNote_17 dX7_requireNote_20 (fun x9 h9 => (ht x9 h9).elim) ⟨Nat.le_of_ble_eq_true rfl, Nat.le_of_ble_eq_true rfl, Nat.le_of_ble_eq_true rfl, Nat.le_of_ble_eq_true rfl⟩ hlocks ⟨rfl, rfl⟩
-- Panyard.requireWhole
set_option maxRecDepth 100000 in
set_option maxHeartbeats 4000000 in
theorem cx_X7_requireWhole (l : Launch) (z : Zt) (ad : Ad) (N : Nt) (X : Gt) (u : St) (x1 : Int32) (hfl : l.stackTraces = false) {E9 : String} {u9 : St} (h : f_X7_requireWhole N u x1 = some (.error E9, u9)) : MX l z yX7_requireWhole cX7_requireWhole 2 none { frames := 6, cells := 1, slots := 6, locals := 82 } [.ref (ad 0 0), .int x1] ad (GC z ad N X u) (QvF z) (GC z ad N X u9) E9 := by
  refine vx_ofW (cc := cX7_requireWhole) (maxL := 2) (ret := none) (by decide) rfl ?_
  intro p e s m args below meth c s₁ B hml ht hv
  obtain ⟨rfl, hSW, hW⟩ := hv
  have hx := B.exec; have hb := B.bytes; have hr := B.returns; have hlocks := B.notSynchronized
  have hown : s.vm.findClass RX7 = some m.cls := findClass_of_methodNamed B.named
  obtain ⟨hT, hK, hST, hB0⟩ := id hSW
  have hS : va_S (zA z) s.heap s.heap [] := va_S.rf
  have hl := lv_entry ([.ref (ad 0 0), .int x1]) (n := 2) (Nat.le_of_ble_eq_true rfl)
  rw [lg_entry_eq]
  generalize (lg_sl ([.ref (ad 0 0), .int x1]) ++ List.replicate (2 - (lg_sl ([.ref (ad 0 0), .int x1])).length) Slot.unset).toArray = ls at hl ⊢
  have hl : lv_has ls 2 [(0, .ref (ad 0 0)), (1, .int x1)] := hl
  unfold f_X7_requireWhole at h
  refine lv_aload_n hx hb dX7_requireWhole_0 rfl (lv_at hl 0 rfl) ?_
  refine nb_get hx hb hT hK hown hW fl_X7_11 kr_0 (v := .ref (ad 1 0)) rfl dX7_requireWhole_1 ?_
  refine lv_iload_n hx hb dX7_requireWhole_4 rfl (lv_at hl 1 rfl) ?_
  obtain ⟨g1, h⟩ := gd_s h
  obtain ⟨g2, h⟩ := gd_s h
  refine nb_aald hx hb hK hW 2 kr_1 rfl rfl (inb_in g1) (a := ad 12 (ix x1)) (qrow_at g2) dX7_requireWhole_5 ?_
  obtain ⟨r3, u5, h4, h⟩ := sb_s h
  refine nb_ci (nb_runV (As := []) (rest := []) hx hb hml hown hSW hS hW (c_X3_isCracked l z ad N X u (ix x1) (Or.inl g2) h4) mf_X3_isCracked lk_X7_315 (kr_12 (Or.inl g2)) rfl rfl ⟨rfl, rfl⟩ ⟨Nat.le_of_ble_eq_true rfl, Nat.le_of_ble_eq_true rfl⟩ hl.1 (Nat.le_of_ble_eq_true rfl) dX7_requireWhole_6 ⟨Nat.le_of_ble_eq_true rfl, Nat.le_of_ble_eq_true rfl⟩) hS (fun H locs (hW : GW z ad (GC z ad N X u5) H) hS => ?_)
  refine lv_if_eq (tgt := 23) hx hb dX7_requireWhole_9 (by decide) (fun c6 => ?_) (fun c6 => ?_)
  · replace h := ite_t h c6
    exact absurd h (by intro q; cases q)
  · replace h := ite_f h c6
    obtain ⟨rfl, rfl⟩ : _ = E9 ∧ u5 = u9 := ⟨Except.error.inj (congrArg Prod.fst (Option.some.inj h)), congrArg Prod.snd (Option.some.inj h)⟩
    exact nb_throwSW (rest := []) hx hb hfl hSW hown th_X7_83_87 (List.mem_of_getElem? (i := 17) rfl) hW hS hml hl.1 dX7_requireWhole_12 dX7_requireWhole_15 dX7_requireWhole_16 dX7_requireWhole_19 dX7_requireWhole_22 (fun x9 h9 => (ht x9 h9).elim) ⟨Nat.le_of_ble_eq_true rfl, Nat.le_of_ble_eq_true rfl, Nat.le_of_ble_eq_true rfl, Nat.le_of_ble_eq_true rfl⟩ hlocks ⟨rfl, rfl⟩
-- Panyard.blow
set_option maxRecDepth 100000 in
set_option maxHeartbeats 4000000 in
theorem cx_X7_blow (l : Launch) (z : Zt) (ad : Ad) (N : Nt) (X : Gt) (u : St) (x1 : Int32) (x2 : Int32) (x3 : Int32) (hfl : l.stackTraces = false) {E9 : String} {u9 : St} (h : f_X7_blow N u x1 x2 x3 = some (.error E9, u9)) : MX l z yX7_blow cX7_blow 5 (some .int) { frames := 7, cells := 1, slots := 6, locals := 103 } [.ref (ad 0 0), .int x1, .int x2, .int x3] ad (GC z ad N X u) (QiF z) (GC z ad N X u9) E9 := by
  refine vx_ofW (cc := cX7_blow) (maxL := 5) (ret := (some .int)) (by decide) rfl ?_
  intro p e s m args below meth c s₁ B hml ht hv
  obtain ⟨rfl, hSW, hW⟩ := hv
  have hx := B.exec; have hb := B.bytes; have hr := B.returns; have hlocks := B.notSynchronized
  have hown : s.vm.findClass RX7 = some m.cls := findClass_of_methodNamed B.named
  obtain ⟨hT, hK, hST, hB0⟩ := id hSW
  have hS : va_S (zA z) s.heap s.heap [] := va_S.rf
  have hl := lv_entry ([.ref (ad 0 0), .int x1, .int x2, .int x3]) (n := 5) (Nat.le_of_ble_eq_true rfl)
  rw [lg_entry_eq]
  generalize (lg_sl ([.ref (ad 0 0), .int x1, .int x2, .int x3]) ++ List.replicate (5 - (lg_sl ([.ref (ad 0 0), .int x1, .int x2, .int x3])).length) Slot.unset).toArray = ls at hl ⊢
  have hl : lv_has ls 5 [(0, .ref (ad 0 0)), (1, .int x1), (2, .int x2), (3, .int x3)] := hl
  unfold f_X7_blow at h
  refine lv_aload_n hx hb dX7_blow_0 rfl (lv_at hl 0 rfl) ?_
  refine lv_iload_n hx hb dX7_blow_1 rfl (lv_at hl 1 rfl) ?_
  rcases xb_e h with ⟨r1, u3, h2, h⟩ | h
  rotate_left
  · exact nx_cv (nx_runV (As := [.int x1]) (rest := []) hx hb hml hown hSW hS hW (cx_X7_requirePan l z ad N X u x1 hfl h) mf_X7_requirePan (List.mem_of_getElem? (i := 468) (by decide +kernel)) kr_0 rfl rfl ⟨rfl, rfl⟩ ⟨Nat.le_of_ble_eq_true rfl, Nat.le_of_ble_eq_true rfl⟩ hl.1 (Nat.le_of_ble_eq_true rfl) dX7_blow_2 ⟨Nat.le_of_ble_eq_true rfl, Nat.le_of_ble_eq_true rfl⟩) hS (fun ce9 q9 H locs hce hcv hcc hW hS => nx_out (fun x9 h9 => (ht x9 h9).elim) hlocks hce hcv hcc hW hS ⟨Nat.le_of_ble_eq_true rfl, Nat.le_of_ble_eq_true rfl⟩)
  refine nb_cv (nb_runV (As := [.int x1]) (rest := []) hx hb hml hown hSW hS hW (c_X7_requirePan l z ad N X u x1 h2) mf_X7_requirePan lk_X7_90 kr_0 rfl rfl ⟨rfl, rfl⟩ ⟨Nat.le_of_ble_eq_true rfl, Nat.le_of_ble_eq_true rfl⟩ hl.1 (Nat.le_of_ble_eq_true rfl) dX7_blow_2 ⟨Nat.le_of_ble_eq_true rfl, Nat.le_of_ble_eq_true rfl⟩) hS (fun H locs (hW : GW z ad (GC z ad N X u3) H) hS => ?_)
  refine lv_iload_n hx hb dX7_blow_5 rfl (lv_at hl 2 rfl) ?_
  rcases xb_e h with ⟨r4, u6, h5, h⟩ | h
  rotate_left
  · exact nx_cv (nx_runS (As := [.int x2]) (rest := []) hx hb hml hown hSW hS hW (cx_X7_requireNote l z ad N X u3 x2 hfl h) mf_X7_requireNote (List.mem_of_getElem? (i := 497) (by decide +kernel)) rfl ⟨rfl, rfl⟩ ⟨Nat.le_of_ble_eq_true rfl, Nat.le_of_ble_eq_true rfl⟩ hl.1 (Nat.le_of_ble_eq_true rfl) dX7_blow_6 ⟨Nat.le_of_ble_eq_true rfl, Nat.le_of_ble_eq_true rfl⟩) hS (fun ce9 q9 H locs hce hcv hcc hW hS => nx_out (fun x9 h9 => (ht x9 h9).elim) hlocks hce hcv hcc hW hS ⟨Nat.le_of_ble_eq_true rfl, Nat.le_of_ble_eq_true rfl⟩)
  refine nb_cv (nb_runS (As := [.int x2]) (rest := []) hx hb hml hown hSW hS hW (c_X7_requireNote l z ad N X u3 x2 h5) mf_X7_requireNote lk_X7_93 rfl ⟨rfl, rfl⟩ ⟨Nat.le_of_ble_eq_true rfl, Nat.le_of_ble_eq_true rfl⟩ hl.1 (Nat.le_of_ble_eq_true rfl) dX7_blow_6 ⟨Nat.le_of_ble_eq_true rfl, Nat.le_of_ble_eq_true rfl⟩) hS (fun H locs (hW : GW z ad (GC z ad N X u6) H) hS => ?_)
  refine lv_iload_n hx hb dX7_blow_9 rfl (lv_at hl 3 rfl) ?_
  refine lv_if_eq (tgt := 24) hx hb dX7_blow_10 (by decide) (fun c7 => ?_) (fun c7 => ?_)
  · replace h := ite_t h c7
    obtain ⟨rfl, rfl⟩ : _ = E9 ∧ u6 = u9 := ⟨Except.error.inj (congrArg Prod.fst (Option.some.inj h)), congrArg Prod.snd (Option.some.inj h)⟩
    exact nb_throwS (rest := []) hx hb hfl hSW hown th_X7_100_104 (List.mem_of_getElem? (i := 16) rfl) hW hS hml hl.1 dX7_blow_24 dX7_blow_27 dX7_blow_28 dX7_blow_30 dX7_blow_33 (fun x9 h9 => (ht x9 h9).elim) ⟨Nat.le_of_ble_eq_true rfl, Nat.le_of_ble_eq_true rfl, Nat.le_of_ble_eq_true rfl, Nat.le_of_ble_eq_true rfl⟩ hlocks ⟨rfl, rfl⟩
  · replace h := ite_f h c7
    refine lv_iload_n hx hb dX7_blow_13 rfl (lv_at hl 3 rfl) ?_
    refine lv_bipush (v := (-20)) hx hb dX7_blow_14 (by decide) ?_
    refine lv_bipush (v := 20) hx hb dX7_blow_16 (by decide) ?_
    obtain ⟨r8, u10, h09, h⟩ := sb_s h
    refine nb_ci (nb_runS (As := [.int x3, .int (-20), .int 20]) (rest := []) hx hb hml hown hSW hS hW (c_X7_isWithin l z ad N X u6 x3 (-20) 20 h09) mf_X7_isWithin lk_X7_96 rfl ⟨rfl, rfl⟩ ⟨Nat.le_of_ble_eq_true rfl, Nat.le_of_ble_eq_true rfl⟩ hl.1 (Nat.le_of_ble_eq_true rfl) dX7_blow_18 ⟨Nat.le_of_ble_eq_true rfl, Nat.le_of_ble_eq_true rfl⟩) hS (fun H locs (hW : GW z ad (GC z ad N X u10) H) hS => ?_)
    refine lv_if_ne (tgt := 34) hx hb dX7_blow_21 (by decide) (fun c11 => ?_) (fun c11 => ?_)
    · replace h := ite_f h c11
      refine lv_aload_n hx hb dX7_blow_34 rfl (lv_at hl 0 rfl) ?_
      refine lv_iload_n hx hb dX7_blow_35 rfl (lv_at hl 1 rfl) ?_
      rcases xb_e h with ⟨r12, u14, h13, h⟩ | h
      rotate_left
      · exact nx_cv (nx_runV (As := [.int x1]) (rest := []) hx hb hml hown hSW hS hW (cx_X7_requireWhole l z ad N X u10 x1 hfl h) mf_X7_requireWhole (List.mem_of_getElem? (i := 686) (by decide +kernel)) kr_0 rfl rfl ⟨rfl, rfl⟩ ⟨Nat.le_of_ble_eq_true rfl, Nat.le_of_ble_eq_true rfl⟩ hl.1 (Nat.le_of_ble_eq_true rfl) dX7_blow_36 ⟨Nat.le_of_ble_eq_true rfl, Nat.le_of_ble_eq_true rfl⟩) hS (fun ce9 q9 H locs hce hcv hcc hW hS => nx_out (fun x9 h9 => (ht x9 h9).elim) hlocks hce hcv hcc hW hS ⟨Nat.le_of_ble_eq_true rfl, Nat.le_of_ble_eq_true rfl⟩)
      refine nb_cv (nb_runV (As := [.int x1]) (rest := []) hx hb hml hown hSW hS hW (c_X7_requireWhole l z ad N X u10 x1 h13) mf_X7_requireWhole lk_X7_105 kr_0 rfl rfl ⟨rfl, rfl⟩ ⟨Nat.le_of_ble_eq_true rfl, Nat.le_of_ble_eq_true rfl⟩ hl.1 (Nat.le_of_ble_eq_true rfl) dX7_blow_36 ⟨Nat.le_of_ble_eq_true rfl, Nat.le_of_ble_eq_true rfl⟩) hS (fun H locs (hW : GW z ad (GC z ad N X u14) H) hS => ?_)
      refine lv_aload_n hx hb dX7_blow_39 rfl (lv_at hl 0 rfl) ?_
      refine nb_get hx hb hT hK hown hW fl_X7_11 kr_0 (v := .ref (ad 1 0)) rfl dX7_blow_40 ?_
      refine lv_iload_n hx hb dX7_blow_43 rfl (lv_at hl 1 rfl) ?_
      obtain ⟨g15, h⟩ := gd_s h
      obtain ⟨g16, h⟩ := gd_s h
      refine nb_aald hx hb hK hW 2 kr_1 rfl rfl (inb_in g15) (a := ad 12 (ix x1)) (qrow_at g16) dX7_blow_44 ?_
      refine lv_astore (lv' := [(4, .ref (ad 12 (ix x1))), (0, .ref (ad 0 0)), (1, .int x1), (2, .int x2), (3, .int x3)]) hx hb dX7_blow_45 hl (by decide) rfl (fun ls hl => ?_)
      refine lv_aload hx hb dX7_blow_47 (lv_at hl 0 rfl) ?_
      refine lv_iload_n hx hb dX7_blow_49 rfl (lv_at hl 3 rfl) ?_
      refine lv_iload_n hx hb dX7_blow_50 rfl (lv_at hl 4 rfl) ?_
      obtain ⟨r17, u19, h18, h⟩ := sb_s h
      refine nb_cv (nb_runV (As := [.int x2, .int x3]) (rest := []) hx hb hml hown hSW hS hW (c_X3_strike l z ad N X u14 (ix x1) x2 x3 (Or.inl g16) h18) mf_X3_strike lk_X7_108 (kr_12 (Or.inl g16)) rfl rfl ⟨rfl, rfl⟩ ⟨Nat.le_of_ble_eq_true rfl, Nat.le_of_ble_eq_true rfl⟩ hl.1 (Nat.le_of_ble_eq_true rfl) dX7_blow_51 ⟨Nat.le_of_ble_eq_true rfl, Nat.le_of_ble_eq_true rfl⟩) hS (fun H locs (hW : GW z ad (GC z ad N X u19) H) hS => ?_)
      refine lv_aload hx hb dX7_blow_54 (lv_at hl 0 rfl) ?_
      refine nb_get hx hb hT hK hown hW fl_X7_111 (kr_12 (Or.inl g16)) (v := .ref (ad 13 (ix x1))) rfl dX7_blow_56 ?_
      refine lv_iload_n hx hb dX7_blow_59 rfl (lv_at hl 3 rfl) ?_
      obtain ⟨g20, h⟩ := gd_s h
      refine nb_iald hx hb hK hW 0 (kr_13 (Or.inl g16)) rfl (inb_in g20) dX7_blow_60 ?_
      exact absurd h (by intro q; cases q)
    · replace h := ite_t h c11
      obtain ⟨rfl, rfl⟩ : _ = E9 ∧ u10 = u9 := ⟨Except.error.inj (congrArg Prod.fst (Option.some.inj h)), congrArg Prod.snd (Option.some.inj h)⟩
      exact nb_throwS (rest := []) hx hb hfl hSW hown th_X7_100_104 (List.mem_of_getElem? (i := 16) rfl) hW hS hml hl.1 dX7_blow_24 dX7_blow_27 dX7_blow_28 dX7_blow_30 dX7_blow_33 (fun x9 h9 => (ht x9 h9).elim) ⟨Nat.le_of_ble_eq_true rfl, Nat.le_of_ble_eq_true rfl, Nat.le_of_ble_eq_true rfl, Nat.le_of_ble_eq_true rfl⟩ hlocks ⟨rfl, rfl⟩
-- Panyard.burn
set_option maxRecDepth 100000 in
set_option maxHeartbeats 4000000 in
theorem cx_X7_burn (l : Launch) (z : Zt) (ad : Ad) (N : Nt) (X : Gt) (u : St) (x1 : Int32) (hfl : l.stackTraces = false) {E9 : String} {u9 : St} (h : f_X7_burn N u x1 = some (.error E9, u9)) : MX l z yX7_burn cX7_burn 2 (some .int) { frames := 7, cells := 1, slots := 6, locals := 103 } [.ref (ad 0 0), .int x1] ad (GC z ad N X u) (QiF z) (GC z ad N X u9) E9 := by
  refine vx_ofW (cc := cX7_burn) (maxL := 2) (ret := (some .int)) (by decide) rfl ?_
  intro p e s m args below meth c s₁ B hml ht hv
  obtain ⟨rfl, hSW, hW⟩ := hv
  have hx := B.exec; have hb := B.bytes; have hr := B.returns; have hlocks := B.notSynchronized
  have hown : s.vm.findClass RX7 = some m.cls := findClass_of_methodNamed B.named
  obtain ⟨hT, hK, hST, hB0⟩ := id hSW
  have hS : va_S (zA z) s.heap s.heap [] := va_S.rf
  have hl := lv_entry ([.ref (ad 0 0), .int x1]) (n := 2) (Nat.le_of_ble_eq_true rfl)
  rw [lg_entry_eq]
  generalize (lg_sl ([.ref (ad 0 0), .int x1]) ++ List.replicate (2 - (lg_sl ([.ref (ad 0 0), .int x1])).length) Slot.unset).toArray = ls at hl ⊢
  have hl : lv_has ls 2 [(0, .ref (ad 0 0)), (1, .int x1)] := hl
  unfold f_X7_burn at h
  refine lv_aload_n hx hb dX7_burn_0 rfl (lv_at hl 0 rfl) ?_
  refine lv_iload_n hx hb dX7_burn_1 rfl (lv_at hl 1 rfl) ?_
  rcases xb_e h with ⟨r1, u3, h2, h⟩ | h
  rotate_left
  · exact nx_cv (nx_runV (As := [.int x1]) (rest := []) hx hb hml hown hSW hS hW (cx_X7_requirePan l z ad N X u x1 hfl h) mf_X7_requirePan (List.mem_of_getElem? (i := 468) (by decide +kernel)) kr_0 rfl rfl ⟨rfl, rfl⟩ ⟨Nat.le_of_ble_eq_true rfl, Nat.le_of_ble_eq_true rfl⟩ hl.1 (Nat.le_of_ble_eq_true rfl) dX7_burn_2 ⟨Nat.le_of_ble_eq_true rfl, Nat.le_of_ble_eq_true rfl⟩) hS (fun ce9 q9 H locs hce hcv hcc hW hS => nx_out (fun x9 h9 => (ht x9 h9).elim) hlocks hce hcv hcc hW hS ⟨Nat.le_of_ble_eq_true rfl, Nat.le_of_ble_eq_true rfl⟩)
  refine nb_cv (nb_runV (As := [.int x1]) (rest := []) hx hb hml hown hSW hS hW (c_X7_requirePan l z ad N X u x1 h2) mf_X7_requirePan lk_X7_90 kr_0 rfl rfl ⟨rfl, rfl⟩ ⟨Nat.le_of_ble_eq_true rfl, Nat.le_of_ble_eq_true rfl⟩ hl.1 (Nat.le_of_ble_eq_true rfl) dX7_burn_2 ⟨Nat.le_of_ble_eq_true rfl, Nat.le_of_ble_eq_true rfl⟩) hS (fun H locs (hW : GW z ad (GC z ad N X u3) H) hS => ?_)
  refine lv_aload_n hx hb dX7_burn_5 rfl (lv_at hl 0 rfl) ?_
  refine lv_iload_n hx hb dX7_burn_6 rfl (lv_at hl 1 rfl) ?_
  rcases xb_e h with ⟨r4, u6, h5, h⟩ | h
  rotate_left
  · exact nx_cv (nx_runV (As := [.int x1]) (rest := []) hx hb hml hown hSW hS hW (cx_X7_requireWhole l z ad N X u3 x1 hfl h) mf_X7_requireWhole (List.mem_of_getElem? (i := 686) (by decide +kernel)) kr_0 rfl rfl ⟨rfl, rfl⟩ ⟨Nat.le_of_ble_eq_true rfl, Nat.le_of_ble_eq_true rfl⟩ hl.1 (Nat.le_of_ble_eq_true rfl) dX7_burn_7 ⟨Nat.le_of_ble_eq_true rfl, Nat.le_of_ble_eq_true rfl⟩) hS (fun ce9 q9 H locs hce hcv hcc hW hS => nx_out (fun x9 h9 => (ht x9 h9).elim) hlocks hce hcv hcc hW hS ⟨Nat.le_of_ble_eq_true rfl, Nat.le_of_ble_eq_true rfl⟩)
  refine nb_cv (nb_runV (As := [.int x1]) (rest := []) hx hb hml hown hSW hS hW (c_X7_requireWhole l z ad N X u3 x1 h5) mf_X7_requireWhole lk_X7_105 kr_0 rfl rfl ⟨rfl, rfl⟩ ⟨Nat.le_of_ble_eq_true rfl, Nat.le_of_ble_eq_true rfl⟩ hl.1 (Nat.le_of_ble_eq_true rfl) dX7_burn_7 ⟨Nat.le_of_ble_eq_true rfl, Nat.le_of_ble_eq_true rfl⟩) hS (fun H locs (hW : GW z ad (GC z ad N X u6) H) hS => ?_)
  refine lv_aload_n hx hb dX7_burn_10 rfl (lv_at hl 0 rfl) ?_
  refine nb_get hx hb hT hK hown hW fl_X7_11 kr_0 (v := .ref (ad 1 0)) rfl dX7_burn_11 ?_
  refine lv_iload_n hx hb dX7_burn_14 rfl (lv_at hl 1 rfl) ?_
  obtain ⟨g7, h⟩ := gd_s h
  obtain ⟨g8, h⟩ := gd_s h
  refine nb_aald hx hb hK hW 2 kr_1 rfl rfl (inb_in g7) (a := ad 12 (ix x1)) (qrow_at g8) dX7_burn_15 ?_
  obtain ⟨r09, u11, h10, h⟩ := sb_s h
  refine nb_cv (nb_runV (As := []) (rest := []) hx hb hml hown hSW hS hW (c_X3_heat l z ad N X u6 (ix x1) (Or.inl g8) h10) mf_X3_heat lk_X7_114 (kr_12 (Or.inl g8)) rfl rfl ⟨rfl, rfl⟩ ⟨Nat.le_of_ble_eq_true rfl, Nat.le_of_ble_eq_true rfl⟩ hl.1 (Nat.le_of_ble_eq_true rfl) dX7_burn_16 ⟨Nat.le_of_ble_eq_true rfl, Nat.le_of_ble_eq_true rfl⟩) hS (fun H locs (hW : GW z ad (GC z ad N X u11) H) hS => ?_)
  refine lv_aload_n hx hb dX7_burn_19 rfl (lv_at hl 0 rfl) ?_
  refine lv_dup hx hb dX7_burn_20 rfl ?_
  refine nb_get hx hb hT hK hown hW fl_X7_55 kr_0 (v := .int (u11 3 0 0)) rfl dX7_burn_21 ?_
  refine lv_iconst (v := 5) hx hb dX7_burn_24 (by decide) ?_
  refine lv_isub hx hb dX7_burn_25 ?_
  obtain ⟨u12, eu12, h⟩ := nm_s h
  refine nb_put hx hb hT hK hown hW hS fl_X7_55 tyX7 tyX7_ok nmX7 kr_0 (v := .int ((u11 3 0 0) - 5)) rfl rfl rfl (Nat.le_of_ble_eq_true rfl) ((gp_3).trans (congrArg (GC z ad N X) eu12.symm)) dX7_burn_26 (fun H locs hW hS => ?_)
  refine lv_aload_n hx hb dX7_burn_29 rfl (lv_at hl 0 rfl) ?_
  refine nb_get hx hb hT hK hown hW fl_X7_11 kr_0 (v := .ref (ad 1 0)) rfl dX7_burn_30 ?_
  refine lv_iload_n hx hb dX7_burn_33 rfl (lv_at hl 1 rfl) ?_
  refine nb_aald hx hb hK hW 2 kr_1 rfl rfl (inb_in g7) (a := ad 12 (ix x1)) (qrow_at g8) dX7_burn_34 ?_
  refine nb_get hx hb hT hK hown hW fl_X7_117 (kr_12 (Or.inl g8)) (v := .int (u12 12 (ix x1) 0)) rfl dX7_burn_35 ?_
  exact absurd h (by intro q; cases q)
-- Panyard.tuner
set_option maxRecDepth 100000 in
set_option maxHeartbeats 4000000 in
theorem cx_X7_tuner (l : Launch) (z : Zt) (ad : Ad) (N : Nt) (X : Gt) (u : St) (x1 : Int32) (x2 : Int32) (hfl : l.stackTraces = false) {E9 : String} {u9 : St} (h : f_X7_tuner N u x1 x2 = some (.error E9, u9)) : MX l z yX7_tuner cX7_tuner 4 (some .int) { frames := 7, cells := 1, slots := 6, locals := 110 } [.ref (ad 0 0), .int x1, .int x2] ad (GC z ad N X u) (QiF z) (GC z ad N X u9) E9 := by
  refine vx_ofW (cc := cX7_tuner) (maxL := 4) (ret := (some .int)) (by decide) rfl ?_
  intro p e s m args below meth c s₁ B hml ht hv
  obtain ⟨rfl, hSW, hW⟩ := hv
  have hx := B.exec; have hb := B.bytes; have hr := B.returns; have hlocks := B.notSynchronized
  have hown : s.vm.findClass RX7 = some m.cls := findClass_of_methodNamed B.named
  obtain ⟨hT, hK, hST, hB0⟩ := id hSW
  have hS : va_S (zA z) s.heap s.heap [] := va_S.rf
  have hl := lv_entry ([.ref (ad 0 0), .int x1, .int x2]) (n := 4) (Nat.le_of_ble_eq_true rfl)
  rw [lg_entry_eq]
  generalize (lg_sl ([.ref (ad 0 0), .int x1, .int x2]) ++ List.replicate (4 - (lg_sl ([.ref (ad 0 0), .int x1, .int x2])).length) Slot.unset).toArray = ls at hl ⊢
  have hl : lv_has ls 4 [(0, .ref (ad 0 0)), (1, .int x1), (2, .int x2)] := hl
  unfold f_X7_tuner at h
  refine lv_aload_n hx hb dX7_tuner_0 rfl (lv_at hl 0 rfl) ?_
  refine lv_iload_n hx hb dX7_tuner_1 rfl (lv_at hl 1 rfl) ?_
  rcases xb_e h with ⟨r1, u3, h2, h⟩ | h
  rotate_left
  · exact nx_cv (nx_runV (As := [.int x1]) (rest := []) hx hb hml hown hSW hS hW (cx_X7_requirePan l z ad N X u x1 hfl h) mf_X7_requirePan (List.mem_of_getElem? (i := 468) (by decide +kernel)) kr_0 rfl rfl ⟨rfl, rfl⟩ ⟨Nat.le_of_ble_eq_true rfl, Nat.le_of_ble_eq_true rfl⟩ hl.1 (Nat.le_of_ble_eq_true rfl) dX7_tuner_2 ⟨Nat.le_of_ble_eq_true rfl, Nat.le_of_ble_eq_true rfl⟩) hS (fun ce9 q9 H locs hce hcv hcc hW hS => nx_out (fun x9 h9 => (ht x9 h9).elim) hlocks hce hcv hcc hW hS ⟨Nat.le_of_ble_eq_true rfl, Nat.le_of_ble_eq_true rfl⟩)
  refine nb_cv (nb_runV (As := [.int x1]) (rest := []) hx hb hml hown hSW hS hW (c_X7_requirePan l z ad N X u x1 h2) mf_X7_requirePan lk_X7_90 kr_0 rfl rfl ⟨rfl, rfl⟩ ⟨Nat.le_of_ble_eq_true rfl, Nat.le_of_ble_eq_true rfl⟩ hl.1 (Nat.le_of_ble_eq_true rfl) dX7_tuner_2 ⟨Nat.le_of_ble_eq_true rfl, Nat.le_of_ble_eq_true rfl⟩) hS (fun H locs (hW : GW z ad (GC z ad N X u3) H) hS => ?_)
  refine lv_iload_n hx hb dX7_tuner_5 rfl (lv_at hl 2 rfl) ?_
  refine lv_bipush (v := 10) hx hb dX7_tuner_6 (by decide) ?_
  refine lv_bipush (v := 120) hx hb dX7_tuner_8 (by decide) ?_
  obtain ⟨r4, u6, h5, h⟩ := sb_s h
  refine nb_ci (nb_runS (As := [.int x2, .int 10, .int 120]) (rest := []) hx hb hml hown hSW hS hW (c_X7_isWithin l z ad N X u3 x2 10 120 h5) mf_X7_isWithin lk_X7_96 rfl ⟨rfl, rfl⟩ ⟨Nat.le_of_ble_eq_true rfl, Nat.le_of_ble_eq_true rfl⟩ hl.1 (Nat.le_of_ble_eq_true rfl) dX7_tuner_10 ⟨Nat.le_of_ble_eq_true rfl, Nat.le_of_ble_eq_true rfl⟩) hS (fun H locs (hW : GW z ad (GC z ad N X u6) H) hS => ?_)
  refine lv_if_ne (tgt := 26) hx hb dX7_tuner_13 (by decide) (fun c7 => ?_) (fun c7 => ?_)
  · replace h := ite_f h c7
    refine lv_aload_n hx hb dX7_tuner_26 rfl (lv_at hl 0 rfl) ?_
    refine lv_iload_n hx hb dX7_tuner_27 rfl (lv_at hl 1 rfl) ?_
    rcases xb_e h with ⟨r8, u10, h09, h⟩ | h
    rotate_left
    · exact nx_cv (nx_runV (As := [.int x1]) (rest := []) hx hb hml hown hSW hS hW (cx_X7_requireWhole l z ad N X u6 x1 hfl h) mf_X7_requireWhole (List.mem_of_getElem? (i := 686) (by decide +kernel)) kr_0 rfl rfl ⟨rfl, rfl⟩ ⟨Nat.le_of_ble_eq_true rfl, Nat.le_of_ble_eq_true rfl⟩ hl.1 (Nat.le_of_ble_eq_true rfl) dX7_tuner_28 ⟨Nat.le_of_ble_eq_true rfl, Nat.le_of_ble_eq_true rfl⟩) hS (fun ce9 q9 H locs hce hcv hcc hW hS => nx_out (fun x9 h9 => (ht x9 h9).elim) hlocks hce hcv hcc hW hS ⟨Nat.le_of_ble_eq_true rfl, Nat.le_of_ble_eq_true rfl⟩)
    refine nb_cv (nb_runV (As := [.int x1]) (rest := []) hx hb hml hown hSW hS hW (c_X7_requireWhole l z ad N X u6 x1 h09) mf_X7_requireWhole lk_X7_105 kr_0 rfl rfl ⟨rfl, rfl⟩ ⟨Nat.le_of_ble_eq_true rfl, Nat.le_of_ble_eq_true rfl⟩ hl.1 (Nat.le_of_ble_eq_true rfl) dX7_tuner_28 ⟨Nat.le_of_ble_eq_true rfl, Nat.le_of_ble_eq_true rfl⟩) hS (fun H locs (hW : GW z ad (GC z ad N X u10) H) hS => ?_)
    refine lv_aload_n hx hb dX7_tuner_31 rfl (lv_at hl 0 rfl) ?_
    refine nb_get hx hb hT hK hown hW fl_X7_11 kr_0 (v := .ref (ad 1 0)) rfl dX7_tuner_32 ?_
    refine lv_iload_n hx hb dX7_tuner_35 rfl (lv_at hl 1 rfl) ?_
    obtain ⟨g11, h⟩ := gd_s h
    obtain ⟨g12, h⟩ := gd_s h
    refine nb_aald hx hb hK hW 2 kr_1 rfl rfl (inb_in g11) (a := ad 12 (ix x1)) (qrow_at g12) dX7_tuner_36 ?_
    refine lv_iload_n hx hb dX7_tuner_37 rfl (lv_at hl 2 rfl) ?_
    refine lv_bipush (v := 10) hx hb dX7_tuner_38 (by decide) ?_
    refine lv_idiv hx hb dX7_tuner_40 (by decide) ?_
    obtain ⟨r13, u15, h14, h⟩ := sb_s h
    refine nb_ci (nb_runV (As := [.int (x2 / 10)]) (rest := []) hx hb hml hown hSW hS hW (c_X3_tuneUpTo l z ad N X u10 (ix x1) (x2 / 10) (Or.inl g12) h14) mf_X3_tuneUpTo lk_X7_122 (kr_12 (Or.inl g12)) rfl rfl ⟨rfl, rfl⟩ ⟨Nat.le_of_ble_eq_true rfl, Nat.le_of_ble_eq_true rfl⟩ hl.1 (Nat.le_of_ble_eq_true rfl) dX7_tuner_41 ⟨Nat.le_of_ble_eq_true rfl, Nat.le_of_ble_eq_true rfl⟩) hS (fun H locs (hW : GW z ad (GC z ad N X u15) H) hS => ?_)
    refine lv_istore_n (lv' := [(3, .int r13), (0, .ref (ad 0 0)), (1, .int x1), (2, .int x2)]) hx hb dX7_tuner_44 rfl hl (by decide) rfl (fun ls hl => ?_)
    refine lv_aload_n hx hb dX7_tuner_45 rfl (lv_at hl 1 rfl) ?_
    refine lv_dup hx hb dX7_tuner_46 rfl ?_
    refine nb_get hx hb hT hK hown hW fl_X7_55 kr_0 (v := .int (u15 3 0 0)) rfl dX7_tuner_47 ?_
    refine lv_iconst (v := 4) hx hb dX7_tuner_50 (by decide) ?_
    refine lv_iload_n hx hb dX7_tuner_51 rfl (lv_at hl 0 rfl) ?_
    refine lv_imul hx hb dX7_tuner_52 ?_
    refine lv_isub hx hb dX7_tuner_53 ?_
    obtain ⟨u16, eu16, h⟩ := nm_s h
    refine nb_put hx hb hT hK hown hW hS fl_X7_55 tyX7 tyX7_ok nmX7 kr_0 (v := .int ((u15 3 0 0) - (4 * r13))) rfl rfl rfl (Nat.le_of_ble_eq_true rfl) ((gp_3).trans (congrArg (GC z ad N X) eu16.symm)) dX7_tuner_54 (fun H locs hW hS => ?_)
    refine lv_iload_n hx hb dX7_tuner_57 rfl (lv_at hl 0 rfl) ?_
    exact absurd h (by intro q; cases q)
  · replace h := ite_t h c7
    obtain ⟨rfl, rfl⟩ : _ = E9 ∧ u6 = u9 := ⟨Except.error.inj (congrArg Prod.fst (Option.some.inj h)), congrArg Prod.snd (Option.some.inj h)⟩
    exact nb_throwS (rest := []) hx hb hfl hSW hown th_X7_100_104 (List.mem_of_getElem? (i := 18) rfl) hW hS hml hl.1 dX7_tuner_16 dX7_tuner_19 dX7_tuner_20 dX7_tuner_22 dX7_tuner_25 (fun x9 h9 => (ht x9 h9).elim) ⟨Nat.le_of_ble_eq_true rfl, Nat.le_of_ble_eq_true rfl, Nat.le_of_ble_eq_true rfl, Nat.le_of_ble_eq_true rfl⟩ hlocks ⟨rfl, rfl⟩
-- Panyard.requirePhraseWords
set_option maxRecDepth 100000 in
set_option maxHeartbeats 4000000 in
theorem cx_X7_requirePhraseWords (l : Launch) (z : Zt) (ad : Ad) (N : Nt) (X : Gt) (u : St) (x0 : Int32) (x1 : Int32) (hfl : l.stackTraces = false) {E9 : String} {u9 : St} (h : f_X7_requirePhraseWords N u x0 x1 = some (.error E9, u9)) : MX l z yX7_requirePhraseWords cX7_requirePhraseWords 2 none { frames := 6, cells := 1, slots := 6, locals := 82 } [.int x0, .int x1] ad (GC z ad N X u) (QvF z) (GC z ad N X u9) E9 := by
  refine vx_ofW (cc := cX7_requirePhraseWords) (maxL := 2) (ret := none) (by decide) rfl ?_
  intro p e s m args below meth c s₁ B hml ht hv
  obtain ⟨rfl, hSW, hW⟩ := hv
  have hx := B.exec; have hb := B.bytes; have hr := B.returns; have hlocks := B.notSynchronized
  have hown : s.vm.findClass RX7 = some m.cls := findClass_of_methodNamed B.named
  obtain ⟨hT, hK, hST, hB0⟩ := id hSW
  have hS : va_S (zA z) s.heap s.heap [] := va_S.rf
  have hl := lv_entry ([.int x0, .int x1]) (n := 2) (Nat.le_of_ble_eq_true rfl)
  rw [lg_entry_eq]
  generalize (lg_sl ([.int x0, .int x1]) ++ List.replicate (2 - (lg_sl ([.int x0, .int x1])).length) Slot.unset).toArray = ls at hl ⊢
  have hl : lv_has ls 2 [(0, .int x0), (1, .int x1)] := hl
  unfold f_X7_requirePhraseWords at h
  refine lv_iload_n hx hb dX7_requirePhraseWords_0 rfl (lv_at hl 0 rfl) ?_
  refine lv_iconst (v := 1) hx hb dX7_requirePhraseWords_1 (by decide) ?_
  refine lv_bipush (v := 9) hx hb dX7_requirePhraseWords_2 (by decide) ?_
  obtain ⟨r1, u3, h2, h⟩ := sb_s h
  refine nb_ci (nb_runS (As := [.int x0, .int 1, .int 9]) (rest := []) hx hb hml hown hSW hS hW (c_X7_isWithin l z ad N X u x0 1 9 h2) mf_X7_isWithin lk_X7_96 rfl ⟨rfl, rfl⟩ ⟨Nat.le_of_ble_eq_true rfl, Nat.le_of_ble_eq_true rfl⟩ hl.1 (Nat.le_of_ble_eq_true rfl) dX7_requirePhraseWords_4 ⟨Nat.le_of_ble_eq_true rfl, Nat.le_of_ble_eq_true rfl⟩) hS (fun H locs (hW : GW z ad (GC z ad N X u3) H) hS => ?_)
  refine lv_if_ne (tgt := 21) hx hb dX7_requirePhraseWords_7 (by decide) (fun c4 => ?_) (fun c4 => ?_)
  · replace h := ite_f h c4
    refine lv_iload_n hx hb dX7_requirePhraseWords_21 rfl (lv_at hl 1 rfl) ?_
    refine lv_iconst (v := 1) hx hb dX7_requirePhraseWords_22 (by decide) ?_
    refine lv_sipush (v := 255) hx hb dX7_requirePhraseWords_23 (by decide) ?_
    obtain ⟨r5, u7, h6, h⟩ := sb_s h
    refine nb_ci (nb_runS (As := [.int x1, .int 1, .int 255]) (rest := []) hx hb hml hown hSW hS hW (c_X7_isWithin l z ad N X u3 x1 1 255 h6) mf_X7_isWithin lk_X7_96 rfl ⟨rfl, rfl⟩ ⟨Nat.le_of_ble_eq_true rfl, Nat.le_of_ble_eq_true rfl⟩ hl.1 (Nat.le_of_ble_eq_true rfl) dX7_requirePhraseWords_26 ⟨Nat.le_of_ble_eq_true rfl, Nat.le_of_ble_eq_true rfl⟩) hS (fun H locs (hW : GW z ad (GC z ad N X u7) H) hS => ?_)
    refine lv_if_ne (tgt := 43) hx hb dX7_requirePhraseWords_29 (by decide) (fun c8 => ?_) (fun c8 => ?_)
    · replace h := ite_f h c8
      exact absurd h (by intro q; cases q)
    · replace h := ite_t h c8
      obtain ⟨rfl, rfl⟩ : _ = E9 ∧ u7 = u9 := ⟨Except.error.inj (congrArg Prod.fst (Option.some.inj h)), congrArg Prod.snd (Option.some.inj h)⟩
      exact nb_throwSW (rest := []) hx hb hfl hSW hown th_X7_100_104 (List.mem_of_getElem? (i := 20) rfl) hW hS hml hl.1 dX7_requirePhraseWords_32 dX7_requirePhraseWords_35 dX7_requirePhraseWords_36 dX7_requirePhraseWords_39 dX7_requirePhraseWords_42 (fun x9 h9 => (ht x9 h9).elim) ⟨Nat.le_of_ble_eq_true rfl, Nat.le_of_ble_eq_true rfl, Nat.le_of_ble_eq_true rfl, Nat.le_of_ble_eq_true rfl⟩ hlocks ⟨rfl, rfl⟩
  · replace h := ite_t h c4
    obtain ⟨rfl, rfl⟩ : _ = E9 ∧ u3 = u9 := ⟨Except.error.inj (congrArg Prod.fst (Option.some.inj h)), congrArg Prod.snd (Option.some.inj h)⟩
    exact nb_throwSW (rest := []) hx hb hfl hSW hown th_X7_100_104 (List.mem_of_getElem? (i := 19) rfl) hW hS hml hl.1 dX7_requirePhraseWords_10 dX7_requirePhraseWords_13 dX7_requirePhraseWords_14 dX7_requirePhraseWords_17 dX7_requirePhraseWords_20 (fun x9 h9 => (ht x9 h9).elim) ⟨Nat.le_of_ble_eq_true rfl, Nat.le_of_ble_eq_true rfl, Nat.le_of_ble_eq_true rfl, Nat.le_of_ble_eq_true rfl⟩ hlocks ⟨rfl, rfl⟩
-- Panyard.phrase
set_option maxRecDepth 100000 in
set_option maxHeartbeats 4000000 in
theorem cx_X7_phrase (l : Launch) (z : Zt) (ad : Ad) (N : Nt) (X : Gt) (u : St) (x1 : Int32) (x2 : Int32) (x3 : Int32) (hfl : l.stackTraces = false) {E9 : String} {u9 : St} (h : f_X7_phrase N u x1 x2 x3 = some (.error E9, u9)) : MX l z yX7_phrase cX7_phrase 5 (some .int) { frames := 7, cells := 1, slots := 6, locals := 103 } [.ref (ad 0 0), .int x1, .int x2, .int x3] ad (GC z ad N X u) (QiF z) (GC z ad N X u9) E9 := by
  refine vx_ofW (cc := cX7_phrase) (maxL := 5) (ret := (some .int)) (by decide) rfl ?_
  intro p e s m args below meth c s₁ B hml ht hv
  obtain ⟨rfl, hSW, hW⟩ := hv
  have hx := B.exec; have hb := B.bytes; have hr := B.returns; have hlocks := B.notSynchronized
  have hown : s.vm.findClass RX7 = some m.cls := findClass_of_methodNamed B.named
  obtain ⟨hT, hK, hST, hB0⟩ := id hSW
  have hS : va_S (zA z) s.heap s.heap [] := va_S.rf
  have hl := lv_entry ([.ref (ad 0 0), .int x1, .int x2, .int x3]) (n := 5) (Nat.le_of_ble_eq_true rfl)
  rw [lg_entry_eq]
  generalize (lg_sl ([.ref (ad 0 0), .int x1, .int x2, .int x3]) ++ List.replicate (5 - (lg_sl ([.ref (ad 0 0), .int x1, .int x2, .int x3])).length) Slot.unset).toArray = ls at hl ⊢
  have hl : lv_has ls 5 [(0, .ref (ad 0 0)), (1, .int x1), (2, .int x2), (3, .int x3)] := hl
  unfold f_X7_phrase at h
  refine lv_iload_n hx hb dX7_phrase_0 rfl (lv_at hl 1 rfl) ?_
  rcases xb_e h with ⟨r1, u3, h2, h⟩ | h
  rotate_left
  · exact nx_cv (nx_runS (As := [.int x1]) (rest := []) hx hb hml hown hSW hS hW (cx_X7_requireSection l z ad N X u x1 hfl h) mf_X7_requireSection (List.mem_of_getElem? (i := 672) (by decide +kernel)) rfl ⟨rfl, rfl⟩ ⟨Nat.le_of_ble_eq_true rfl, Nat.le_of_ble_eq_true rfl⟩ hl.1 (Nat.le_of_ble_eq_true rfl) dX7_phrase_1 ⟨Nat.le_of_ble_eq_true rfl, Nat.le_of_ble_eq_true rfl⟩) hS (fun ce9 q9 H locs hce hcv hcc hW hS => nx_out (fun x9 h9 => (ht x9 h9).elim) hlocks hce hcv hcc hW hS ⟨Nat.le_of_ble_eq_true rfl, Nat.le_of_ble_eq_true rfl⟩)
  refine nb_cv (nb_runS (As := [.int x1]) (rest := []) hx hb hml hown hSW hS hW (c_X7_requireSection l z ad N X u x1 h2) mf_X7_requireSection lk_X7_76 rfl ⟨rfl, rfl⟩ ⟨Nat.le_of_ble_eq_true rfl, Nat.le_of_ble_eq_true rfl⟩ hl.1 (Nat.le_of_ble_eq_true rfl) dX7_phrase_1 ⟨Nat.le_of_ble_eq_true rfl, Nat.le_of_ble_eq_true rfl⟩) hS (fun H locs (hW : GW z ad (GC z ad N X u3) H) hS => ?_)
  refine lv_iload_n hx hb dX7_phrase_4 rfl (lv_at hl 2 rfl) ?_
  refine lv_iload_n hx hb dX7_phrase_5 rfl (lv_at hl 3 rfl) ?_
  rcases xb_e h with ⟨r4, u6, h5, h⟩ | h
  rotate_left
  · exact nx_cv (nx_runS (As := [.int x2, .int x3]) (rest := []) hx hb hml hown hSW hS hW (cx_X7_requirePhraseWords l z ad N X u3 x2 x3 hfl h) mf_X7_requirePhraseWords (List.mem_of_getElem? (i := 718) (by decide +kernel)) rfl ⟨rfl, rfl⟩ ⟨Nat.le_of_ble_eq_true rfl, Nat.le_of_ble_eq_true rfl⟩ hl.1 (Nat.le_of_ble_eq_true rfl) dX7_phrase_6 ⟨Nat.le_of_ble_eq_true rfl, Nat.le_of_ble_eq_true rfl⟩) hS (fun ce9 q9 H locs hce hcv hcc hW hS => nx_out (fun x9 h9 => (ht x9 h9).elim) hlocks hce hcv hcc hW hS ⟨Nat.le_of_ble_eq_true rfl, Nat.le_of_ble_eq_true rfl⟩)
  refine nb_cv (nb_runS (As := [.int x2, .int x3]) (rest := []) hx hb hml hown hSW hS hW (c_X7_requirePhraseWords l z ad N X u3 x2 x3 h5) mf_X7_requirePhraseWords lk_X7_130 rfl ⟨rfl, rfl⟩ ⟨Nat.le_of_ble_eq_true rfl, Nat.le_of_ble_eq_true rfl⟩ hl.1 (Nat.le_of_ble_eq_true rfl) dX7_phrase_6 ⟨Nat.le_of_ble_eq_true rfl, Nat.le_of_ble_eq_true rfl⟩) hS (fun H locs (hW : GW z ad (GC z ad N X u6) H) hS => ?_)
  refine lv_aload_n hx hb dX7_phrase_9 rfl (lv_at hl 0 rfl) ?_
  refine nb_get hx hb hT hK hown hW fl_X7_133 kr_0 (v := .int (u6 1 0 0)) rfl dX7_phrase_10 ?_
  refine lv_bipush (v := 8) hx hb dX7_phrase_13 (by decide) ?_
  refine lv_icmp_lt (tgt := 28) hx hb dX7_phrase_15 (by decide) (fun c7 => ?_) (fun c7 => ?_)
  · replace h := ite_t h c7
    refine lv_aload_n hx hb dX7_phrase_28 rfl (lv_at hl 0 rfl) ?_
    refine nb_get hx hb hT hK hown hW fl_X7_133 kr_0 (v := .int (u6 1 0 0)) rfl dX7_phrase_29 ?_
    refine lv_topi (fun v8 ev8 => ?_)
    replace h := nm_at ev8 h
    refine lv_istore (lv' := [(4, .int v8), (0, .ref (ad 0 0)), (1, .int x1), (2, .int x2), (3, .int x3)]) hx hb dX7_phrase_32 hl (by decide) rfl (fun ls hl => ?_)
    refine lv_aload_n hx hb dX7_phrase_34 rfl (lv_at hl 1 rfl) ?_
    refine nb_get hx hb hT hK hown hW fl_X7_17 kr_0 (v := .ref (ad 2 0)) rfl dX7_phrase_35 ?_
    refine lv_iload hx hb dX7_phrase_38 (lv_at hl 0 rfl) ?_
    obtain ⟨g09, h⟩ := gd_s h
    obtain ⟨u10, eu10, h⟩ := nm_s h
    exact absurd h (by intro q; cases q)
  · replace h := ite_f h c7
    obtain ⟨rfl, rfl⟩ : _ = E9 ∧ u6 = u9 := ⟨Except.error.inj (congrArg Prod.fst (Option.some.inj h)), congrArg Prod.snd (Option.some.inj h)⟩
    exact nb_throwS (rest := []) hx hb hfl hSW hown th_X7_83_87 (List.mem_of_getElem? (i := 21) rfl) hW hS hml hl.1 dX7_phrase_18 dX7_phrase_21 dX7_phrase_22 dX7_phrase_24 dX7_phrase_27 (fun x9 h9 => (ht x9 h9).elim) ⟨Nat.le_of_ble_eq_true rfl, Nat.le_of_ble_eq_true rfl, Nat.le_of_ble_eq_true rfl, Nat.le_of_ble_eq_true rfl⟩ hlocks ⟨rfl, rfl⟩
-- Panyard.requirePhrase
set_option maxRecDepth 100000 in
set_option maxHeartbeats 4000000 in
theorem cx_X7_requirePhrase (l : Launch) (z : Zt) (ad : Ad) (N : Nt) (X : Gt) (u : St) (x1 : Int32) (hfl : l.stackTraces = false) {E9 : String} {u9 : St} (h : f_X7_requirePhrase N u x1 = some (.error E9, u9)) : MX l z yX7_requirePhrase cX7_requirePhrase 2 none { frames := 6, cells := 1, slots := 6, locals := 82 } [.ref (ad 0 0), .int x1] ad (GC z ad N X u) (QvF z) (GC z ad N X u9) E9 := by
  refine vx_ofW (cc := cX7_requirePhrase) (maxL := 2) (ret := none) (by decide) rfl ?_
  intro p e s m args below meth c s₁ B hml ht hv
  obtain ⟨rfl, hSW, hW⟩ := hv
  have hx := B.exec; have hb := B.bytes; have hr := B.returns; have hlocks := B.notSynchronized
  have hown : s.vm.findClass RX7 = some m.cls := findClass_of_methodNamed B.named
  obtain ⟨hT, hK, hST, hB0⟩ := id hSW
  have hS : va_S (zA z) s.heap s.heap [] := va_S.rf
  have hl := lv_entry ([.ref (ad 0 0), .int x1]) (n := 2) (Nat.le_of_ble_eq_true rfl)
  rw [lg_entry_eq]
  generalize (lg_sl ([.ref (ad 0 0), .int x1]) ++ List.replicate (2 - (lg_sl ([.ref (ad 0 0), .int x1])).length) Slot.unset).toArray = ls at hl ⊢
  have hl : lv_has ls 2 [(0, .ref (ad 0 0)), (1, .int x1)] := hl
  unfold f_X7_requirePhrase at h
  refine lv_iload_n hx hb dX7_requirePhrase_0 rfl (lv_at hl 1 rfl) ?_
  refine lv_iconst (v := 0) hx hb dX7_requirePhrase_1 (by decide) ?_
  refine lv_aload_n hx hb dX7_requirePhrase_2 rfl (lv_at hl 0 rfl) ?_
  refine nb_get hx hb hT hK hown hW fl_X7_133 kr_0 (v := .int (u 1 0 0)) rfl dX7_requirePhrase_3 ?_
  refine lv_iconst (v := 1) hx hb dX7_requirePhrase_6 (by decide) ?_
  refine lv_isub hx hb dX7_requirePhrase_7 ?_
  obtain ⟨r1, u3, h2, h⟩ := sb_s h
  refine nb_ci (nb_runS (As := [.int x1, .int 0, .int ((u 1 0 0) - 1)]) (rest := []) hx hb hml hown hSW hS hW (c_X7_isWithin l z ad N X u x1 0 ((u 1 0 0) - 1) h2) mf_X7_isWithin lk_X7_96 rfl ⟨rfl, rfl⟩ ⟨Nat.le_of_ble_eq_true rfl, Nat.le_of_ble_eq_true rfl⟩ hl.1 (Nat.le_of_ble_eq_true rfl) dX7_requirePhrase_8 ⟨Nat.le_of_ble_eq_true rfl, Nat.le_of_ble_eq_true rfl⟩) hS (fun H locs (hW : GW z ad (GC z ad N X u3) H) hS => ?_)
  refine lv_if_ne (tgt := 25) hx hb dX7_requirePhrase_11 (by decide) (fun c4 => ?_) (fun c4 => ?_)
  · replace h := ite_f h c4
    exact absurd h (by intro q; cases q)
  · replace h := ite_t h c4
    obtain ⟨rfl, rfl⟩ : _ = E9 ∧ u3 = u9 := ⟨Except.error.inj (congrArg Prod.fst (Option.some.inj h)), congrArg Prod.snd (Option.some.inj h)⟩
    exact nb_throwSW (rest := []) hx hb hfl hSW hown th_X7_276_280 (List.mem_of_getElem? (i := 4) rfl) hW hS hml hl.1 dX7_requirePhrase_14 dX7_requirePhrase_17 dX7_requirePhrase_18 dX7_requirePhrase_21 dX7_requirePhrase_24 (fun x9 h9 => (ht x9 h9).elim) ⟨Nat.le_of_ble_eq_true rfl, Nat.le_of_ble_eq_true rfl, Nat.le_of_ble_eq_true rfl, Nat.le_of_ble_eq_true rfl⟩ hlocks ⟨rfl, rfl⟩
-- Panyard.change
set_option maxRecDepth 100000 in
set_option maxHeartbeats 4000000 in
theorem cx_X7_change (l : Launch) (z : Zt) (ad : Ad) (N : Nt) (X : Gt) (u : St) (x1 : Int32) (x2 : Int32) (x3 : Int32) (hfl : l.stackTraces = false) {E9 : String} {u9 : St} (h : f_X7_change N u x1 x2 x3 = some (.error E9, u9)) : MX l z yX7_change cX7_change 6 (some .int) { frames := 7, cells := 1, slots := 6, locals := 103 } [.ref (ad 0 0), .int x1, .int x2, .int x3] ad (GC z ad N X u) (QiF z) (GC z ad N X u9) E9 := by
  refine vx_ofW (cc := cX7_change) (maxL := 6) (ret := (some .int)) (by decide) rfl ?_
  intro p e s m args below meth c s₁ B hml ht hv
  obtain ⟨rfl, hSW, hW⟩ := hv
  have hx := B.exec; have hb := B.bytes; have hr := B.returns; have hlocks := B.notSynchronized
  have hown : s.vm.findClass RX7 = some m.cls := findClass_of_methodNamed B.named
  obtain ⟨hT, hK, hST, hB0⟩ := id hSW
  have hS : va_S (zA z) s.heap s.heap [] := va_S.rf
  have hl := lv_entry ([.ref (ad 0 0), .int x1, .int x2, .int x3]) (n := 6) (Nat.le_of_ble_eq_true rfl)
  rw [lg_entry_eq]
  generalize (lg_sl ([.ref (ad 0 0), .int x1, .int x2, .int x3]) ++ List.replicate (6 - (lg_sl ([.ref (ad 0 0), .int x1, .int x2, .int x3])).length) Slot.unset).toArray = ls at hl ⊢
  have hl : lv_has ls 6 [(0, .ref (ad 0 0)), (1, .int x1), (2, .int x2), (3, .int x3)] := hl
  let WW : Heap → List Loc → JFrame → Prop := fun H locs g => W p l e (headSpec [Cond.code yX7_change cX7_change 6 (some .int)] { frames := 7, cells := 1, slots := 6, locals := 103 }).room s m [.ref (ad 0 0), .int x1, .int x2, .int x3].toArray below meth c H locs 0 0 (vx_MQ below (QiF z) (XX z ad (GC z ad N X u9) E9) [.ref (ad 0 0), .int x1, .int x2, .int x3].toArray s 1 6 (zA z)) g
  have hL28b : ∀ (ih28 : Int32 → Nat → Int32 → St → Option (Except String Int32 × St)) (hih28 : ∀ (y5 : Int32) (q4 : Nat) (y1 : Int32) (u : St) (H : Heap) (locs : List Loc) (ls : Array Slot), q4 < N 14 → lv_has ls 6 [(5, .int y5), (4, .ref (ad 14 q4)), (0, .ref (ad 0 0)), (1, .int y1)] → GW z ad (GC z ad N X u) H → va_S (zA z) s.heap H locs → ih28 y5 q4 y1 u = some (.error E9, u9) → WW H locs (F0 m 28 ls [])), ∀ (y5 : Int32) (q4 : Nat) (y1 : Int32) (u : St) (H : Heap) (locs : List Loc) (ls : Array Slot), q4 < N 14 → lv_has ls 6 [(5, .int y5), (4, .ref (ad 14 q4)), (0, .ref (ad 0 0)), (1, .int y1)] → GW z ad (GC z ad N X u) H → va_S (zA z) s.heap H locs → f_X7_change_L28b N ih28 y5 q4 y1 u = some (.error E9, u9) → WW H locs (F0 m 28 ls []) := by
    intro ih28 hih28 y5 q4 y1 u H locs ls hq4 hl hW hS h
    change W p l e _ s m _ below meth c H locs 0 0 _ (F0 m 28 ls [])
    unfold f_X7_change_L28b at h
    refine lv_iload hx hb dX7_change_28 (lv_at hl 0 rfl) ?_
    refine lv_aload_n hx hb dX7_change_30 rfl (lv_at hl 2 rfl) ?_
    refine nb_get hx hb hT hK hown hW fl_X7_147 kr_0 (v := .int (u 2 0 0)) rfl dX7_change_31 ?_
    refine lv_icmp_ge (tgt := 65) hx hb dX7_change_34 (by decide) (fun c12 => ?_) (fun c12 => ?_)
    · replace h := ite_t h c12
      refine lv_aload hx hb dX7_change_65 (lv_at hl 1 rfl) ?_
      refine nb_get hx hb hT hK hown hW fl_X7_157 (kr_14 hq4) (v := .int (u 23 q4 0)) rfl dX7_change_67 ?_
      exact absurd h (by intro q; cases q)
    · replace h := ite_f h c12
      refine lv_aload_n hx hb dX7_change_37 rfl (lv_at hl 2 rfl) ?_
      refine nb_get hx hb hT hK hown hW fl_X7_37 kr_0 (v := .ref (ad 10 0)) rfl dX7_change_38 ?_
      refine lv_iload hx hb dX7_change_41 (lv_at hl 0 rfl) ?_
      refine lv_iload_n hx hb dX7_change_43 rfl (lv_at hl 3 rfl) ?_
      refine lv_aload_n hx hb dX7_change_44 rfl (lv_at hl 2 rfl) ?_
      refine nb_get hx hb hT hK hown hW fl_X7_23 kr_0 (v := .ref (ad 3 0)) rfl dX7_change_45 ?_
      refine lv_iload hx hb dX7_change_48 (lv_at hl 0 rfl) ?_
      obtain ⟨g13, h⟩ := gd_s h
      obtain ⟨g14, h⟩ := gd_s h
      refine nb_aald hx hb hK hW 4 kr_3 rfl rfl (inb_in g13) (a := ad 15 (ix y5)) (qrow_at g14) dX7_change_50 ?_
      refine lv_aload hx hb dX7_change_51 (lv_at hl 1 rfl) ?_
      obtain ⟨r15, u17, h16, h⟩ := sb_s h
      refine nb_ci (nb_runV (As := [.ref (ad 14 q4)]) (rest := [.int y1, .int y5, .ref (ad 10 0)]) hx hb hml hown hSW hS hW (c_X5_mostMemory l z ad N X u (ix y5) q4 g14 hq4 h16) mf_X5_mostMemory lk_X7_150 (kr_15 g14) rfl rfl ⟨rfl, rfl⟩ ⟨Nat.le_of_ble_eq_true rfl, Nat.le_of_ble_eq_true rfl⟩ hl.1 (Nat.le_of_ble_eq_true rfl) dX7_change_53 ⟨Nat.le_of_ble_eq_true rfl, Nat.le_of_ble_eq_true rfl⟩) hS (fun H locs (hW : GW z ad (GC z ad N X u17) H) hS => ?_)
      obtain ⟨r18, u20, h19, h⟩ := sb_s h
      refine nb_cv (nb_runV (As := [.int y5, .int y1, .int r15]) (rest := []) hx hb hml hown hSW hS hW (c_X2_halve l z ad N X u17 0 y5 y1 r15 (by decide) h19) mf_X2_halve lk_X7_154 (kr_10 (by decide)) rfl rfl ⟨rfl, rfl⟩ ⟨Nat.le_of_ble_eq_true rfl, Nat.le_of_ble_eq_true rfl⟩ hl.1 (Nat.le_of_ble_eq_true rfl) dX7_change_56 ⟨Nat.le_of_ble_eq_true rfl, Nat.le_of_ble_eq_true rfl⟩) hS (fun H locs (hW : GW z ad (GC z ad N X u20) H) hS => ?_)
      obtain ⟨v21, ev21, h⟩ := nm_s h
      refine lv_iinc (v := v21) (lv' := [(5, .int v21), (4, .ref (ad 14 q4)), (0, .ref (ad 0 0)), (1, .int y1)]) hx hb dX7_change_59 hl (k := 0) rfl (by rw [ev21]; rfl) (by decide) rfl (fun ls hl => ?_)
      refine lv_goto (tgt := 28) hx hb dX7_change_62 (by decide) ?_
      exact hih28 _ _ _ _ _ _ _ hq4 (lv_sub hl [0, 1, 2, 3] rfl) hW hS h
  have hL28 : ∀ (n : Nat), ∀ (y5 : Int32) (q4 : Nat) (y1 : Int32) (u : St) (H : Heap) (locs : List Loc) (ls : Array Slot), q4 < N 14 → lv_has ls 6 [(5, .int y5), (4, .ref (ad 14 q4)), (0, .ref (ad 0 0)), (1, .int y1)] → GW z ad (GC z ad N X u) H → va_S (zA z) s.heap H locs → f_X7_change_L28 N n y5 q4 y1 u = some (.error E9, u9) → WW H locs (F0 m 28 ls []) := by
    intro n
    induction n with
    | zero => intro y5 q4 y1 u H locs ls hq4 hl hW hS h; exact absurd h (by intro q; cases q)
    | succ n ihn => intro y5 q4 y1 u H locs ls hq4 hl hW hS h; exact hL28b (f_X7_change_L28 N n) ihn y5 q4 y1 u H locs ls hq4 hl hW hS h
  unfold f_X7_change at h
  refine lv_aload_n hx hb dX7_change_0 rfl (lv_at hl 0 rfl) ?_
  refine lv_iload_n hx hb dX7_change_1 rfl (lv_at hl 1 rfl) ?_
  rcases xb_e h with ⟨r1, u3, h2, h⟩ | h
  rotate_left
  · exact nx_cv (nx_runV (As := [.int x1]) (rest := []) hx hb hml hown hSW hS hW (cx_X7_requirePhrase l z ad N X u x1 hfl h) mf_X7_requirePhrase (List.mem_of_getElem? (i := 542) (by decide +kernel)) kr_0 rfl rfl ⟨rfl, rfl⟩ ⟨Nat.le_of_ble_eq_true rfl, Nat.le_of_ble_eq_true rfl⟩ hl.1 (Nat.le_of_ble_eq_true rfl) dX7_change_2 ⟨Nat.le_of_ble_eq_true rfl, Nat.le_of_ble_eq_true rfl⟩) hS (fun ce9 q9 H locs hce hcv hcc hW hS => nx_out (fun x9 h9 => (ht x9 h9).elim) hlocks hce hcv hcc hW hS ⟨Nat.le_of_ble_eq_true rfl, Nat.le_of_ble_eq_true rfl⟩)
  refine nb_cv (nb_runV (As := [.int x1]) (rest := []) hx hb hml hown hSW hS hW (c_X7_requirePhrase l z ad N X u x1 h2) mf_X7_requirePhrase lk_X7_141 kr_0 rfl rfl ⟨rfl, rfl⟩ ⟨Nat.le_of_ble_eq_true rfl, Nat.le_of_ble_eq_true rfl⟩ hl.1 (Nat.le_of_ble_eq_true rfl) dX7_change_2 ⟨Nat.le_of_ble_eq_true rfl, Nat.le_of_ble_eq_true rfl⟩) hS (fun H locs (hW : GW z ad (GC z ad N X u3) H) hS => ?_)
  refine lv_iload_n hx hb dX7_change_5 rfl (lv_at hl 2 rfl) ?_
  refine lv_iload_n hx hb dX7_change_6 rfl (lv_at hl 3 rfl) ?_
  rcases xb_e h with ⟨r4, u6, h5, h⟩ | h
  rotate_left
  · exact nx_cv (nx_runS (As := [.int x2, .int x3]) (rest := []) hx hb hml hown hSW hS hW (cx_X7_requirePhraseWords l z ad N X u3 x2 x3 hfl h) mf_X7_requirePhraseWords (List.mem_of_getElem? (i := 718) (by decide +kernel)) rfl ⟨rfl, rfl⟩ ⟨Nat.le_of_ble_eq_true rfl, Nat.le_of_ble_eq_true rfl⟩ hl.1 (Nat.le_of_ble_eq_true rfl) dX7_change_7 ⟨Nat.le_of_ble_eq_true rfl, Nat.le_of_ble_eq_true rfl⟩) hS (fun ce9 q9 H locs hce hcv hcc hW hS => nx_out (fun x9 h9 => (ht x9 h9).elim) hlocks hce hcv hcc hW hS ⟨Nat.le_of_ble_eq_true rfl, Nat.le_of_ble_eq_true rfl⟩)
  refine nb_cv (nb_runS (As := [.int x2, .int x3]) (rest := []) hx hb hml hown hSW hS hW (c_X7_requirePhraseWords l z ad N X u3 x2 x3 h5) mf_X7_requirePhraseWords lk_X7_130 rfl ⟨rfl, rfl⟩ ⟨Nat.le_of_ble_eq_true rfl, Nat.le_of_ble_eq_true rfl⟩ hl.1 (Nat.le_of_ble_eq_true rfl) dX7_change_7 ⟨Nat.le_of_ble_eq_true rfl, Nat.le_of_ble_eq_true rfl⟩) hS (fun H locs (hW : GW z ad (GC z ad N X u6) H) hS => ?_)
  refine lv_aload_n hx hb dX7_change_10 rfl (lv_at hl 0 rfl) ?_
  refine nb_get hx hb hT hK hown hW fl_X7_17 kr_0 (v := .ref (ad 2 0)) rfl dX7_change_11 ?_
  refine lv_iload_n hx hb dX7_change_14 rfl (lv_at hl 1 rfl) ?_
  obtain ⟨g7, h⟩ := gd_s h
  obtain ⟨g8, h⟩ := gd_s h
  refine nb_aald hx hb hK hW 3 kr_2 rfl rfl (inb_in g7) (a := ad 14 (ix x1)) (qrow_at g8) dX7_change_15 ?_
  refine lv_astore (lv' := [(4, .ref (ad 14 (ix x1))), (0, .ref (ad 0 0)), (1, .int x1), (2, .int x2), (3, .int x3)]) hx hb dX7_change_16 hl (by decide) rfl (fun ls hl => ?_)
  refine lv_aload hx hb dX7_change_18 (lv_at hl 0 rfl) ?_
  refine lv_iload_n hx hb dX7_change_20 rfl (lv_at hl 3 rfl) ?_
  refine lv_iload_n hx hb dX7_change_21 rfl (lv_at hl 4 rfl) ?_
  obtain ⟨r09, u11, h10, h⟩ := sb_s h
  refine nb_cv (nb_runV (As := [.int x2, .int x3]) (rest := []) hx hb hml hown hSW hS hW (c_X4_tellAnew l z ad N X u6 (ix x1) x2 x3 g8 h10) mf_X4_tellAnew lk_X7_144 (kr_14 g8) rfl rfl ⟨rfl, rfl⟩ ⟨Nat.le_of_ble_eq_true rfl, Nat.le_of_ble_eq_true rfl⟩ hl.1 (Nat.le_of_ble_eq_true rfl) dX7_change_22 ⟨Nat.le_of_ble_eq_true rfl, Nat.le_of_ble_eq_true rfl⟩) hS (fun H locs (hW : GW z ad (GC z ad N X u11) H) hS => ?_)
  refine lv_iconst (v := 0) hx hb dX7_change_25 (by decide) ?_
  refine lv_istore (lv' := [(5, .int 0), (4, .ref (ad 14 (ix x1))), (0, .ref (ad 0 0)), (1, .int x1), (2, .int x2), (3, .int x3)]) hx hb dX7_change_26 hl (by decide) rfl (fun ls hl => ?_)
  exact hL28 1000000 _ _ _ _ _ _ _ g8 (lv_sub hl [0, 1, 2, 3] rfl) hW hS h
-- Panyard.put
set_option maxRecDepth 100000 in
set_option maxHeartbeats 4000000 in
theorem cx_X7_put (l : Launch) (z : Zt) (ad : Ad) (N : Nt) (X : Gt) (u : St) (x1 : Int32) (hfl : l.stackTraces = false) {E9 : String} {u9 : St} (h : f_X7_put N u x1 = some (.error E9, u9)) : MX l z yX7_put cX7_put 3 (some .int) { frames := 7, cells := 1, slots := 6, locals := 103 } [.ref (ad 0 0), .int x1] ad (GC z ad N X u) (QiF z) (GC z ad N X u9) E9 := by
  refine vx_ofW (cc := cX7_put) (maxL := 3) (ret := (some .int)) (by decide) rfl ?_
  intro p e s m args below meth c s₁ B hml ht hv
  obtain ⟨rfl, hSW, hW⟩ := hv
  have hx := B.exec; have hb := B.bytes; have hr := B.returns; have hlocks := B.notSynchronized
  have hown : s.vm.findClass RX7 = some m.cls := findClass_of_methodNamed B.named
  obtain ⟨hT, hK, hST, hB0⟩ := id hSW
  have hS : va_S (zA z) s.heap s.heap [] := va_S.rf
  have hl := lv_entry ([.ref (ad 0 0), .int x1]) (n := 3) (Nat.le_of_ble_eq_true rfl)
  rw [lg_entry_eq]
  generalize (lg_sl ([.ref (ad 0 0), .int x1]) ++ List.replicate (3 - (lg_sl ([.ref (ad 0 0), .int x1])).length) Slot.unset).toArray = ls at hl ⊢
  have hl : lv_has ls 3 [(0, .ref (ad 0 0)), (1, .int x1)] := hl
  unfold f_X7_put at h
  refine lv_aload_n hx hb dX7_put_0 rfl (lv_at hl 0 rfl) ?_
  refine lv_iload_n hx hb dX7_put_1 rfl (lv_at hl 1 rfl) ?_
  rcases xb_e h with ⟨r1, u3, h2, h⟩ | h
  rotate_left
  · exact nx_cv (nx_runV (As := [.int x1]) (rest := []) hx hb hml hown hSW hS hW (cx_X7_requirePhrase l z ad N X u x1 hfl h) mf_X7_requirePhrase (List.mem_of_getElem? (i := 542) (by decide +kernel)) kr_0 rfl rfl ⟨rfl, rfl⟩ ⟨Nat.le_of_ble_eq_true rfl, Nat.le_of_ble_eq_true rfl⟩ hl.1 (Nat.le_of_ble_eq_true rfl) dX7_put_2 ⟨Nat.le_of_ble_eq_true rfl, Nat.le_of_ble_eq_true rfl⟩) hS (fun ce9 q9 H locs hce hcv hcc hW hS => nx_out (fun x9 h9 => (ht x9 h9).elim) hlocks hce hcv hcc hW hS ⟨Nat.le_of_ble_eq_true rfl, Nat.le_of_ble_eq_true rfl⟩)
  refine nb_cv (nb_runV (As := [.int x1]) (rest := []) hx hb hml hown hSW hS hW (c_X7_requirePhrase l z ad N X u x1 h2) mf_X7_requirePhrase lk_X7_141 kr_0 rfl rfl ⟨rfl, rfl⟩ ⟨Nat.le_of_ble_eq_true rfl, Nat.le_of_ble_eq_true rfl⟩ hl.1 (Nat.le_of_ble_eq_true rfl) dX7_put_2 ⟨Nat.le_of_ble_eq_true rfl, Nat.le_of_ble_eq_true rfl⟩) hS (fun H locs (hW : GW z ad (GC z ad N X u3) H) hS => ?_)
  refine lv_aload_n hx hb dX7_put_5 rfl (lv_at hl 0 rfl) ?_
  refine nb_get hx hb hT hK hown hW fl_X7_30 kr_0 (v := .ref (ad 8 0)) rfl dX7_put_6 ?_
  refine nb_get hx hb hT hK hown hW fl_X7_160 (kr_8 (by decide)) (v := .int (u3 43 0 0)) rfl dX7_put_9 ?_
  refine lv_bipush (v := 10) hx hb dX7_put_12 (by decide) ?_
  refine lv_icmp_lt (tgt := 27) hx hb dX7_put_14 (by decide) (fun c4 => ?_) (fun c4 => ?_)
  · replace h := ite_t h c4
    refine lv_aload_n hx hb dX7_put_27 rfl (lv_at hl 0 rfl) ?_
    refine nb_get hx hb hT hK hown hW fl_X7_30 kr_0 (v := .ref (ad 8 0)) rfl dX7_put_28 ?_
    refine nb_get hx hb hT hK hown hW fl_X7_160 (kr_8 (by decide)) (v := .int (u3 43 0 0)) rfl dX7_put_31 ?_
    refine lv_topi (fun v5 ev5 => ?_)
    replace h := nm_at ev5 h
    refine lv_istore_n (lv' := [(2, .int v5), (0, .ref (ad 0 0)), (1, .int x1)]) hx hb dX7_put_34 rfl hl (by decide) rfl (fun ls hl => ?_)
    refine lv_aload_n hx hb dX7_put_35 rfl (lv_at hl 1 rfl) ?_
    refine nb_get hx hb hT hK hown hW fl_X7_30 kr_0 (v := .ref (ad 8 0)) rfl dX7_put_36 ?_
    refine lv_iload_n hx hb dX7_put_39 rfl (lv_at hl 2 rfl) ?_
    obtain ⟨r6, u8, h7, h⟩ := sb_s h
    refine nb_cv (nb_runV (As := [.int x1]) (rest := []) hx hb hml hown hSW hS hW (c_X0_append l z ad N X u3 0 x1 (by decide) h7) mf_X0_append lk_X7_165 (kr_8 (by decide)) rfl rfl ⟨rfl, rfl⟩ ⟨Nat.le_of_ble_eq_true rfl, Nat.le_of_ble_eq_true rfl⟩ hl.1 (Nat.le_of_ble_eq_true rfl) dX7_put_40 ⟨Nat.le_of_ble_eq_true rfl, Nat.le_of_ble_eq_true rfl⟩) hS (fun H locs (hW : GW z ad (GC z ad N X u8) H) hS => ?_)
    refine lv_iload_n hx hb dX7_put_43 rfl (lv_at hl 0 rfl) ?_
    exact absurd h (by intro q; cases q)
  · replace h := ite_f h c4
    obtain ⟨rfl, rfl⟩ : _ = E9 ∧ u3 = u9 := ⟨Except.error.inj (congrArg Prod.fst (Option.some.inj h)), congrArg Prod.snd (Option.some.inj h)⟩
    exact nb_throwS (rest := []) hx hb hfl hSW hown th_X7_83_87 (List.mem_of_getElem? (i := 22) rfl) hW hS hml hl.1 dX7_put_17 dX7_put_20 dX7_put_21 dX7_put_23 dX7_put_26 (fun x9 h9 => (ht x9 h9).elim) ⟨Nat.le_of_ble_eq_true rfl, Nat.le_of_ble_eq_true rfl, Nat.le_of_ble_eq_true rfl, Nat.le_of_ble_eq_true rfl⟩ hlocks ⟨rfl, rfl⟩
-- Panyard.requirePlace
set_option maxRecDepth 100000 in
set_option maxHeartbeats 4000000 in
theorem cx_X7_requirePlace (l : Launch) (z : Zt) (ad : Ad) (N : Nt) (X : Gt) (u : St) (x1 : Int32) (hfl : l.stackTraces = false) {E9 : String} {u9 : St} (h : f_X7_requirePlace N u x1 = some (.error E9, u9)) : MX l z yX7_requirePlace cX7_requirePlace 2 none { frames := 6, cells := 1, slots := 6, locals := 82 } [.ref (ad 0 0), .int x1] ad (GC z ad N X u) (QvF z) (GC z ad N X u9) E9 := by
  refine vx_ofW (cc := cX7_requirePlace) (maxL := 2) (ret := none) (by decide) rfl ?_
  intro p e s m args below meth c s₁ B hml ht hv
  obtain ⟨rfl, hSW, hW⟩ := hv
  have hx := B.exec; have hb := B.bytes; have hr := B.returns; have hlocks := B.notSynchronized
  have hown : s.vm.findClass RX7 = some m.cls := findClass_of_methodNamed B.named
  obtain ⟨hT, hK, hST, hB0⟩ := id hSW
  have hS : va_S (zA z) s.heap s.heap [] := va_S.rf
  have hl := lv_entry ([.ref (ad 0 0), .int x1]) (n := 2) (Nat.le_of_ble_eq_true rfl)
  rw [lg_entry_eq]
  generalize (lg_sl ([.ref (ad 0 0), .int x1]) ++ List.replicate (2 - (lg_sl ([.ref (ad 0 0), .int x1])).length) Slot.unset).toArray = ls at hl ⊢
  have hl : lv_has ls 2 [(0, .ref (ad 0 0)), (1, .int x1)] := hl
  unfold f_X7_requirePlace at h
  refine lv_iload_n hx hb dX7_requirePlace_0 rfl (lv_at hl 1 rfl) ?_
  refine lv_iconst (v := 0) hx hb dX7_requirePlace_1 (by decide) ?_
  refine lv_aload_n hx hb dX7_requirePlace_2 rfl (lv_at hl 0 rfl) ?_
  refine nb_get hx hb hT hK hown hW fl_X7_30 kr_0 (v := .ref (ad 8 0)) rfl dX7_requirePlace_3 ?_
  refine nb_get hx hb hT hK hown hW fl_X7_160 (kr_8 (by decide)) (v := .int (u 43 0 0)) rfl dX7_requirePlace_6 ?_
  refine lv_iconst (v := 1) hx hb dX7_requirePlace_9 (by decide) ?_
  refine lv_isub hx hb dX7_requirePlace_10 ?_
  obtain ⟨r1, u3, h2, h⟩ := sb_s h
  refine nb_ci (nb_runS (As := [.int x1, .int 0, .int ((u 43 0 0) - 1)]) (rest := []) hx hb hml hown hSW hS hW (c_X7_isWithin l z ad N X u x1 0 ((u 43 0 0) - 1) h2) mf_X7_isWithin lk_X7_96 rfl ⟨rfl, rfl⟩ ⟨Nat.le_of_ble_eq_true rfl, Nat.le_of_ble_eq_true rfl⟩ hl.1 (Nat.le_of_ble_eq_true rfl) dX7_requirePlace_11 ⟨Nat.le_of_ble_eq_true rfl, Nat.le_of_ble_eq_true rfl⟩) hS (fun H locs (hW : GW z ad (GC z ad N X u3) H) hS => ?_)
  refine lv_if_ne (tgt := 28) hx hb dX7_requirePlace_14 (by decide) (fun c4 => ?_) (fun c4 => ?_)
  · replace h := ite_f h c4
    exact absurd h (by intro q; cases q)
  · replace h := ite_t h c4
    obtain ⟨rfl, rfl⟩ : _ = E9 ∧ u3 = u9 := ⟨Except.error.inj (congrArg Prod.fst (Option.some.inj h)), congrArg Prod.snd (Option.some.inj h)⟩
    exact nb_throwSW (rest := []) hx hb hfl hSW hown th_X7_276_280 (List.mem_of_getElem? (i := 8) rfl) hW hS hml hl.1 dX7_requirePlace_17 dX7_requirePlace_20 dX7_requirePlace_21 dX7_requirePlace_24 dX7_requirePlace_27 (fun x9 h9 => (ht x9 h9).elim) ⟨Nat.le_of_ble_eq_true rfl, Nat.le_of_ble_eq_true rfl, Nat.le_of_ble_eq_true rfl, Nat.le_of_ble_eq_true rfl⟩ hlocks ⟨rfl, rfl⟩
-- Panyard.cut
set_option maxRecDepth 100000 in
set_option maxHeartbeats 4000000 in
theorem cx_X7_cut (l : Launch) (z : Zt) (ad : Ad) (N : Nt) (X : Gt) (u : St) (x1 : Int32) (hfl : l.stackTraces = false) {E9 : String} {u9 : St} (h : f_X7_cut N u x1 = some (.error E9, u9)) : MX l z yX7_cut cX7_cut 3 (some .int) { frames := 7, cells := 1, slots := 6, locals := 103 } [.ref (ad 0 0), .int x1] ad (GC z ad N X u) (QiF z) (GC z ad N X u9) E9 := by
  refine vx_ofW (cc := cX7_cut) (maxL := 3) (ret := (some .int)) (by decide) rfl ?_
  intro p e s m args below meth c s₁ B hml ht hv
  obtain ⟨rfl, hSW, hW⟩ := hv
  have hx := B.exec; have hb := B.bytes; have hr := B.returns; have hlocks := B.notSynchronized
  have hown : s.vm.findClass RX7 = some m.cls := findClass_of_methodNamed B.named
  obtain ⟨hT, hK, hST, hB0⟩ := id hSW
  have hS : va_S (zA z) s.heap s.heap [] := va_S.rf
  have hl := lv_entry ([.ref (ad 0 0), .int x1]) (n := 3) (Nat.le_of_ble_eq_true rfl)
  rw [lg_entry_eq]
  generalize (lg_sl ([.ref (ad 0 0), .int x1]) ++ List.replicate (3 - (lg_sl ([.ref (ad 0 0), .int x1])).length) Slot.unset).toArray = ls at hl ⊢
  have hl : lv_has ls 3 [(0, .ref (ad 0 0)), (1, .int x1)] := hl
  unfold f_X7_cut at h
  refine lv_aload_n hx hb dX7_cut_0 rfl (lv_at hl 0 rfl) ?_
  refine lv_iload_n hx hb dX7_cut_1 rfl (lv_at hl 1 rfl) ?_
  rcases xb_e h with ⟨r1, u3, h2, h⟩ | h
  rotate_left
  · exact nx_cv (nx_runV (As := [.int x1]) (rest := []) hx hb hml hown hSW hS hW (cx_X7_requirePlace l z ad N X u x1 hfl h) mf_X7_requirePlace (List.mem_of_getElem? (i := 608) (by decide +kernel)) kr_0 rfl rfl ⟨rfl, rfl⟩ ⟨Nat.le_of_ble_eq_true rfl, Nat.le_of_ble_eq_true rfl⟩ hl.1 (Nat.le_of_ble_eq_true rfl) dX7_cut_2 ⟨Nat.le_of_ble_eq_true rfl, Nat.le_of_ble_eq_true rfl⟩) hS (fun ce9 q9 H locs hce hcv hcc hW hS => nx_out (fun x9 h9 => (ht x9 h9).elim) hlocks hce hcv hcc hW hS ⟨Nat.le_of_ble_eq_true rfl, Nat.le_of_ble_eq_true rfl⟩)
  refine nb_cv (nb_runV (As := [.int x1]) (rest := []) hx hb hml hown hSW hS hW (c_X7_requirePlace l z ad N X u x1 h2) mf_X7_requirePlace lk_X7_168 kr_0 rfl rfl ⟨rfl, rfl⟩ ⟨Nat.le_of_ble_eq_true rfl, Nat.le_of_ble_eq_true rfl⟩ hl.1 (Nat.le_of_ble_eq_true rfl) dX7_cut_2 ⟨Nat.le_of_ble_eq_true rfl, Nat.le_of_ble_eq_true rfl⟩) hS (fun H locs (hW : GW z ad (GC z ad N X u3) H) hS => ?_)
  refine lv_aload_n hx hb dX7_cut_5 rfl (lv_at hl 0 rfl) ?_
  refine nb_get hx hb hT hK hown hW fl_X7_30 kr_0 (v := .ref (ad 8 0)) rfl dX7_cut_6 ?_
  refine nb_get hx hb hT hK hown hW fl_X7_171 (kr_8 (by decide)) (v := .ref (ad 9 0)) rfl dX7_cut_9 ?_
  refine lv_iload_n hx hb dX7_cut_12 rfl (lv_at hl 1 rfl) ?_
  obtain ⟨g4, h⟩ := gd_s h
  refine nb_iald hx hb hK hW 0 (kr_9 (by decide)) rfl (inb_in g4) dX7_cut_13 ?_
  refine lv_topi (fun v5 ev5 => ?_)
  replace h := nm_at ev5 h
  refine lv_istore_n (lv' := [(2, .int v5), (0, .ref (ad 0 0)), (1, .int x1)]) hx hb dX7_cut_14 rfl hl (by decide) rfl (fun ls hl => ?_)
  refine lv_aload_n hx hb dX7_cut_15 rfl (lv_at hl 1 rfl) ?_
  refine nb_get hx hb hT hK hown hW fl_X7_30 kr_0 (v := .ref (ad 8 0)) rfl dX7_cut_16 ?_
  refine lv_iload_n hx hb dX7_cut_19 rfl (lv_at hl 2 rfl) ?_
  obtain ⟨r6, u8, h7, h⟩ := sb_s h
  refine nb_cv (nb_runV (As := [.int x1]) (rest := []) hx hb hml hown hSW hS hW (c_X0_closeUp l z ad N X u3 0 x1 (by decide) h7) mf_X0_closeUp lk_X7_174 (kr_8 (by decide)) rfl rfl ⟨rfl, rfl⟩ ⟨Nat.le_of_ble_eq_true rfl, Nat.le_of_ble_eq_true rfl⟩ hl.1 (Nat.le_of_ble_eq_true rfl) dX7_cut_20 ⟨Nat.le_of_ble_eq_true rfl, Nat.le_of_ble_eq_true rfl⟩) hS (fun H locs (hW : GW z ad (GC z ad N X u8) H) hS => ?_)
  refine lv_iload_n hx hb dX7_cut_23 rfl (lv_at hl 0 rfl) ?_
  exact absurd h (by intro q; cases q)
-- Panyard.player
set_option maxRecDepth 100000 in
set_option maxHeartbeats 4000000 in
theorem cx_X7_player (l : Launch) (z : Zt) (ad : Ad) (N : Nt) (X : Gt) (u : St) (x1 : Int32) (x2 : Int32) (x3 : Int32) (hfl : l.stackTraces = false) {E9 : String} {u9 : St} (h : f_X7_player N u x1 x2 x3 = some (.error E9, u9)) : MX l z yX7_player cX7_player 5 (some .int) { frames := 7, cells := 1, slots := 6, locals := 102 } [.ref (ad 0 0), .int x1, .int x2, .int x3] ad (GC z ad N X u) (QiF z) (GC z ad N X u9) E9 := by
  refine vx_ofW (cc := cX7_player) (maxL := 5) (ret := (some .int)) (by decide) rfl ?_
  intro p e s m args below meth c s₁ B hml ht hv
  obtain ⟨rfl, hSW, hW⟩ := hv
  have hx := B.exec; have hb := B.bytes; have hr := B.returns; have hlocks := B.notSynchronized
  have hown : s.vm.findClass RX7 = some m.cls := findClass_of_methodNamed B.named
  obtain ⟨hT, hK, hST, hB0⟩ := id hSW
  have hS : va_S (zA z) s.heap s.heap [] := va_S.rf
  have hl := lv_entry ([.ref (ad 0 0), .int x1, .int x2, .int x3]) (n := 5) (Nat.le_of_ble_eq_true rfl)
  rw [lg_entry_eq]
  generalize (lg_sl ([.ref (ad 0 0), .int x1, .int x2, .int x3]) ++ List.replicate (5 - (lg_sl ([.ref (ad 0 0), .int x1, .int x2, .int x3])).length) Slot.unset).toArray = ls at hl ⊢
  have hl : lv_has ls 5 [(0, .ref (ad 0 0)), (1, .int x1), (2, .int x2), (3, .int x3)] := hl
  unfold f_X7_player at h
  refine lv_iload_n hx hb dX7_player_0 rfl (lv_at hl 1 rfl) ?_
  rcases xb_e h with ⟨r1, u3, h2, h⟩ | h
  rotate_left
  · exact nx_cv (nx_runS (As := [.int x1]) (rest := []) hx hb hml hown hSW hS hW (cx_X7_requireSection l z ad N X u x1 hfl h) mf_X7_requireSection (List.mem_of_getElem? (i := 672) (by decide +kernel)) rfl ⟨rfl, rfl⟩ ⟨Nat.le_of_ble_eq_true rfl, Nat.le_of_ble_eq_true rfl⟩ hl.1 (Nat.le_of_ble_eq_true rfl) dX7_player_1 ⟨Nat.le_of_ble_eq_true rfl, Nat.le_of_ble_eq_true rfl⟩) hS (fun ce9 q9 H locs hce hcv hcc hW hS => nx_out (fun x9 h9 => (ht x9 h9).elim) hlocks hce hcv hcc hW hS ⟨Nat.le_of_ble_eq_true rfl, Nat.le_of_ble_eq_true rfl⟩)
  refine nb_cv (nb_runS (As := [.int x1]) (rest := []) hx hb hml hown hSW hS hW (c_X7_requireSection l z ad N X u x1 h2) mf_X7_requireSection lk_X7_76 rfl ⟨rfl, rfl⟩ ⟨Nat.le_of_ble_eq_true rfl, Nat.le_of_ble_eq_true rfl⟩ hl.1 (Nat.le_of_ble_eq_true rfl) dX7_player_1 ⟨Nat.le_of_ble_eq_true rfl, Nat.le_of_ble_eq_true rfl⟩) hS (fun H locs (hW : GW z ad (GC z ad N X u3) H) hS => ?_)
  refine lv_iload_n hx hb dX7_player_4 rfl (lv_at hl 2 rfl) ?_
  refine lv_iconst (v := 1) hx hb dX7_player_5 (by decide) ?_
  refine lv_bipush (v := 9) hx hb dX7_player_6 (by decide) ?_
  obtain ⟨r4, u6, h5, h⟩ := sb_s h
  refine nb_ci (nb_runS (As := [.int x2, .int 1, .int 9]) (rest := []) hx hb hml hown hSW hS hW (c_X7_isWithin l z ad N X u3 x2 1 9 h5) mf_X7_isWithin lk_X7_96 rfl ⟨rfl, rfl⟩ ⟨Nat.le_of_ble_eq_true rfl, Nat.le_of_ble_eq_true rfl⟩ hl.1 (Nat.le_of_ble_eq_true rfl) dX7_player_8 ⟨Nat.le_of_ble_eq_true rfl, Nat.le_of_ble_eq_true rfl⟩) hS (fun H locs (hW : GW z ad (GC z ad N X u6) H) hS => ?_)
  refine lv_if_ne (tgt := 24) hx hb dX7_player_11 (by decide) (fun c7 => ?_) (fun c7 => ?_)
  · replace h := ite_f h c7
    refine lv_iload_n hx hb dX7_player_24 rfl (lv_at hl 3 rfl) ?_
    refine lv_iconst (v := 1) hx hb dX7_player_25 (by decide) ?_
    refine lv_bipush (v := 8) hx hb dX7_player_26 (by decide) ?_
    obtain ⟨r8, u10, h09, h⟩ := sb_s h
    refine nb_ci (nb_runS (As := [.int x3, .int 1, .int 8]) (rest := []) hx hb hml hown hSW hS hW (c_X7_isWithin l z ad N X u6 x3 1 8 h09) mf_X7_isWithin lk_X7_96 rfl ⟨rfl, rfl⟩ ⟨Nat.le_of_ble_eq_true rfl, Nat.le_of_ble_eq_true rfl⟩ hl.1 (Nat.le_of_ble_eq_true rfl) dX7_player_28 ⟨Nat.le_of_ble_eq_true rfl, Nat.le_of_ble_eq_true rfl⟩) hS (fun H locs (hW : GW z ad (GC z ad N X u10) H) hS => ?_)
    refine lv_if_ne (tgt := 44) hx hb dX7_player_31 (by decide) (fun c11 => ?_) (fun c11 => ?_)
    · replace h := ite_f h c11
      refine lv_aload_n hx hb dX7_player_44 rfl (lv_at hl 0 rfl) ?_
      refine nb_get hx hb hT hK hown hW fl_X7_147 kr_0 (v := .int (u10 2 0 0)) rfl dX7_player_45 ?_
      refine lv_bipush (v := 8) hx hb dX7_player_48 (by decide) ?_
      refine lv_icmp_lt (tgt := 63) hx hb dX7_player_50 (by decide) (fun c12 => ?_) (fun c12 => ?_)
      · replace h := ite_t h c12
        refine lv_aload_n hx hb dX7_player_63 rfl (lv_at hl 0 rfl) ?_
        refine nb_get hx hb hT hK hown hW fl_X7_147 kr_0 (v := .int (u10 2 0 0)) rfl dX7_player_64 ?_
        refine lv_topi (fun v13 ev13 => ?_)
        replace h := nm_at ev13 h
        refine lv_istore (lv' := [(4, .int v13), (0, .ref (ad 0 0)), (1, .int x1), (2, .int x2), (3, .int x3)]) hx hb dX7_player_67 hl (by decide) rfl (fun ls hl => ?_)
        refine lv_aload_n hx hb dX7_player_69 rfl (lv_at hl 1 rfl) ?_
        refine nb_get hx hb hT hK hown hW fl_X7_23 kr_0 (v := .ref (ad 3 0)) rfl dX7_player_70 ?_
        refine lv_iload hx hb dX7_player_73 (lv_at hl 0 rfl) ?_
        obtain ⟨g14, h⟩ := gd_s h
        obtain ⟨u15, eu15, h⟩ := nm_s h
        exact absurd h (by intro q; cases q)
      · replace h := ite_f h c12
        obtain ⟨rfl, rfl⟩ : _ = E9 ∧ u10 = u9 := ⟨Except.error.inj (congrArg Prod.fst (Option.some.inj h)), congrArg Prod.snd (Option.some.inj h)⟩
        exact nb_throwS (rest := []) hx hb hfl hSW hown th_X7_83_87 (List.mem_of_getElem? (i := 25) rfl) hW hS hml hl.1 dX7_player_53 dX7_player_56 dX7_player_57 dX7_player_59 dX7_player_62 (fun x9 h9 => (ht x9 h9).elim) ⟨Nat.le_of_ble_eq_true rfl, Nat.le_of_ble_eq_true rfl, Nat.le_of_ble_eq_true rfl, Nat.le_of_ble_eq_true rfl⟩ hlocks ⟨rfl, rfl⟩
    · replace h := ite_t h c11
      obtain ⟨rfl, rfl⟩ : _ = E9 ∧ u10 = u9 := ⟨Except.error.inj (congrArg Prod.fst (Option.some.inj h)), congrArg Prod.snd (Option.some.inj h)⟩
      exact nb_throwS (rest := []) hx hb hfl hSW hown th_X7_100_104 (List.mem_of_getElem? (i := 24) rfl) hW hS hml hl.1 dX7_player_34 dX7_player_37 dX7_player_38 dX7_player_40 dX7_player_43 (fun x9 h9 => (ht x9 h9).elim) ⟨Nat.le_of_ble_eq_true rfl, Nat.le_of_ble_eq_true rfl, Nat.le_of_ble_eq_true rfl, Nat.le_of_ble_eq_true rfl⟩ hlocks ⟨rfl, rfl⟩
  · replace h := ite_t h c7
    obtain ⟨rfl, rfl⟩ : _ = E9 ∧ u6 = u9 := ⟨Except.error.inj (congrArg Prod.fst (Option.some.inj h)), congrArg Prod.snd (Option.some.inj h)⟩
    exact nb_throwS (rest := []) hx hb hfl hSW hown th_X7_100_104 (List.mem_of_getElem? (i := 23) rfl) hW hS hml hl.1 dX7_player_14 dX7_player_17 dX7_player_18 dX7_player_20 dX7_player_23 (fun x9 h9 => (ht x9 h9).elim) ⟨Nat.le_of_ble_eq_true rfl, Nat.le_of_ble_eq_true rfl, Nat.le_of_ble_eq_true rfl, Nat.le_of_ble_eq_true rfl⟩ hlocks ⟨rfl, rfl⟩
-- Panyard.requirePlayer
set_option maxRecDepth 100000 in
set_option maxHeartbeats 4000000 in
theorem cx_X7_requirePlayer (l : Launch) (z : Zt) (ad : Ad) (N : Nt) (X : Gt) (u : St) (x1 : Int32) (hfl : l.stackTraces = false) {E9 : String} {u9 : St} (h : f_X7_requirePlayer N u x1 = some (.error E9, u9)) : MX l z yX7_requirePlayer cX7_requirePlayer 2 none { frames := 6, cells := 1, slots := 6, locals := 82 } [.ref (ad 0 0), .int x1] ad (GC z ad N X u) (QvF z) (GC z ad N X u9) E9 := by
  refine vx_ofW (cc := cX7_requirePlayer) (maxL := 2) (ret := none) (by decide) rfl ?_
  intro p e s m args below meth c s₁ B hml ht hv
  obtain ⟨rfl, hSW, hW⟩ := hv
  have hx := B.exec; have hb := B.bytes; have hr := B.returns; have hlocks := B.notSynchronized
  have hown : s.vm.findClass RX7 = some m.cls := findClass_of_methodNamed B.named
  obtain ⟨hT, hK, hST, hB0⟩ := id hSW
  have hS : va_S (zA z) s.heap s.heap [] := va_S.rf
  have hl := lv_entry ([.ref (ad 0 0), .int x1]) (n := 2) (Nat.le_of_ble_eq_true rfl)
  rw [lg_entry_eq]
  generalize (lg_sl ([.ref (ad 0 0), .int x1]) ++ List.replicate (2 - (lg_sl ([.ref (ad 0 0), .int x1])).length) Slot.unset).toArray = ls at hl ⊢
  have hl : lv_has ls 2 [(0, .ref (ad 0 0)), (1, .int x1)] := hl
  unfold f_X7_requirePlayer at h
  refine lv_iload_n hx hb dX7_requirePlayer_0 rfl (lv_at hl 1 rfl) ?_
  refine lv_iconst (v := 0) hx hb dX7_requirePlayer_1 (by decide) ?_
  refine lv_aload_n hx hb dX7_requirePlayer_2 rfl (lv_at hl 0 rfl) ?_
  refine nb_get hx hb hT hK hown hW fl_X7_147 kr_0 (v := .int (u 2 0 0)) rfl dX7_requirePlayer_3 ?_
  refine lv_iconst (v := 1) hx hb dX7_requirePlayer_6 (by decide) ?_
  refine lv_isub hx hb dX7_requirePlayer_7 ?_
  obtain ⟨r1, u3, h2, h⟩ := sb_s h
  refine nb_ci (nb_runS (As := [.int x1, .int 0, .int ((u 2 0 0) - 1)]) (rest := []) hx hb hml hown hSW hS hW (c_X7_isWithin l z ad N X u x1 0 ((u 2 0 0) - 1) h2) mf_X7_isWithin lk_X7_96 rfl ⟨rfl, rfl⟩ ⟨Nat.le_of_ble_eq_true rfl, Nat.le_of_ble_eq_true rfl⟩ hl.1 (Nat.le_of_ble_eq_true rfl) dX7_requirePlayer_8 ⟨Nat.le_of_ble_eq_true rfl, Nat.le_of_ble_eq_true rfl⟩) hS (fun H locs (hW : GW z ad (GC z ad N X u3) H) hS => ?_)
  refine lv_if_ne (tgt := 25) hx hb dX7_requirePlayer_11 (by decide) (fun c4 => ?_) (fun c4 => ?_)
  · replace h := ite_f h c4
    exact absurd h (by intro q; cases q)
  · replace h := ite_t h c4
    obtain ⟨rfl, rfl⟩ : _ = E9 ∧ u3 = u9 := ⟨Except.error.inj (congrArg Prod.fst (Option.some.inj h)), congrArg Prod.snd (Option.some.inj h)⟩
    exact nb_throwSW (rest := []) hx hb hfl hSW hown th_X7_276_280 (List.mem_of_getElem? (i := 5) rfl) hW hS hml hl.1 dX7_requirePlayer_14 dX7_requirePlayer_17 dX7_requirePlayer_18 dX7_requirePlayer_21 dX7_requirePlayer_24 (fun x9 h9 => (ht x9 h9).elim) ⟨Nat.le_of_ble_eq_true rfl, Nat.le_of_ble_eq_true rfl, Nat.le_of_ble_eq_true rfl, Nat.le_of_ble_eq_true rfl⟩ hlocks ⟨rfl, rfl⟩
-- Panyard.give
set_option maxRecDepth 100000 in
set_option maxHeartbeats 4000000 in
theorem cx_X7_give (l : Launch) (z : Zt) (ad : Ad) (N : Nt) (X : Gt) (u : St) (x1 : Int32) (x2 : Int32) (hfl : l.stackTraces = false) {E9 : String} {u9 : St} (h : f_X7_give N u x1 x2 = some (.error E9, u9)) : MX l z yX7_give cX7_give 6 (some .int) { frames := 7, cells := 1, slots := 6, locals := 103 } [.ref (ad 0 0), .int x1, .int x2] ad (GC z ad N X u) (QiF z) (GC z ad N X u9) E9 := by
  refine vx_ofW (cc := cX7_give) (maxL := 6) (ret := (some .int)) (by decide) rfl ?_
  intro p e s m args below meth c s₁ B hml ht hv
  obtain ⟨rfl, hSW, hW⟩ := hv
  have hx := B.exec; have hb := B.bytes; have hr := B.returns; have hlocks := B.notSynchronized
  have hown : s.vm.findClass RX7 = some m.cls := findClass_of_methodNamed B.named
  obtain ⟨hT, hK, hST, hB0⟩ := id hSW
  have hS : va_S (zA z) s.heap s.heap [] := va_S.rf
  have hl := lv_entry ([.ref (ad 0 0), .int x1, .int x2]) (n := 6) (Nat.le_of_ble_eq_true rfl)
  rw [lg_entry_eq]
  generalize (lg_sl ([.ref (ad 0 0), .int x1, .int x2]) ++ List.replicate (6 - (lg_sl ([.ref (ad 0 0), .int x1, .int x2])).length) Slot.unset).toArray = ls at hl ⊢
  have hl : lv_has ls 6 [(0, .ref (ad 0 0)), (1, .int x1), (2, .int x2)] := hl
  let WW : Heap → List Loc → JFrame → Prop := fun H locs g => W p l e (headSpec [Cond.code yX7_give cX7_give 6 (some .int)] { frames := 7, cells := 1, slots := 6, locals := 103 }).room s m [.ref (ad 0 0), .int x1, .int x2].toArray below meth c H locs 0 0 (vx_MQ below (QiF z) (XX z ad (GC z ad N X u9) E9) [.ref (ad 0 0), .int x1, .int x2].toArray s 1 6 (zA z)) g
  have hB15 : ∀ (y1 : Int32) (y2 : Int32) (u : St) (H : Heap) (locs : List Loc) (ls : Array Slot), lv_has ls 6 [(0, .ref (ad 0 0)), (1, .int y1), (2, .int y2)] → GW z ad (GC z ad N X u) H → va_S (zA z) s.heap H locs → f_X7_give_B15 N y1 y2 u = some (.error E9, u9) → WW H locs (F0 m 15 ls []) := by
    intro y1 y2 u H locs ls hl hW hS h
    change W p l e _ s m _ below meth c H locs 0 0 _ (F0 m 15 ls [])
    unfold f_X7_give_B15 at h
    refine lv_aload_n hx hb dX7_give_15 rfl (lv_at hl 0 rfl) ?_
    refine nb_get hx hb hT hK hown hW fl_X7_23 kr_0 (v := .ref (ad 3 0)) rfl dX7_give_16 ?_
    refine lv_iload_n hx hb dX7_give_19 rfl (lv_at hl 1 rfl) ?_
    obtain ⟨g5, h⟩ := gd_s h
    obtain ⟨g6, h⟩ := gd_s h
    refine nb_aald hx hb hK hW 4 kr_3 rfl rfl (inb_in g5) (a := ad 15 (ix y1)) (qrow_at g6) dX7_give_20 ?_
    refine lv_astore_n (lv' := [(3, .ref (ad 15 (ix y1))), (0, .ref (ad 0 0)), (1, .int y1), (2, .int y2)]) hx hb dX7_give_21 rfl hl (by decide) rfl (fun ls hl => ?_)
    refine lv_iload_n hx hb dX7_give_22 rfl (lv_at hl 3 rfl) ?_
    refine lv_iconst (v := (-1)) hx hb dX7_give_23 (by decide) ?_
    refine lv_icmp_ne (tgt := 31) hx hb dX7_give_24 (by decide) (fun c7 => ?_) (fun c7 => ?_)
    · replace h := ite_f h c7
      refine lv_aload_n hx hb dX7_give_31 rfl (lv_at hl 1 rfl) ?_
      refine nb_get hx hb hT hK hown hW fl_X7_11 kr_0 (v := .ref (ad 1 0)) rfl dX7_give_32 ?_
      refine lv_iload_n hx hb dX7_give_35 rfl (lv_at hl 3 rfl) ?_
      obtain ⟨g8, h⟩ := gd_s h
      obtain ⟨g09, h⟩ := gd_s h
      refine nb_aald hx hb hK hW 2 kr_1 rfl rfl (inb_in g8) (a := ad 12 (ix y2)) (qrow_at g09) dX7_give_36 ?_
      refine lv_astore (lv' := [(4, .ref (ad 12 (ix y2))), (3, .ref (ad 15 (ix y1))), (0, .ref (ad 0 0)), (1, .int y1), (2, .int y2)]) hx hb dX7_give_37 hl (by decide) rfl (fun ls hl => ?_)
      refine lv_aload hx hb dX7_give_39 (lv_at hl 0 rfl) ?_
      refine lv_ifnull hx hb dX7_give_41 ?_
      refine lv_aload hx hb dX7_give_44 (lv_at hl 0 rfl) ?_
      refine nb_get hx hb hT hK hown hW fl_X7_187 (kr_12 (Or.inl g09)) (v := .int (u 11 (ix y2) 0)) rfl dX7_give_46 ?_
      refine lv_aload_n hx hb dX7_give_49 rfl (lv_at hl 1 rfl) ?_
      refine nb_get hx hb hT hK hown hW fl_X7_190 (kr_15 g6) (v := .int (u 30 (ix y1) 0)) rfl dX7_give_50 ?_
      refine lv_icmp_eq (tgt := 66) hx hb dX7_give_53 (by decide) (fun c10 => ?_) (fun c10 => ?_)
      · replace h := ite_t h c10
        refine lv_aload_n hx hb dX7_give_66 rfl (lv_at hl 1 rfl) ?_
        obtain ⟨r11, u13, h12, h⟩ := sb_s h
        refine nb_ci (nb_runV (As := []) (rest := []) hx hb hml hown hSW hS hW (c_X5_panNumber l z ad N X u (ix y1) g6 h12) mf_X5_panNumber lk_X7_195 (kr_15 g6) rfl rfl ⟨rfl, rfl⟩ ⟨Nat.le_of_ble_eq_true rfl, Nat.le_of_ble_eq_true rfl⟩ hl.1 (Nat.le_of_ble_eq_true rfl) dX7_give_67 ⟨Nat.le_of_ble_eq_true rfl, Nat.le_of_ble_eq_true rfl⟩) hS (fun H locs (hW : GW z ad (GC z ad N X u13) H) hS => ?_)
        refine lv_istore (lv' := [(5, .int r11), (4, .ref (ad 12 (ix y2))), (3, .ref (ad 15 (ix y1))), (0, .ref (ad 0 0)), (1, .int y1), (2, .int y2)]) hx hb dX7_give_70 hl (by decide) rfl (fun ls hl => ?_)
        refine lv_aload_n hx hb dX7_give_72 rfl (lv_at hl 2 rfl) ?_
        refine lv_aload hx hb dX7_give_73 (lv_at hl 1 rfl) ?_
        obtain ⟨g15, h⟩ := gd_s h
        obtain ⟨u14, eu14, h⟩ := nm_s h
        refine nb_put hx hb hT hK hown hW hS fl_X7_199 tyX5 tyX5_ok nmX5 (kr_15 g6) (v := .ref (ad 12 (ix y2))) rfl rfl rfl (Nat.le_of_ble_eq_true rfl) ((gp_33 (r := (some (ix y2))) g6 (fun q hq => by cases hq; exact g15)).trans (congrArg (GC z ad N X) eu14.symm)) dX7_give_75 (fun H locs hW hS => ?_)
        refine lv_iload hx hb dX7_give_78 (lv_at hl 0 rfl) ?_
        exact absurd h (by intro q; cases q)
      · replace h := ite_f h c10
        obtain ⟨rfl, rfl⟩ : _ = E9 ∧ u = u9 := ⟨Except.error.inj (congrArg Prod.fst (Option.some.inj h)), congrArg Prod.snd (Option.some.inj h)⟩
        exact nb_throwS (rest := []) hx hb hfl hSW hown th_X7_100_104 (List.mem_of_getElem? (i := 26) rfl) hW hS hml hl.1 dX7_give_56 dX7_give_59 dX7_give_60 dX7_give_62 dX7_give_65 (fun x9 h9 => (ht x9 h9).elim) ⟨Nat.le_of_ble_eq_true rfl, Nat.le_of_ble_eq_true rfl, Nat.le_of_ble_eq_true rfl, Nat.le_of_ble_eq_true rfl⟩ hlocks ⟨rfl, rfl⟩
    · replace h := ite_t h c7
      refine lv_null hx hb dX7_give_27 ?_
      refine lv_goto (tgt := 37) hx hb dX7_give_28 (by decide) ?_
      refine lv_astoreN (lv' := [(4, .null), (3, .ref (ad 15 (ix y1))), (0, .ref (ad 0 0)), (1, .int y1), (2, .int y2)]) hx hb dX7_give_37 hl (by decide) rfl (fun ls hl => ?_)
      refine lv_aloadN hx hb dX7_give_39 (lv_at hl 0 rfl) ?_
      refine lv_ifnullN (tgt := 66) hx hb dX7_give_41 (by decide) ?_
      refine lv_aload_n hx hb dX7_give_66 rfl (lv_at hl 1 rfl) ?_
      obtain ⟨r16, u18, h17, h⟩ := sb_s h
      refine nb_ci (nb_runV (As := []) (rest := []) hx hb hml hown hSW hS hW (c_X5_panNumber l z ad N X u (ix y1) g6 h17) mf_X5_panNumber lk_X7_195 (kr_15 g6) rfl rfl ⟨rfl, rfl⟩ ⟨Nat.le_of_ble_eq_true rfl, Nat.le_of_ble_eq_true rfl⟩ hl.1 (Nat.le_of_ble_eq_true rfl) dX7_give_67 ⟨Nat.le_of_ble_eq_true rfl, Nat.le_of_ble_eq_true rfl⟩) hS (fun H locs (hW : GW z ad (GC z ad N X u18) H) hS => ?_)
      refine lv_istore (lv' := [(5, .int r16), (4, .null), (3, .ref (ad 15 (ix y1))), (0, .ref (ad 0 0)), (1, .int y1), (2, .int y2)]) hx hb dX7_give_70 hl (by decide) rfl (fun ls hl => ?_)
      refine lv_aload_n hx hb dX7_give_72 rfl (lv_at hl 2 rfl) ?_
      refine lv_aloadN hx hb dX7_give_73 (lv_at hl 1 rfl) ?_
      obtain ⟨u19, eu19, h⟩ := nm_s h
      refine nb_put hx hb hT hK hown hW hS fl_X7_199 tyX5 tyX5_ok nmX5 (kr_15 g6) (v := .null) rfl rfl rfl (Nat.le_of_ble_eq_true rfl) ((gp_33 (r := none) g6 (fun q hq => by cases hq)).trans (congrArg (GC z ad N X) eu19.symm)) dX7_give_75 (fun H locs hW hS => ?_)
      refine lv_iload hx hb dX7_give_78 (lv_at hl 0 rfl) ?_
      exact absurd h (by intro q; cases q)
  unfold f_X7_give at h
  refine lv_aload_n hx hb dX7_give_0 rfl (lv_at hl 0 rfl) ?_
  refine lv_iload_n hx hb dX7_give_1 rfl (lv_at hl 1 rfl) ?_
  rcases xb_e h with ⟨r1, u3, h2, h⟩ | h
  rotate_left
  · exact nx_cv (nx_runV (As := [.int x1]) (rest := []) hx hb hml hown hSW hS hW (cx_X7_requirePlayer l z ad N X u x1 hfl h) mf_X7_requirePlayer (List.mem_of_getElem? (i := 555) (by decide +kernel)) kr_0 rfl rfl ⟨rfl, rfl⟩ ⟨Nat.le_of_ble_eq_true rfl, Nat.le_of_ble_eq_true rfl⟩ hl.1 (Nat.le_of_ble_eq_true rfl) dX7_give_2 ⟨Nat.le_of_ble_eq_true rfl, Nat.le_of_ble_eq_true rfl⟩) hS (fun ce9 q9 H locs hce hcv hcc hW hS => nx_out (fun x9 h9 => (ht x9 h9).elim) hlocks hce hcv hcc hW hS ⟨Nat.le_of_ble_eq_true rfl, Nat.le_of_ble_eq_true rfl⟩)
  refine nb_cv (nb_runV (As := [.int x1]) (rest := []) hx hb hml hown hSW hS hW (c_X7_requirePlayer l z ad N X u x1 h2) mf_X7_requirePlayer lk_X7_184 kr_0 rfl rfl ⟨rfl, rfl⟩ ⟨Nat.le_of_ble_eq_true rfl, Nat.le_of_ble_eq_true rfl⟩ hl.1 (Nat.le_of_ble_eq_true rfl) dX7_give_2 ⟨Nat.le_of_ble_eq_true rfl, Nat.le_of_ble_eq_true rfl⟩) hS (fun H locs (hW : GW z ad (GC z ad N X u3) H) hS => ?_)
  refine lv_iload_n hx hb dX7_give_5 rfl (lv_at hl 2 rfl) ?_
  refine lv_iconst (v := (-1)) hx hb dX7_give_6 (by decide) ?_
  refine lv_icmp_eq (tgt := 15) hx hb dX7_give_7 (by decide) (fun c4 => ?_) (fun c4 => ?_)
  · replace h := ite_t h c4
    exact hB15 _ _ _ _ _ _ (lv_sub hl [0, 1, 2] rfl) hW hS h
  · replace h := ite_f h c4
    refine lv_aload_n hx hb dX7_give_10 rfl (lv_at hl 0 rfl) ?_
    refine lv_iload_n hx hb dX7_give_11 rfl (lv_at hl 2 rfl) ?_
    rcases xb_e h with ⟨r20, u22, h21, h⟩ | h
    rotate_left
    · exact nx_cv (nx_runV (As := [.int x2]) (rest := []) hx hb hml hown hSW hS hW (cx_X7_requirePan l z ad N X u3 x2 hfl h) mf_X7_requirePan (List.mem_of_getElem? (i := 468) (by decide +kernel)) kr_0 rfl rfl ⟨rfl, rfl⟩ ⟨Nat.le_of_ble_eq_true rfl, Nat.le_of_ble_eq_true rfl⟩ hl.1 (Nat.le_of_ble_eq_true rfl) dX7_give_12 ⟨Nat.le_of_ble_eq_true rfl, Nat.le_of_ble_eq_true rfl⟩) hS (fun ce9 q9 H locs hce hcv hcc hW hS => nx_out (fun x9 h9 => (ht x9 h9).elim) hlocks hce hcv hcc hW hS ⟨Nat.le_of_ble_eq_true rfl, Nat.le_of_ble_eq_true rfl⟩)
    refine nb_cv (nb_runV (As := [.int x2]) (rest := []) hx hb hml hown hSW hS hW (c_X7_requirePan l z ad N X u3 x2 h21) mf_X7_requirePan lk_X7_90 kr_0 rfl rfl ⟨rfl, rfl⟩ ⟨Nat.le_of_ble_eq_true rfl, Nat.le_of_ble_eq_true rfl⟩ hl.1 (Nat.le_of_ble_eq_true rfl) dX7_give_12 ⟨Nat.le_of_ble_eq_true rfl, Nat.le_of_ble_eq_true rfl⟩) hS (fun H locs (hW : GW z ad (GC z ad N X u22) H) hS => ?_)
    exact hB15 _ _ _ _ _ _ (lv_sub hl [0, 1, 2] rfl) hW hS h
-- Panyard.absent
set_option maxRecDepth 100000 in
set_option maxHeartbeats 4000000 in
theorem cx_X7_absent (l : Launch) (z : Zt) (ad : Ad) (N : Nt) (X : Gt) (u : St) (x1 : Int32) (x2 : Int32) (hfl : l.stackTraces = false) {E9 : String} {u9 : St} (h : f_X7_absent N u x1 x2 = some (.error E9, u9)) : MX l z yX7_absent cX7_absent 4 (some .boolean) { frames := 7, cells := 1, slots := 6, locals := 103 } [.ref (ad 0 0), .int x1, .int x2] ad (GC z ad N X u) (QiF z) (GC z ad N X u9) E9 := by
  refine vx_ofW (cc := cX7_absent) (maxL := 4) (ret := (some .boolean)) (by decide) rfl ?_
  intro p e s m args below meth c s₁ B hml ht hv
  obtain ⟨rfl, hSW, hW⟩ := hv
  have hx := B.exec; have hb := B.bytes; have hr := B.returns; have hlocks := B.notSynchronized
  have hown : s.vm.findClass RX7 = some m.cls := findClass_of_methodNamed B.named
  obtain ⟨hT, hK, hST, hB0⟩ := id hSW
  have hS : va_S (zA z) s.heap s.heap [] := va_S.rf
  have hl := lv_entry ([.ref (ad 0 0), .int x1, .int x2]) (n := 4) (Nat.le_of_ble_eq_true rfl)
  rw [lg_entry_eq]
  generalize (lg_sl ([.ref (ad 0 0), .int x1, .int x2]) ++ List.replicate (4 - (lg_sl ([.ref (ad 0 0), .int x1, .int x2])).length) Slot.unset).toArray = ls at hl ⊢
  have hl : lv_has ls 4 [(0, .ref (ad 0 0)), (1, .int x1), (2, .int x2)] := hl
  unfold f_X7_absent at h
  refine lv_aload_n hx hb dX7_absent_0 rfl (lv_at hl 0 rfl) ?_
  refine lv_iload_n hx hb dX7_absent_1 rfl (lv_at hl 1 rfl) ?_
  rcases xb_e h with ⟨r1, u3, h2, h⟩ | h
  rotate_left
  · exact nx_cv (nx_runV (As := [.int x1]) (rest := []) hx hb hml hown hSW hS hW (cx_X7_requirePlayer l z ad N X u x1 hfl h) mf_X7_requirePlayer (List.mem_of_getElem? (i := 555) (by decide +kernel)) kr_0 rfl rfl ⟨rfl, rfl⟩ ⟨Nat.le_of_ble_eq_true rfl, Nat.le_of_ble_eq_true rfl⟩ hl.1 (Nat.le_of_ble_eq_true rfl) dX7_absent_2 ⟨Nat.le_of_ble_eq_true rfl, Nat.le_of_ble_eq_true rfl⟩) hS (fun ce9 q9 H locs hce hcv hcc hW hS => nx_out (fun x9 h9 => (ht x9 h9).elim) hlocks hce hcv hcc hW hS ⟨Nat.le_of_ble_eq_true rfl, Nat.le_of_ble_eq_true rfl⟩)
  refine nb_cv (nb_runV (As := [.int x1]) (rest := []) hx hb hml hown hSW hS hW (c_X7_requirePlayer l z ad N X u x1 h2) mf_X7_requirePlayer lk_X7_184 kr_0 rfl rfl ⟨rfl, rfl⟩ ⟨Nat.le_of_ble_eq_true rfl, Nat.le_of_ble_eq_true rfl⟩ hl.1 (Nat.le_of_ble_eq_true rfl) dX7_absent_2 ⟨Nat.le_of_ble_eq_true rfl, Nat.le_of_ble_eq_true rfl⟩) hS (fun H locs (hW : GW z ad (GC z ad N X u3) H) hS => ?_)
  refine lv_aload_n hx hb dX7_absent_5 rfl (lv_at hl 0 rfl) ?_
  refine nb_get hx hb hT hK hown hW fl_X7_23 kr_0 (v := .ref (ad 3 0)) rfl dX7_absent_6 ?_
  refine lv_iload_n hx hb dX7_absent_9 rfl (lv_at hl 1 rfl) ?_
  obtain ⟨g4, h⟩ := gd_s h
  obtain ⟨g5, h⟩ := gd_s h
  refine nb_aald hx hb hK hW 4 kr_3 rfl rfl (inb_in g4) (a := ad 15 (ix x1)) (qrow_at g5) dX7_absent_10 ?_
  refine nb_get hx hb hT hK hown hW fl_X7_202 (kr_15 g5) (v := .int (u3 34 (ix x1) 0)) rfl dX7_absent_11 ?_
  refine lv_topi (fun v6 ev6 => ?_)
  replace h := nm_at ev6 h
  refine lv_istore_n (lv' := [(3, .int v6), (0, .ref (ad 0 0)), (1, .int x1), (2, .int x2)]) hx hb dX7_absent_14 rfl hl (by decide) rfl (fun ls hl => ?_)
  refine lv_aload_n hx hb dX7_absent_15 rfl (lv_at hl 1 rfl) ?_
  refine nb_get hx hb hT hK hown hW fl_X7_23 kr_0 (v := .ref (ad 3 0)) rfl dX7_absent_16 ?_
  refine lv_iload_n hx hb dX7_absent_19 rfl (lv_at hl 2 rfl) ?_
  refine nb_aald hx hb hK hW 4 kr_3 rfl rfl (inb_in g4) (a := ad 15 (ix x1)) (qrow_at g5) dX7_absent_20 ?_
  refine lv_iload_n hx hb dX7_absent_21 rfl (lv_at hl 3 rfl) ?_
  obtain ⟨g8, h⟩ := gd_s h
  obtain ⟨u7, eu7, h⟩ := nm_s h
  refine nb_put hx hb hT hK hown hW hS fl_X7_202 tyX5 tyX5_ok nmX5 (kr_15 g5) (v := .int x2) rfl (nbool g8).1 (nbool g8).2 (Nat.le_of_ble_eq_true rfl) ((gp_34 g5).trans (congrArg (GC z ad N X) eu7.symm)) dX7_absent_22 (fun H locs hW hS => ?_)
  refine lv_iload_n hx hb dX7_absent_25 rfl (lv_at hl 0 rfl) ?_
  obtain ⟨g09, h⟩ := gd_s h
  exact absurd h (by intro q; cases q)
-- Panyard.requireLesson
set_option maxRecDepth 100000 in
set_option maxHeartbeats 4000000 in
theorem cx_X7_requireLesson (l : Launch) (z : Zt) (ad : Ad) (N : Nt) (X : Gt) (u : St) (x0 : Int32) (hfl : l.stackTraces = false) {E9 : String} {u9 : St} (h : f_X7_requireLesson N u x0 = some (.error E9, u9)) : MX l z yX7_requireLesson cX7_requireLesson 1 none { frames := 6, cells := 1, slots := 6, locals := 82 } [.int x0] ad (GC z ad N X u) (QvF z) (GC z ad N X u9) E9 := by
  refine vx_ofW (cc := cX7_requireLesson) (maxL := 1) (ret := none) (by decide) rfl ?_
  intro p e s m args below meth c s₁ B hml ht hv
  obtain ⟨rfl, hSW, hW⟩ := hv
  have hx := B.exec; have hb := B.bytes; have hr := B.returns; have hlocks := B.notSynchronized
  have hown : s.vm.findClass RX7 = some m.cls := findClass_of_methodNamed B.named
  obtain ⟨hT, hK, hST, hB0⟩ := id hSW
  have hS : va_S (zA z) s.heap s.heap [] := va_S.rf
  have hl := lv_entry ([.int x0]) (n := 1) (Nat.le_of_ble_eq_true rfl)
  rw [lg_entry_eq]
  generalize (lg_sl ([.int x0]) ++ List.replicate (1 - (lg_sl ([.int x0])).length) Slot.unset).toArray = ls at hl ⊢
  have hl : lv_has ls 1 [(0, .int x0)] := hl
  unfold f_X7_requireLesson at h
  refine lv_iload_n hx hb dX7_requireLesson_0 rfl (lv_at hl 0 rfl) ?_
  refine lv_iconst (v := 1) hx hb dX7_requireLesson_1 (by decide) ?_
  refine lv_bipush (v := 60) hx hb dX7_requireLesson_2 (by decide) ?_
  obtain ⟨r1, u3, h2, h⟩ := sb_s h
  refine nb_ci (nb_runS (As := [.int x0, .int 1, .int 60]) (rest := []) hx hb hml hown hSW hS hW (c_X7_isWithin l z ad N X u x0 1 60 h2) mf_X7_isWithin lk_X7_96 rfl ⟨rfl, rfl⟩ ⟨Nat.le_of_ble_eq_true rfl, Nat.le_of_ble_eq_true rfl⟩ hl.1 (Nat.le_of_ble_eq_true rfl) dX7_requireLesson_4 ⟨Nat.le_of_ble_eq_true rfl, Nat.le_of_ble_eq_true rfl⟩) hS (fun H locs (hW : GW z ad (GC z ad N X u3) H) hS => ?_)
  refine lv_if_ne (tgt := 21) hx hb dX7_requireLesson_7 (by decide) (fun c4 => ?_) (fun c4 => ?_)
  · replace h := ite_f h c4
    exact absurd h (by intro q; cases q)
  · replace h := ite_t h c4
    obtain ⟨rfl, rfl⟩ : _ = E9 ∧ u3 = u9 := ⟨Except.error.inj (congrArg Prod.fst (Option.some.inj h)), congrArg Prod.snd (Option.some.inj h)⟩
    exact nb_throwSW (rest := []) hx hb hfl hSW hown th_X7_100_104 (List.mem_of_getElem? (i := 7) rfl) hW hS hml hl.1 dX7_requireLesson_10 dX7_requireLesson_13 dX7_requireLesson_14 dX7_requireLesson_17 dX7_requireLesson_20 (fun x9 h9 => (ht x9 h9).elim) ⟨Nat.le_of_ble_eq_true rfl, Nat.le_of_ble_eq_true rfl, Nat.le_of_ble_eq_true rfl, Nat.le_of_ble_eq_true rfl⟩ hlocks ⟨rfl, rfl⟩
-- Panyard.teach
set_option maxRecDepth 100000 in
set_option maxHeartbeats 4000000 in
theorem cx_X7_teach (l : Launch) (z : Zt) (ad : Ad) (N : Nt) (X : Gt) (u : St) (x1 : Int32) (x2 : Int32) (x3 : Int32) (hfl : l.stackTraces = false) {E9 : String} {u9 : St} (h : f_X7_teach N u x1 x2 x3 = some (.error E9, u9)) : MX l z yX7_teach cX7_teach 5 (some .int) { frames := 7, cells := 1, slots := 6, locals := 103 } [.ref (ad 0 0), .int x1, .int x2, .int x3] ad (GC z ad N X u) (QiF z) (GC z ad N X u9) E9 := by
  refine vx_ofW (cc := cX7_teach) (maxL := 5) (ret := (some .int)) (by decide) rfl ?_
  intro p e s m args below meth c s₁ B hml ht hv
  obtain ⟨rfl, hSW, hW⟩ := hv
  have hx := B.exec; have hb := B.bytes; have hr := B.returns; have hlocks := B.notSynchronized
  have hown : s.vm.findClass RX7 = some m.cls := findClass_of_methodNamed B.named
  obtain ⟨hT, hK, hST, hB0⟩ := id hSW
  have hS : va_S (zA z) s.heap s.heap [] := va_S.rf
  have hl := lv_entry ([.ref (ad 0 0), .int x1, .int x2, .int x3]) (n := 5) (Nat.le_of_ble_eq_true rfl)
  rw [lg_entry_eq]
  generalize (lg_sl ([.ref (ad 0 0), .int x1, .int x2, .int x3]) ++ List.replicate (5 - (lg_sl ([.ref (ad 0 0), .int x1, .int x2, .int x3])).length) Slot.unset).toArray = ls at hl ⊢
  have hl : lv_has ls 5 [(0, .ref (ad 0 0)), (1, .int x1), (2, .int x2), (3, .int x3)] := hl
  unfold f_X7_teach at h
  refine lv_aload_n hx hb dX7_teach_0 rfl (lv_at hl 0 rfl) ?_
  refine lv_iload_n hx hb dX7_teach_1 rfl (lv_at hl 1 rfl) ?_
  rcases xb_e h with ⟨r1, u3, h2, h⟩ | h
  rotate_left
  · exact nx_cv (nx_runV (As := [.int x1]) (rest := []) hx hb hml hown hSW hS hW (cx_X7_requirePlayer l z ad N X u x1 hfl h) mf_X7_requirePlayer (List.mem_of_getElem? (i := 555) (by decide +kernel)) kr_0 rfl rfl ⟨rfl, rfl⟩ ⟨Nat.le_of_ble_eq_true rfl, Nat.le_of_ble_eq_true rfl⟩ hl.1 (Nat.le_of_ble_eq_true rfl) dX7_teach_2 ⟨Nat.le_of_ble_eq_true rfl, Nat.le_of_ble_eq_true rfl⟩) hS (fun ce9 q9 H locs hce hcv hcc hW hS => nx_out (fun x9 h9 => (ht x9 h9).elim) hlocks hce hcv hcc hW hS ⟨Nat.le_of_ble_eq_true rfl, Nat.le_of_ble_eq_true rfl⟩)
  refine nb_cv (nb_runV (As := [.int x1]) (rest := []) hx hb hml hown hSW hS hW (c_X7_requirePlayer l z ad N X u x1 h2) mf_X7_requirePlayer lk_X7_184 kr_0 rfl rfl ⟨rfl, rfl⟩ ⟨Nat.le_of_ble_eq_true rfl, Nat.le_of_ble_eq_true rfl⟩ hl.1 (Nat.le_of_ble_eq_true rfl) dX7_teach_2 ⟨Nat.le_of_ble_eq_true rfl, Nat.le_of_ble_eq_true rfl⟩) hS (fun H locs (hW : GW z ad (GC z ad N X u3) H) hS => ?_)
  refine lv_aload_n hx hb dX7_teach_5 rfl (lv_at hl 0 rfl) ?_
  refine lv_iload_n hx hb dX7_teach_6 rfl (lv_at hl 2 rfl) ?_
  rcases xb_e h with ⟨r4, u6, h5, h⟩ | h
  rotate_left
  · exact nx_cv (nx_runV (As := [.int x2]) (rest := []) hx hb hml hown hSW hS hW (cx_X7_requirePhrase l z ad N X u3 x2 hfl h) mf_X7_requirePhrase (List.mem_of_getElem? (i := 542) (by decide +kernel)) kr_0 rfl rfl ⟨rfl, rfl⟩ ⟨Nat.le_of_ble_eq_true rfl, Nat.le_of_ble_eq_true rfl⟩ hl.1 (Nat.le_of_ble_eq_true rfl) dX7_teach_7 ⟨Nat.le_of_ble_eq_true rfl, Nat.le_of_ble_eq_true rfl⟩) hS (fun ce9 q9 H locs hce hcv hcc hW hS => nx_out (fun x9 h9 => (ht x9 h9).elim) hlocks hce hcv hcc hW hS ⟨Nat.le_of_ble_eq_true rfl, Nat.le_of_ble_eq_true rfl⟩)
  refine nb_cv (nb_runV (As := [.int x2]) (rest := []) hx hb hml hown hSW hS hW (c_X7_requirePhrase l z ad N X u3 x2 h5) mf_X7_requirePhrase lk_X7_141 kr_0 rfl rfl ⟨rfl, rfl⟩ ⟨Nat.le_of_ble_eq_true rfl, Nat.le_of_ble_eq_true rfl⟩ hl.1 (Nat.le_of_ble_eq_true rfl) dX7_teach_7 ⟨Nat.le_of_ble_eq_true rfl, Nat.le_of_ble_eq_true rfl⟩) hS (fun H locs (hW : GW z ad (GC z ad N X u6) H) hS => ?_)
  refine lv_iload_n hx hb dX7_teach_10 rfl (lv_at hl 3 rfl) ?_
  rcases xb_e h with ⟨r7, u09, h8, h⟩ | h
  rotate_left
  · exact nx_cv (nx_runS (As := [.int x3]) (rest := []) hx hb hml hown hSW hS hW (cx_X7_requireLesson l z ad N X u6 x3 hfl h) mf_X7_requireLesson (List.mem_of_getElem? (i := 573) (by decide +kernel)) rfl ⟨rfl, rfl⟩ ⟨Nat.le_of_ble_eq_true rfl, Nat.le_of_ble_eq_true rfl⟩ hl.1 (Nat.le_of_ble_eq_true rfl) dX7_teach_11 ⟨Nat.le_of_ble_eq_true rfl, Nat.le_of_ble_eq_true rfl⟩) hS (fun ce9 q9 H locs hce hcv hcc hW hS => nx_out (fun x9 h9 => (ht x9 h9).elim) hlocks hce hcv hcc hW hS ⟨Nat.le_of_ble_eq_true rfl, Nat.le_of_ble_eq_true rfl⟩)
  refine nb_cv (nb_runS (As := [.int x3]) (rest := []) hx hb hml hown hSW hS hW (c_X7_requireLesson l z ad N X u6 x3 h8) mf_X7_requireLesson lk_X7_205 rfl ⟨rfl, rfl⟩ ⟨Nat.le_of_ble_eq_true rfl, Nat.le_of_ble_eq_true rfl⟩ hl.1 (Nat.le_of_ble_eq_true rfl) dX7_teach_11 ⟨Nat.le_of_ble_eq_true rfl, Nat.le_of_ble_eq_true rfl⟩) hS (fun H locs (hW : GW z ad (GC z ad N X u09) H) hS => ?_)
  refine lv_aload_n hx hb dX7_teach_14 rfl (lv_at hl 0 rfl) ?_
  refine nb_get hx hb hT hK hown hW fl_X7_23 kr_0 (v := .ref (ad 3 0)) rfl dX7_teach_15 ?_
  refine lv_iload_n hx hb dX7_teach_18 rfl (lv_at hl 1 rfl) ?_
  obtain ⟨g10, h⟩ := gd_s h
  obtain ⟨g11, h⟩ := gd_s h
  refine nb_aald hx hb hK hW 4 kr_3 rfl rfl (inb_in g10) (a := ad 15 (ix x1)) (qrow_at g11) dX7_teach_19 ?_
  refine lv_astore (lv' := [(4, .ref (ad 15 (ix x1))), (0, .ref (ad 0 0)), (1, .int x1), (2, .int x2), (3, .int x3)]) hx hb dX7_teach_20 hl (by decide) rfl (fun ls hl => ?_)
  refine lv_aload_n hx hb dX7_teach_22 rfl (lv_at hl 1 rfl) ?_
  refine nb_get hx hb hT hK hown hW fl_X7_17 kr_0 (v := .ref (ad 2 0)) rfl dX7_teach_23 ?_
  refine lv_iload_n hx hb dX7_teach_26 rfl (lv_at hl 3 rfl) ?_
  obtain ⟨g12, h⟩ := gd_s h
  obtain ⟨g13, h⟩ := gd_s h
  refine nb_aald hx hb hK hW 3 kr_2 rfl rfl (inb_in g12) (a := ad 14 (ix x2)) (qrow_at g13) dX7_teach_27 ?_
  refine nb_get hx hb hT hK hown hW fl_X7_208 (kr_14 g13) (v := .int (u09 20 (ix x2) 0)) rfl dX7_teach_28 ?_
  refine lv_aload hx hb dX7_teach_31 (lv_at hl 0 rfl) ?_
  refine nb_get hx hb hT hK hown hW fl_X7_190 (kr_15 g11) (v := .int (u09 30 (ix x1) 0)) rfl dX7_teach_33 ?_
  refine lv_icmp_eq (tgt := 49) hx hb dX7_teach_36 (by decide) (fun c14 => ?_) (fun c14 => ?_)
  · replace h := ite_t h c14
    refine lv_aload hx hb dX7_teach_49 (lv_at hl 0 rfl) ?_
    refine nb_get hx hb hT hK hown hW fl_X7_202 (kr_15 g11) (v := .int (u09 34 (ix x1) 0)) rfl dX7_teach_51 ?_
    refine lv_if_eq (tgt := 67) hx hb dX7_teach_54 (by decide) (fun c15 => ?_) (fun c15 => ?_)
    · replace h := ite_t h c15
      refine lv_aload_n hx hb dX7_teach_67 rfl (lv_at hl 1 rfl) ?_
      refine nb_get hx hb hT hK hown hW fl_X7_44 kr_0 (v := .ref (ad 5 0)) rfl dX7_teach_68 ?_
      refine nb_get hx hb hT hK hown hW fl_X7_213 kr_5 (v := .ref (ad 7 0)) rfl dX7_teach_71 ?_
      refine lv_aload hx hb dX7_teach_74 (lv_at hl 0 rfl) ?_
      refine nb_get hx hb hT hK hown hW fl_X7_190 (kr_15 g11) (v := .int (u09 30 (ix x1) 0)) rfl dX7_teach_76 ?_
      obtain ⟨g16, h⟩ := gd_s h
      refine nb_iald hx hb hK hW 0 kr_7 rfl (inb_in g16) dX7_teach_79 ?_
      refine lv_iload_n hx hb dX7_teach_80 rfl (lv_at hl 4 rfl) ?_
      refine lv_iadd hx hb dX7_teach_81 ?_
      refine lv_bipush (v := 90) hx hb dX7_teach_82 (by decide) ?_
      refine lv_icmp_le (tgt := 97) hx hb dX7_teach_84 (by decide) (fun c17 => ?_) (fun c17 => ?_)
      · replace h := ite_t h c17
        refine lv_aload_n hx hb dX7_teach_97 rfl (lv_at hl 1 rfl) ?_
        refine nb_get hx hb hT hK hown hW fl_X7_44 kr_0 (v := .ref (ad 5 0)) rfl dX7_teach_98 ?_
        refine nb_get hx hb hT hK hown hW fl_X7_213 kr_5 (v := .ref (ad 7 0)) rfl dX7_teach_101 ?_
        refine lv_aload hx hb dX7_teach_104 (lv_at hl 0 rfl) ?_
        refine nb_get hx hb hT hK hown hW fl_X7_190 (kr_15 g11) (v := .int (u09 30 (ix x1) 0)) rfl dX7_teach_106 ?_
        refine lv_dup2_11 hx hb dX7_teach_109 rfl rfl ?_
        refine nb_iald hx hb hK hW 0 kr_7 rfl (inb_in g16) dX7_teach_110 ?_
        refine lv_iload_n hx hb dX7_teach_111 rfl (lv_at hl 4 rfl) ?_
        refine lv_iadd hx hb dX7_teach_112 ?_
        obtain ⟨u18, eu18, h⟩ := nm_s h
        refine nb_iast hx hb hK hW hS 0 kr_7 rfl (inb_in g16) ((gp_50).trans (congrArg (GC z ad N X) eu18.symm)) dX7_teach_113 (fun H locs hW hS => ?_)
        refine lv_aload hx hb dX7_teach_114 (lv_at hl 0 rfl) ?_
        refine lv_dup hx hb dX7_teach_116 rfl ?_
        refine nb_get hx hb hT hK hown hW fl_X7_218 (kr_15 g11) (v := .int (u18 35 (ix x1) 0)) rfl dX7_teach_117 ?_
        refine lv_iload_n hx hb dX7_teach_120 rfl (lv_at hl 4 rfl) ?_
        refine lv_iadd hx hb dX7_teach_121 ?_
        obtain ⟨u19, eu19, h⟩ := nm_s h
        refine nb_put hx hb hT hK hown hW hS fl_X7_218 tyX5 tyX5_ok nmX5 (kr_15 g11) (v := .int ((u18 35 (ix x1) 0) + x3)) rfl rfl rfl (Nat.le_of_ble_eq_true rfl) ((gp_35 g11).trans (congrArg (GC z ad N X) eu19.symm)) dX7_teach_122 (fun H locs hW hS => ?_)
        refine lv_aload_n hx hb dX7_teach_125 rfl (lv_at hl 1 rfl) ?_
        refine lv_aload_n hx hb dX7_teach_126 rfl (lv_at hl 1 rfl) ?_
        refine nb_get hx hb hT hK hown hW fl_X7_37 kr_0 (v := .ref (ad 10 0)) rfl dX7_teach_127 ?_
        refine lv_iload_n hx hb dX7_teach_130 rfl (lv_at hl 2 rfl) ?_
        refine lv_iload_n hx hb dX7_teach_131 rfl (lv_at hl 3 rfl) ?_
        refine lv_iload_n hx hb dX7_teach_132 rfl (lv_at hl 4 rfl) ?_
        obtain ⟨r20, u22, h21, h⟩ := sb_s h
        refine nb_cv (nb_runV (As := [.ref (ad 10 0), .int x1, .int x2, .int x3]) (rest := []) hx hb hml hown hSW hS hW (c_X7_giveLesson l z ad N X u19 0 x1 x2 x3 (by decide) h21) mf_X7_giveLesson lk_X7_221 kr_0 rfl rfl ⟨rfl, rfl⟩ ⟨Nat.le_of_ble_eq_true rfl, Nat.le_of_ble_eq_true rfl⟩ hl.1 (Nat.le_of_ble_eq_true rfl) dX7_teach_133 ⟨Nat.le_of_ble_eq_true rfl, Nat.le_of_ble_eq_true rfl⟩) hS (fun H locs (hW : GW z ad (GC z ad N X u22) H) hS => ?_)
        refine lv_aload_n hx hb dX7_teach_136 rfl (lv_at hl 1 rfl) ?_
        refine nb_get hx hb hT hK hown hW fl_X7_37 kr_0 (v := .ref (ad 10 0)) rfl dX7_teach_137 ?_
        refine nb_get hx hb hT hK hown hW fl_X7_225 (kr_10 (by decide)) (v := .ref (ad 11 0)) rfl dX7_teach_140 ?_
        refine lv_iload_n hx hb dX7_teach_143 rfl (lv_at hl 2 rfl) ?_
        refine nb_aald hx hb hK hW 1 (kr_11 (by decide)) rfl rfl (inb_in g10) (a := ad 20 (8 * 0 + (ix x1))) (qrow_at (inb_lt g10)) dX7_teach_144 ?_
        refine lv_iload_n hx hb dX7_teach_145 rfl (lv_at hl 3 rfl) ?_
        refine nb_iald hx hb hK hW 0 (kr_20 (row_lt (by decide) (inb_lt g10))) rfl (inb_in g12) dX7_teach_146 ?_
        exact absurd h (by intro q; cases q)
      · replace h := ite_f h c17
        obtain ⟨rfl, rfl⟩ : _ = E9 ∧ u09 = u9 := ⟨Except.error.inj (congrArg Prod.fst (Option.some.inj h)), congrArg Prod.snd (Option.some.inj h)⟩
        exact nb_throwS (rest := []) hx hb hfl hSW hown th_X7_83_87 (List.mem_of_getElem? (i := 29) rfl) hW hS hml hl.1 dX7_teach_87 dX7_teach_90 dX7_teach_91 dX7_teach_93 dX7_teach_96 (fun x9 h9 => (ht x9 h9).elim) ⟨Nat.le_of_ble_eq_true rfl, Nat.le_of_ble_eq_true rfl, Nat.le_of_ble_eq_true rfl, Nat.le_of_ble_eq_true rfl⟩ hlocks ⟨rfl, rfl⟩
    · replace h := ite_f h c15
      obtain ⟨rfl, rfl⟩ : _ = E9 ∧ u09 = u9 := ⟨Except.error.inj (congrArg Prod.fst (Option.some.inj h)), congrArg Prod.snd (Option.some.inj h)⟩
      exact nb_throwS (rest := []) hx hb hfl hSW hown th_X7_83_87 (List.mem_of_getElem? (i := 28) rfl) hW hS hml hl.1 dX7_teach_57 dX7_teach_60 dX7_teach_61 dX7_teach_63 dX7_teach_66 (fun x9 h9 => (ht x9 h9).elim) ⟨Nat.le_of_ble_eq_true rfl, Nat.le_of_ble_eq_true rfl, Nat.le_of_ble_eq_true rfl, Nat.le_of_ble_eq_true rfl⟩ hlocks ⟨rfl, rfl⟩
  · replace h := ite_f h c14
    obtain ⟨rfl, rfl⟩ : _ = E9 ∧ u09 = u9 := ⟨Except.error.inj (congrArg Prod.fst (Option.some.inj h)), congrArg Prod.snd (Option.some.inj h)⟩
    exact nb_throwS (rest := []) hx hb hfl hSW hown th_X7_100_104 (List.mem_of_getElem? (i := 27) rfl) hW hS hml hl.1 dX7_teach_39 dX7_teach_42 dX7_teach_43 dX7_teach_45 dX7_teach_48 (fun x9 h9 => (ht x9 h9).elim) ⟨Nat.le_of_ble_eq_true rfl, Nat.le_of_ble_eq_true rfl, Nat.le_of_ble_eq_true rfl, Nat.le_of_ble_eq_true rfl⟩ hlocks ⟨rfl, rfl⟩
-- Panyard.rehearse
set_option maxRecDepth 100000 in
set_option maxHeartbeats 4000000 in
theorem cx_X7_rehearse (l : Launch) (z : Zt) (ad : Ad) (N : Nt) (X : Gt) (u : St) (x1 : Int32) (hfl : l.stackTraces = false) {E9 : String} {u9 : St} (h : f_X7_rehearse N u x1 = some (.error E9, u9)) : MX l z yX7_rehearse cX7_rehearse 4 (some .int) { frames := 6, cells := 1, slots := 6, locals := 94 } [.ref (ad 0 0), .int x1] ad (GC z ad N X u) (QiF z) (GC z ad N X u9) E9 := by
  refine vx_ofW (cc := cX7_rehearse) (maxL := 4) (ret := (some .int)) (by decide) rfl ?_
  intro p e s m args below meth c s₁ B hml ht hv
  obtain ⟨rfl, hSW, hW⟩ := hv
  have hx := B.exec; have hb := B.bytes; have hr := B.returns; have hlocks := B.notSynchronized
  have hown : s.vm.findClass RX7 = some m.cls := findClass_of_methodNamed B.named
  obtain ⟨hT, hK, hST, hB0⟩ := id hSW
  have hS : va_S (zA z) s.heap s.heap [] := va_S.rf
  have hl := lv_entry ([.ref (ad 0 0), .int x1]) (n := 4) (Nat.le_of_ble_eq_true rfl)
  rw [lg_entry_eq]
  generalize (lg_sl ([.ref (ad 0 0), .int x1]) ++ List.replicate (4 - (lg_sl ([.ref (ad 0 0), .int x1])).length) Slot.unset).toArray = ls at hl ⊢
  have hl : lv_has ls 4 [(0, .ref (ad 0 0)), (1, .int x1)] := hl
  let WW : Heap → List Loc → JFrame → Prop := fun H locs g => W p l e (headSpec [Cond.code yX7_rehearse cX7_rehearse 4 (some .int)] { frames := 6, cells := 1, slots := 6, locals := 94 }).room s m [.ref (ad 0 0), .int x1].toArray below meth c H locs 0 0 (vx_MQ below (QiF z) (XX z ad (GC z ad N X u9) E9) [.ref (ad 0 0), .int x1].toArray s 1 6 (zA z)) g
  have hL60b : ∀ (ih60 : Int32 → Int32 → St → Option (Except String Int32 × St)) (hih60 : ∀ (y2 : Int32) (y1 : Int32) (u : St) (H : Heap) (locs : List Loc) (ls : Array Slot), lv_has ls 4 [(2, .int y2), (0, .ref (ad 0 0)), (1, .int y1)] → GW z ad (GC z ad N X u) H → va_S (zA z) s.heap H locs → ih60 y2 y1 u = some (.error E9, u9) → WW H locs (F0 m 60 ls [])), ∀ (y2 : Int32) (y1 : Int32) (u : St) (H : Heap) (locs : List Loc) (ls : Array Slot), lv_has ls 4 [(2, .int y2), (0, .ref (ad 0 0)), (1, .int y1)] → GW z ad (GC z ad N X u) H → va_S (zA z) s.heap H locs → f_X7_rehearse_L60b N ih60 y2 y1 u = some (.error E9, u9) → WW H locs (F0 m 60 ls []) := by
    intro ih60 hih60 y2 y1 u H locs ls hl hW hS h
    change W p l e _ s m _ below meth c H locs 0 0 _ (F0 m 60 ls [])
    unfold f_X7_rehearse_L60b at h
    refine lv_iload_n hx hb dX7_rehearse_60 rfl (lv_at hl 0 rfl) ?_
    refine lv_aload_n hx hb dX7_rehearse_61 rfl (lv_at hl 1 rfl) ?_
    refine nb_get hx hb hT hK hown hW fl_X7_147 kr_0 (v := .int (u 2 0 0)) rfl dX7_rehearse_62 ?_
    refine lv_icmp_ge (tgt := 98) hx hb dX7_rehearse_65 (by decide) (fun c7 => ?_) (fun c7 => ?_)
    · replace h := ite_t h c7
      refine lv_aload_n hx hb dX7_rehearse_98 rfl (lv_at hl 1 rfl) ?_
      obtain ⟨r8, u10, h09, h⟩ := sb_s h
      refine nb_ci (nb_runV (As := []) (rest := []) hx hb hml hown hSW hS hW (c_X7_soundingCount l z ad N X u h09) mf_X7_soundingCount lk_X7_244 kr_0 rfl rfl ⟨rfl, rfl⟩ ⟨Nat.le_of_ble_eq_true rfl, Nat.le_of_ble_eq_true rfl⟩ hl.1 (Nat.le_of_ble_eq_true rfl) dX7_rehearse_99 ⟨Nat.le_of_ble_eq_true rfl, Nat.le_of_ble_eq_true rfl⟩) hS (fun H locs (hW : GW z ad (GC z ad N X u10) H) hS => ?_)
      exact absurd h (by intro q; cases q)
    · replace h := ite_f h c7
      refine lv_aload_n hx hb dX7_rehearse_68 rfl (lv_at hl 1 rfl) ?_
      refine nb_get hx hb hT hK hown hW fl_X7_23 kr_0 (v := .ref (ad 3 0)) rfl dX7_rehearse_69 ?_
      refine lv_iload_n hx hb dX7_rehearse_72 rfl (lv_at hl 0 rfl) ?_
      obtain ⟨g11, h⟩ := gd_s h
      obtain ⟨g12, h⟩ := gd_s h
      refine nb_aald hx hb hK hW 4 kr_3 rfl rfl (inb_in g11) (a := ad 15 (ix y2)) (qrow_at g12) dX7_rehearse_73 ?_
      obtain ⟨r13, u15, h14, h⟩ := sb_s h
      refine nb_cq (nb_runV (As := []) (rest := []) hx hb hml hown hSW hS hW (c_X5_soundingPan l z ad N X u (ix y2) g12 h14) mf_X5_soundingPan lk_X7_236 (kr_15 g12) rfl rfl ⟨rfl, rfl⟩ ⟨Nat.le_of_ble_eq_true rfl, Nat.le_of_ble_eq_true rfl⟩ hl.1 (Nat.le_of_ble_eq_true rfl) dX7_rehearse_74 ⟨Nat.le_of_ble_eq_true rfl, Nat.le_of_ble_eq_true rfl⟩) hS (fun H locs (hW : GW z ad (GC z ad N X u15) H) hS => ?_)
      refine nb_oc (fun o17 => ?_) (fun q16 o17 => ?_)
      · replace h := oc_n o17 h
        refine lv_astore_nN (lv' := [(3, .null), (2, .int y2), (0, .ref (ad 0 0)), (1, .int y1)]) hx hb dX7_rehearse_77 rfl hl (by decide) rfl (fun ls hl => ?_)
        refine lv_aload_nN hx hb dX7_rehearse_78 rfl (lv_at hl 0 rfl) ?_
        refine lv_ifnullN (tgt := 92) hx hb dX7_rehearse_79 (by decide) ?_
        obtain ⟨v18, ev18, h⟩ := nm_s h
        refine lv_iinc (v := v18) (lv' := [(2, .int v18), (3, .null), (0, .ref (ad 0 0)), (1, .int y1)]) hx hb dX7_rehearse_92 hl (k := 1) rfl (by rw [ev18]; rfl) (by decide) rfl (fun ls hl => ?_)
        refine lv_goto (tgt := 60) hx hb dX7_rehearse_95 (by decide) ?_
        exact hih60 _ _ _ _ _ _ (lv_sub hl [0, 2, 3] rfl) hW hS h
      · replace h := oc_q o17 h
        obtain ⟨g19, h⟩ := gd_s h
        refine lv_astore_n (lv' := [(3, .ref (ad 12 q16)), (2, .int y2), (0, .ref (ad 0 0)), (1, .int y1)]) hx hb dX7_rehearse_77 rfl hl (by decide) rfl (fun ls hl => ?_)
        refine lv_aload_n hx hb dX7_rehearse_78 rfl (lv_at hl 0 rfl) ?_
        refine lv_ifnull hx hb dX7_rehearse_79 ?_
        refine lv_aload_n hx hb dX7_rehearse_82 rfl (lv_at hl 2 rfl) ?_
        refine lv_iload_n hx hb dX7_rehearse_83 rfl (lv_at hl 1 rfl) ?_
        refine lv_aload_n hx hb dX7_rehearse_84 rfl (lv_at hl 0 rfl) ?_
        refine lv_iload_n hx hb dX7_rehearse_85 rfl (lv_at hl 3 rfl) ?_
        refine lv_bipush (v := 10) hx hb dX7_rehearse_86 (by decide) ?_
        refine lv_idiv hx hb dX7_rehearse_88 (by decide) ?_
        obtain ⟨r20, u22, h21, h⟩ := sb_s h
        refine nb_cv (nb_runV (As := [.int y2, .ref (ad 12 q16), .int (y1 / 10)]) (rest := []) hx hb hml hown hSW hS hW (c_X7_rehearsePlaces l z ad N X u15 y2 q16 (y1 / 10) g19 h21) mf_X7_rehearsePlaces lk_X7_240 kr_0 rfl rfl ⟨rfl, rfl⟩ ⟨Nat.le_of_ble_eq_true rfl, Nat.le_of_ble_eq_true rfl⟩ hl.1 (Nat.le_of_ble_eq_true rfl) dX7_rehearse_89 ⟨Nat.le_of_ble_eq_true rfl, Nat.le_of_ble_eq_true rfl⟩) hS (fun H locs (hW : GW z ad (GC z ad N X u22) H) hS => ?_)
        obtain ⟨v23, ev23, h⟩ := nm_s h
        refine lv_iinc (v := v23) (lv' := [(2, .int v23), (3, .ref (ad 12 q16)), (0, .ref (ad 0 0)), (1, .int y1)]) hx hb dX7_rehearse_92 hl (k := 1) rfl (by rw [ev23]; rfl) (by decide) rfl (fun ls hl => ?_)
        refine lv_goto (tgt := 60) hx hb dX7_rehearse_95 (by decide) ?_
        exact hih60 _ _ _ _ _ _ (lv_sub hl [0, 2, 3] rfl) hW hS h
  have hL60 : ∀ (n : Nat), ∀ (y2 : Int32) (y1 : Int32) (u : St) (H : Heap) (locs : List Loc) (ls : Array Slot), lv_has ls 4 [(2, .int y2), (0, .ref (ad 0 0)), (1, .int y1)] → GW z ad (GC z ad N X u) H → va_S (zA z) s.heap H locs → f_X7_rehearse_L60 N n y2 y1 u = some (.error E9, u9) → WW H locs (F0 m 60 ls []) := by
    intro n
    induction n with
    | zero => intro y2 y1 u H locs ls hl hW hS h; exact absurd h (by intro q; cases q)
    | succ n ihn => intro y2 y1 u H locs ls hl hW hS h; exact hL60b (f_X7_rehearse_L60 N n) ihn y2 y1 u H locs ls hl hW hS h
  unfold f_X7_rehearse at h
  refine lv_iload_n hx hb dX7_rehearse_0 rfl (lv_at hl 1 rfl) ?_
  refine lv_bipush (v := 10) hx hb dX7_rehearse_1 (by decide) ?_
  refine lv_bipush (v := 120) hx hb dX7_rehearse_3 (by decide) ?_
  obtain ⟨r1, u3, h2, h⟩ := sb_s h
  refine nb_ci (nb_runS (As := [.int x1, .int 10, .int 120]) (rest := []) hx hb hml hown hSW hS hW (c_X7_isWithin l z ad N X u x1 10 120 h2) mf_X7_isWithin lk_X7_96 rfl ⟨rfl, rfl⟩ ⟨Nat.le_of_ble_eq_true rfl, Nat.le_of_ble_eq_true rfl⟩ hl.1 (Nat.le_of_ble_eq_true rfl) dX7_rehearse_5 ⟨Nat.le_of_ble_eq_true rfl, Nat.le_of_ble_eq_true rfl⟩) hS (fun H locs (hW : GW z ad (GC z ad N X u3) H) hS => ?_)
  refine lv_if_ne (tgt := 21) hx hb dX7_rehearse_8 (by decide) (fun c4 => ?_) (fun c4 => ?_)
  · replace h := ite_f h c4
    refine lv_aload_n hx hb dX7_rehearse_21 rfl (lv_at hl 0 rfl) ?_
    refine nb_get hx hb hT hK hown hW fl_X7_44 kr_0 (v := .ref (ad 5 0)) rfl dX7_rehearse_22 ?_
    refine nb_get hx hb hT hK hown hW fl_X7_231 kr_5 (v := .int (u3 52 0 0)) rfl dX7_rehearse_25 ?_
    refine lv_iload_n hx hb dX7_rehearse_28 rfl (lv_at hl 1 rfl) ?_
    refine lv_iadd hx hb dX7_rehearse_29 ?_
    refine lv_bipush (v := 120) hx hb dX7_rehearse_30 (by decide) ?_
    refine lv_icmp_le (tgt := 45) hx hb dX7_rehearse_32 (by decide) (fun c5 => ?_) (fun c5 => ?_)
    · replace h := ite_t h c5
      refine lv_aload_n hx hb dX7_rehearse_45 rfl (lv_at hl 0 rfl) ?_
      refine nb_get hx hb hT hK hown hW fl_X7_44 kr_0 (v := .ref (ad 5 0)) rfl dX7_rehearse_46 ?_
      refine lv_dup hx hb dX7_rehearse_49 rfl ?_
      refine nb_get hx hb hT hK hown hW fl_X7_231 kr_5 (v := .int (u3 52 0 0)) rfl dX7_rehearse_50 ?_
      refine lv_iload_n hx hb dX7_rehearse_53 rfl (lv_at hl 1 rfl) ?_
      refine lv_iadd hx hb dX7_rehearse_54 ?_
      obtain ⟨u6, eu6, h⟩ := nm_s h
      refine nb_put hx hb hT hK hown hW hS fl_X7_231 tyX6 tyX6_ok nmX6 kr_5 (v := .int ((u3 52 0 0) + x1)) rfl rfl rfl (Nat.le_of_ble_eq_true rfl) ((gp_52).trans (congrArg (GC z ad N X) eu6.symm)) dX7_rehearse_55 (fun H locs hW hS => ?_)
      refine lv_iconst (v := 0) hx hb dX7_rehearse_58 (by decide) ?_
      refine lv_istore_n (lv' := [(2, .int 0), (0, .ref (ad 0 0)), (1, .int x1)]) hx hb dX7_rehearse_59 rfl hl (by decide) rfl (fun ls hl => ?_)
      exact hL60 1000000 _ _ _ _ _ _ (lv_sub hl [0, 1, 2] rfl) hW hS h
    · replace h := ite_f h c5
      obtain ⟨rfl, rfl⟩ : _ = E9 ∧ u3 = u9 := ⟨Except.error.inj (congrArg Prod.fst (Option.some.inj h)), congrArg Prod.snd (Option.some.inj h)⟩
      exact nb_throwS (rest := []) hx hb hfl hSW hown th_X7_83_87 (List.mem_of_getElem? (i := 31) rfl) hW hS hml hl.1 dX7_rehearse_35 dX7_rehearse_38 dX7_rehearse_39 dX7_rehearse_41 dX7_rehearse_44 (fun x9 h9 => (ht x9 h9).elim) ⟨Nat.le_of_ble_eq_true rfl, Nat.le_of_ble_eq_true rfl, Nat.le_of_ble_eq_true rfl, Nat.le_of_ble_eq_true rfl⟩ hlocks ⟨rfl, rfl⟩
  · replace h := ite_t h c4
    obtain ⟨rfl, rfl⟩ : _ = E9 ∧ u3 = u9 := ⟨Except.error.inj (congrArg Prod.fst (Option.some.inj h)), congrArg Prod.snd (Option.some.inj h)⟩
    exact nb_throwS (rest := []) hx hb hfl hSW hown th_X7_100_104 (List.mem_of_getElem? (i := 30) rfl) hW hS hml hl.1 dX7_rehearse_11 dX7_rehearse_14 dX7_rehearse_15 dX7_rehearse_17 dX7_rehearse_20 (fun x9 h9 => (ht x9 h9).elim) ⟨Nat.le_of_ble_eq_true rfl, Nat.le_of_ble_eq_true rfl, Nat.le_of_ble_eq_true rfl, Nat.le_of_ble_eq_true rfl⟩ hlocks ⟨rfl, rfl⟩
