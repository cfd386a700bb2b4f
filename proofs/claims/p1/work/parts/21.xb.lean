/-! the ends by an exception -/
-- Panyard.pass
set_option maxRecDepth 100000 in
set_option maxHeartbeats 4000000 in
theorem cx_X7_pass (l : Launch) (z : Zt) (ad : Ad) (N : Nt) (X : Gt) (u : St) (x1 : Int32) (x2 : Int32) (x3 : Int32) (hfl : l.stackTraces = false) {E9 : String} {u9 : St} (h : f_X7_pass N u x1 x2 x3 = some (.error E9, u9)) : MX l z yX7_pass cX7_pass 5 (some .int) { frames := 6, cells := 1, slots := 6, locals := 88 } [.ref (ad 0 0), .int x1, .int x2, .int x3] ad (GC z ad N X u) (QiF z) (GC z ad N X u9) E9 := by
  refine vx_ofW (cc := cX7_pass) (maxL := 5) (ret := (some .int)) (by decide) rfl ?_
  intro p e s m args below meth c s₁ B hml ht hv
  obtain ⟨rfl, hSW, hW⟩ := hv
  have hx := B.exec; have hb := B.bytes; have hr := B.returns; have hlocks := B.notSynchronized
  have hown : s.vm.findClass RX7 = some m.cls := findClass_of_methodNamed B.named
  obtain ⟨hT, hK, hST, hB0⟩ := id hSW
  have hS : va_S (zA z) s.heap s.heap [] := va_S.rf
  have hl := lv_entry ([.ref (ad 0 0), .int x1, .int x2, .int x3]) (n := 5) (Nat.le_of_ble_eq_true rfl)
  rw [lg_entry_eq]
  generalize (lg_sl ([.ref (ad 0 0), .int x1, .int x2, .int x3]) ++ List.replicate (5 - (lg_sl ([.ref (ad 0 0), .int x1, .int x2, .int x3])).length) Slot.unset).toArray = ls at hl ⊢
  have hl : lv_has ls 5 [(0, .ref (ad 0 0)), (1, .int x1), (2, .int x2), (3, .int x3)] := hl
  let WW : Heap → List Loc → JFrame → Prop := fun H locs g => W p l e (headSpec [Cond.code yX7_pass cX7_pass 5 (some .int)] { frames := 6, cells := 1, slots := 6, locals := 88 }).room s m [.ref (ad 0 0), .int x1, .int x2, .int x3].toArray below meth c H locs 0 0 (vx_MQ below (QiF z) (XX z ad (GC z ad N X u9) E9) [.ref (ad 0 0), .int x1, .int x2, .int x3].toArray s 1 6 (zA z)) g
  have hL53b : ∀ (ih53 : Int32 → Int32 → Int32 → Int32 → St → Option (Except String Int32 × St)) (hih53 : ∀ (y4 : Int32) (y1 : Int32) (y2 : Int32) (y3 : Int32) (u : St) (H : Heap) (locs : List Loc) (ls : Array Slot), lv_has ls 5 [(4, .int y4), (0, .ref (ad 0 0)), (1, .int y1), (2, .int y2), (3, .int y3)] → GW z ad (GC z ad N X u) H → va_S (zA z) s.heap H locs → ih53 y4 y1 y2 y3 u = some (.error E9, u9) → WW H locs (F0 m 53 ls [])), ∀ (y4 : Int32) (y1 : Int32) (y2 : Int32) (y3 : Int32) (u : St) (H : Heap) (locs : List Loc) (ls : Array Slot), lv_has ls 5 [(4, .int y4), (0, .ref (ad 0 0)), (1, .int y1), (2, .int y2), (3, .int y3)] → GW z ad (GC z ad N X u) H → va_S (zA z) s.heap H locs → f_X7_pass_L53b N ih53 y4 y1 y2 y3 u = some (.error E9, u9) → WW H locs (F0 m 53 ls []) := by
    intro ih53 hih53 y4 y1 y2 y3 u H locs ls hl hW hS h
    change W p l e _ s m _ below meth c H locs 0 0 _ (F0 m 53 ls [])
    unfold f_X7_pass_L53b at h
    refine lv_iload hx hb dX7_pass_53 (lv_at hl 0 rfl) ?_
    refine lv_iload_n hx hb dX7_pass_55 rfl (lv_at hl 2 rfl) ?_
    refine lv_icmp_ge (tgt := 93) hx hb dX7_pass_56 (by decide) (fun c13 => ?_) (fun c13 => ?_)
    · replace h := ite_t h c13
      refine lv_aload_n hx hb dX7_pass_93 rfl (lv_at hl 1 rfl) ?_
      refine nb_get hx hb hT hK hown hW fl_X7_44 kr_0 (v := .ref (ad 5 0)) rfl dX7_pass_94 ?_
      refine nb_get hx hb hT hK hown hW fl_X7_261 kr_5 (v := .int (u 51 0 0)) rfl dX7_pass_97 ?_
      exact absurd h (by intro q; cases q)
    · replace h := ite_f h c13
      refine lv_aload_n hx hb dX7_pass_59 rfl (lv_at hl 1 rfl) ?_
      refine nb_get hx hb hT hK hown hW fl_X7_37 kr_0 (v := .ref (ad 10 0)) rfl dX7_pass_60 ?_
      refine lv_aload_n hx hb dX7_pass_63 rfl (lv_at hl 1 rfl) ?_
      refine nb_get hx hb hT hK hown hW fl_X7_17 kr_0 (v := .ref (ad 2 0)) rfl dX7_pass_64 ?_
      refine lv_aload_n hx hb dX7_pass_67 rfl (lv_at hl 1 rfl) ?_
      refine nb_get hx hb hT hK hown hW fl_X7_133 kr_0 (v := .int (u 1 0 0)) rfl dX7_pass_68 ?_
      obtain ⟨r14, u16, h15, h⟩ := sb_s h
      refine nb_cv (nb_runV (As := [.ref (ad 2 0), .int (u 1 0 0)]) (rest := []) hx hb hml hown hSW hS hW (c_X2_sleep l z ad N X u 0 (u 1 0 0) (by decide) h15) mf_X2_sleep lk_X7_251 (kr_10 (by decide)) rfl rfl ⟨rfl, rfl⟩ ⟨Nat.le_of_ble_eq_true rfl, Nat.le_of_ble_eq_true rfl⟩ hl.1 (Nat.le_of_ble_eq_true rfl) dX7_pass_71 ⟨Nat.le_of_ble_eq_true rfl, Nat.le_of_ble_eq_true rfl⟩) hS (fun H locs (hW : GW z ad (GC z ad N X u16) H) hS => ?_)
      refine lv_aload_n hx hb dX7_pass_74 rfl (lv_at hl 1 rfl) ?_
      refine lv_iload_n hx hb dX7_pass_75 rfl (lv_at hl 3 rfl) ?_
      refine lv_iload_n hx hb dX7_pass_76 rfl (lv_at hl 4 rfl) ?_
      obtain ⟨r17, u19, h18, h⟩ := sb_s h
      refine nb_cv (nb_runV (As := [.int y2, .int y3]) (rest := []) hx hb hml hown hSW hS hW (c_X7_weather l z ad N X u16 y2 y3 h18) mf_X7_weather lk_X7_255 kr_0 rfl rfl ⟨rfl, rfl⟩ ⟨Nat.le_of_ble_eq_true rfl, Nat.le_of_ble_eq_true rfl⟩ hl.1 (Nat.le_of_ble_eq_true rfl) dX7_pass_77 ⟨Nat.le_of_ble_eq_true rfl, Nat.le_of_ble_eq_true rfl⟩) hS (fun H locs (hW : GW z ad (GC z ad N X u19) H) hS => ?_)
      refine lv_aload_n hx hb dX7_pass_80 rfl (lv_at hl 1 rfl) ?_
      refine nb_get hx hb hT hK hown hW fl_X7_44 kr_0 (v := .ref (ad 5 0)) rfl dX7_pass_81 ?_
      obtain ⟨r20, u22, h21, h⟩ := sb_s h
      refine nb_cv (nb_runV (As := []) (rest := []) hx hb hml hown hSW hS hW (c_X6_turn l z ad N X u19 h21) mf_X6_turn lk_X7_258 kr_5 rfl rfl ⟨rfl, rfl⟩ ⟨Nat.le_of_ble_eq_true rfl, Nat.le_of_ble_eq_true rfl⟩ hl.1 (Nat.le_of_ble_eq_true rfl) dX7_pass_84 ⟨Nat.le_of_ble_eq_true rfl, Nat.le_of_ble_eq_true rfl⟩) hS (fun H locs (hW : GW z ad (GC z ad N X u22) H) hS => ?_)
      obtain ⟨v23, ev23, h⟩ := nm_s h
      refine lv_iinc (v := v23) (lv' := [(4, .int v23), (0, .ref (ad 0 0)), (1, .int y1), (2, .int y2), (3, .int y3)]) hx hb dX7_pass_87 hl (k := 0) rfl (by rw [ev23]; rfl) (by decide) rfl (fun ls hl => ?_)
      refine lv_goto (tgt := 53) hx hb dX7_pass_90 (by decide) ?_
      exact hih53 _ _ _ _ _ _ _ _ (lv_sub hl [0, 1, 2, 3, 4] rfl) hW hS h
  have hL53 : ∀ (n : Nat), ∀ (y4 : Int32) (y1 : Int32) (y2 : Int32) (y3 : Int32) (u : St) (H : Heap) (locs : List Loc) (ls : Array Slot), lv_has ls 5 [(4, .int y4), (0, .ref (ad 0 0)), (1, .int y1), (2, .int y2), (3, .int y3)] → GW z ad (GC z ad N X u) H → va_S (zA z) s.heap H locs → f_X7_pass_L53 N n y4 y1 y2 y3 u = some (.error E9, u9) → WW H locs (F0 m 53 ls []) := by
    intro n
    induction n with
    | zero => intro y4 y1 y2 y3 u H locs ls hl hW hS h; exact absurd h (by intro q; cases q)
    | succ n ihn => intro y4 y1 y2 y3 u H locs ls hl hW hS h; exact hL53b (f_X7_pass_L53 N n) ihn y4 y1 y2 y3 u H locs ls hl hW hS h
  unfold f_X7_pass at h
  refine lv_iload_n hx hb dX7_pass_0 rfl (lv_at hl 1 rfl) ?_
  refine lv_iconst (v := 1) hx hb dX7_pass_1 (by decide) ?_
  refine lv_bipush (v := 30) hx hb dX7_pass_2 (by decide) ?_
  obtain ⟨r1, u3, h2, h⟩ := sb_s h
  refine nb_ci (nb_runS (As := [.int x1, .int 1, .int 30]) (rest := []) hx hb hml hown hSW hS hW (c_X7_isWithin l z ad N X u x1 1 30 h2) mf_X7_isWithin lk_X7_96 rfl ⟨rfl, rfl⟩ ⟨Nat.le_of_ble_eq_true rfl, Nat.le_of_ble_eq_true rfl⟩ hl.1 (Nat.le_of_ble_eq_true rfl) dX7_pass_4 ⟨Nat.le_of_ble_eq_true rfl, Nat.le_of_ble_eq_true rfl⟩) hS (fun H locs (hW : GW z ad (GC z ad N X u3) H) hS => ?_)
  refine lv_if_ne (tgt := 20) hx hb dX7_pass_7 (by decide) (fun c4 => ?_) (fun c4 => ?_)
  · replace h := ite_f h c4
    refine lv_iload_n hx hb dX7_pass_20 rfl (lv_at hl 2 rfl) ?_
    refine lv_iconst (v := 0) hx hb dX7_pass_21 (by decide) ?_
    refine lv_bipush (v := 9) hx hb dX7_pass_22 (by decide) ?_
    obtain ⟨r5, u7, h6, h⟩ := sb_s h
    refine nb_ci (nb_runS (As := [.int x2, .int 0, .int 9]) (rest := []) hx hb hml hown hSW hS hW (c_X7_isWithin l z ad N X u3 x2 0 9 h6) mf_X7_isWithin lk_X7_96 rfl ⟨rfl, rfl⟩ ⟨Nat.le_of_ble_eq_true rfl, Nat.le_of_ble_eq_true rfl⟩ hl.1 (Nat.le_of_ble_eq_true rfl) dX7_pass_24 ⟨Nat.le_of_ble_eq_true rfl, Nat.le_of_ble_eq_true rfl⟩) hS (fun H locs (hW : GW z ad (GC z ad N X u7) H) hS => ?_)
    refine lv_if_eq (tgt := 40) hx hb dX7_pass_27 (by decide) (fun c8 => ?_) (fun c8 => ?_)
    · replace h := ite_t h c8
      obtain ⟨rfl, rfl⟩ : _ = E9 ∧ u7 = u9 := ⟨Except.error.inj (congrArg Prod.fst (Option.some.inj h)), congrArg Prod.snd (Option.some.inj h)⟩
      exact nb_throwS (rest := []) hx hb hfl hSW hown th_X7_100_104 (List.mem_of_getElem? (i := 33) rfl) hW hS hml hl.1 dX7_pass_40 dX7_pass_43 dX7_pass_44 dX7_pass_46 dX7_pass_49 (fun x9 h9 => (ht x9 h9).elim) ⟨Nat.le_of_ble_eq_true rfl, Nat.le_of_ble_eq_true rfl, Nat.le_of_ble_eq_true rfl, Nat.le_of_ble_eq_true rfl⟩ hlocks ⟨rfl, rfl⟩
    · replace h := ite_f h c8
      refine lv_iload_n hx hb dX7_pass_30 rfl (lv_at hl 3 rfl) ?_
      refine lv_iconst (v := 0) hx hb dX7_pass_31 (by decide) ?_
      refine lv_bipush (v := 9) hx hb dX7_pass_32 (by decide) ?_
      obtain ⟨r09, u11, h10, h⟩ := sb_s h
      refine nb_ci (nb_runS (As := [.int x3, .int 0, .int 9]) (rest := []) hx hb hml hown hSW hS hW (c_X7_isWithin l z ad N X u7 x3 0 9 h10) mf_X7_isWithin lk_X7_96 rfl ⟨rfl, rfl⟩ ⟨Nat.le_of_ble_eq_true rfl, Nat.le_of_ble_eq_true rfl⟩ hl.1 (Nat.le_of_ble_eq_true rfl) dX7_pass_34 ⟨Nat.le_of_ble_eq_true rfl, Nat.le_of_ble_eq_true rfl⟩) hS (fun H locs (hW : GW z ad (GC z ad N X u11) H) hS => ?_)
      refine lv_if_ne (tgt := 50) hx hb dX7_pass_37 (by decide) (fun c12 => ?_) (fun c12 => ?_)
      · replace h := ite_f h c12
        refine lv_iconst (v := 0) hx hb dX7_pass_50 (by decide) ?_
        refine lv_istore (lv' := [(4, .int 0), (0, .ref (ad 0 0)), (1, .int x1), (2, .int x2), (3, .int x3)]) hx hb dX7_pass_51 hl (by decide) rfl (fun ls hl => ?_)
        exact hL53 1000000 _ _ _ _ _ _ _ _ (lv_sub hl [0, 1, 2, 3, 4] rfl) hW hS h
      · replace h := ite_t h c12
        obtain ⟨rfl, rfl⟩ : _ = E9 ∧ u11 = u9 := ⟨Except.error.inj (congrArg Prod.fst (Option.some.inj h)), congrArg Prod.snd (Option.some.inj h)⟩
        exact nb_throwS (rest := []) hx hb hfl hSW hown th_X7_100_104 (List.mem_of_getElem? (i := 33) rfl) hW hS hml hl.1 dX7_pass_40 dX7_pass_43 dX7_pass_44 dX7_pass_46 dX7_pass_49 (fun x9 h9 => (ht x9 h9).elim) ⟨Nat.le_of_ble_eq_true rfl, Nat.le_of_ble_eq_true rfl, Nat.le_of_ble_eq_true rfl, Nat.le_of_ble_eq_true rfl⟩ hlocks ⟨rfl, rfl⟩
  · replace h := ite_t h c4
    obtain ⟨rfl, rfl⟩ : _ = E9 ∧ u3 = u9 := ⟨Except.error.inj (congrArg Prod.fst (Option.some.inj h)), congrArg Prod.snd (Option.some.inj h)⟩
    exact nb_throwS (rest := []) hx hb hfl hSW hown th_X7_100_104 (List.mem_of_getElem? (i := 32) rfl) hW hS hml hl.1 dX7_pass_10 dX7_pass_13 dX7_pass_14 dX7_pass_16 dX7_pass_19 (fun x9 h9 => (ht x9 h9).elim) ⟨Nat.le_of_ble_eq_true rfl, Nat.le_of_ble_eq_true rfl, Nat.le_of_ble_eq_true rfl, Nat.le_of_ble_eq_true rfl⟩ hlocks ⟨rfl, rfl⟩
-- Panyard.sponsor
set_option maxRecDepth 100000 in
set_option maxHeartbeats 4000000 in
theorem cx_X7_sponsor (l : Launch) (z : Zt) (ad : Ad) (N : Nt) (X : Gt) (u : St) (x1 : Int32) (hfl : l.stackTraces = false) {E9 : String} {u9 : St} (h : f_X7_sponsor N u x1 = some (.error E9, u9)) : MX l z yX7_sponsor cX7_sponsor 2 (some .int) { frames := 6, cells := 1, slots := 6, locals := 82 } [.ref (ad 0 0), .int x1] ad (GC z ad N X u) (QiF z) (GC z ad N X u9) E9 := by
  refine vx_ofW (cc := cX7_sponsor) (maxL := 2) (ret := (some .int)) (by decide) rfl ?_
  intro p e s m args below meth c s₁ B hml ht hv
  obtain ⟨rfl, hSW, hW⟩ := hv
  have hx := B.exec; have hb := B.bytes; have hr := B.returns; have hlocks := B.notSynchronized
  have hown : s.vm.findClass RX7 = some m.cls := findClass_of_methodNamed B.named
  obtain ⟨hT, hK, hST, hB0⟩ := id hSW
  have hS : va_S (zA z) s.heap s.heap [] := va_S.rf
  have hl := lv_entry ([.ref (ad 0 0), .int x1]) (n := 2) (Nat.le_of_ble_eq_true rfl)
  rw [lg_entry_eq]
  generalize (lg_sl ([.ref (ad 0 0), .int x1]) ++ List.replicate (2 - (lg_sl ([.ref (ad 0 0), .int x1])).length) Slot.unset).toArray = ls at hl ⊢
  have hl : lv_has ls 2 [(0, .ref (ad 0 0)), (1, .int x1)] := hl
  unfold f_X7_sponsor at h
  refine lv_iload_n hx hb dX7_sponsor_0 rfl (lv_at hl 1 rfl) ?_
  refine lv_iconst (v := 1) hx hb dX7_sponsor_1 (by decide) ?_
  refine lv_sipush (v := 500) hx hb dX7_sponsor_2 (by decide) ?_
  obtain ⟨r1, u3, h2, h⟩ := sb_s h
  refine nb_ci (nb_runS (As := [.int x1, .int 1, .int 500]) (rest := []) hx hb hml hown hSW hS hW (c_X7_isWithin l z ad N X u x1 1 500 h2) mf_X7_isWithin lk_X7_96 rfl ⟨rfl, rfl⟩ ⟨Nat.le_of_ble_eq_true rfl, Nat.le_of_ble_eq_true rfl⟩ hl.1 (Nat.le_of_ble_eq_true rfl) dX7_sponsor_5 ⟨Nat.le_of_ble_eq_true rfl, Nat.le_of_ble_eq_true rfl⟩) hS (fun H locs (hW : GW z ad (GC z ad N X u3) H) hS => ?_)
  refine lv_if_ne (tgt := 22) hx hb dX7_sponsor_8 (by decide) (fun c4 => ?_) (fun c4 => ?_)
  · replace h := ite_f h c4
    refine lv_aload_n hx hb dX7_sponsor_22 rfl (lv_at hl 0 rfl) ?_
    refine lv_dup hx hb dX7_sponsor_23 rfl ?_
    refine nb_get hx hb hT hK hown hW fl_X7_55 kr_0 (v := .int (u3 3 0 0)) rfl dX7_sponsor_24 ?_
    refine lv_iload_n hx hb dX7_sponsor_27 rfl (lv_at hl 1 rfl) ?_
    refine lv_iadd hx hb dX7_sponsor_28 ?_
    obtain ⟨u5, eu5, h⟩ := nm_s h
    refine nb_put hx hb hT hK hown hW hS fl_X7_55 tyX7 tyX7_ok nmX7 kr_0 (v := .int ((u3 3 0 0) + x1)) rfl rfl rfl (Nat.le_of_ble_eq_true rfl) ((gp_3).trans (congrArg (GC z ad N X) eu5.symm)) dX7_sponsor_29 (fun H locs hW hS => ?_)
    refine lv_aload_n hx hb dX7_sponsor_32 rfl (lv_at hl 0 rfl) ?_
    refine nb_get hx hb hT hK hown hW fl_X7_55 kr_0 (v := .int (u5 3 0 0)) rfl dX7_sponsor_33 ?_
    exact absurd h (by intro q; cases q)
  · replace h := ite_t h c4
    obtain ⟨rfl, rfl⟩ : _ = E9 ∧ u3 = u9 := ⟨Except.error.inj (congrArg Prod.fst (Option.some.inj h)), congrArg Prod.snd (Option.some.inj h)⟩
    exact nb_throwSW (rest := []) hx hb hfl hSW hown th_X7_100_104 (List.mem_of_getElem? (i := 34) rfl) hW hS hml hl.1 dX7_sponsor_11 dX7_sponsor_14 dX7_sponsor_15 dX7_sponsor_18 dX7_sponsor_21 (fun x9 h9 => (ht x9 h9).elim) ⟨Nat.le_of_ble_eq_true rfl, Nat.le_of_ble_eq_true rfl, Nat.le_of_ble_eq_true rfl, Nat.le_of_ble_eq_true rfl⟩ hlocks ⟨rfl, rfl⟩
-- Panyard.rival
set_option maxRecDepth 100000 in
set_option maxHeartbeats 4000000 in
theorem cx_X7_rival (l : Launch) (z : Zt) (ad : Ad) (N : Nt) (X : Gt) (u : St) (x1 : Int32) (hfl : l.stackTraces = false) {E9 : String} {u9 : St} (h : f_X7_rival N u x1 = some (.error E9, u9)) : MX l z yX7_rival cX7_rival 3 (some .int) { frames := 6, cells := 1, slots := 6, locals := 82 } [.ref (ad 0 0), .int x1] ad (GC z ad N X u) (QiF z) (GC z ad N X u9) E9 := by
  refine vx_ofW (cc := cX7_rival) (maxL := 3) (ret := (some .int)) (by decide) rfl ?_
  intro p e s m args below meth c s₁ B hml ht hv
  obtain ⟨rfl, hSW, hW⟩ := hv
  have hx := B.exec; have hb := B.bytes; have hr := B.returns; have hlocks := B.notSynchronized
  have hown : s.vm.findClass RX7 = some m.cls := findClass_of_methodNamed B.named
  obtain ⟨hT, hK, hST, hB0⟩ := id hSW
  have hS : va_S (zA z) s.heap s.heap [] := va_S.rf
  have hl := lv_entry ([.ref (ad 0 0), .int x1]) (n := 3) (Nat.le_of_ble_eq_true rfl)
  rw [lg_entry_eq]
  generalize (lg_sl ([.ref (ad 0 0), .int x1]) ++ List.replicate (3 - (lg_sl ([.ref (ad 0 0), .int x1])).length) Slot.unset).toArray = ls at hl ⊢
  have hl : lv_has ls 3 [(0, .ref (ad 0 0)), (1, .int x1)] := hl
  unfold f_X7_rival at h
  refine lv_iload_n hx hb dX7_rival_0 rfl (lv_at hl 1 rfl) ?_
  refine lv_iconst (v := 0) hx hb dX7_rival_1 (by decide) ?_
  refine lv_sipush (v := 400) hx hb dX7_rival_2 (by decide) ?_
  obtain ⟨r1, u3, h2, h⟩ := sb_s h
  refine nb_ci (nb_runS (As := [.int x1, .int 0, .int 400]) (rest := []) hx hb hml hown hSW hS hW (c_X7_isWithin l z ad N X u x1 0 400 h2) mf_X7_isWithin lk_X7_96 rfl ⟨rfl, rfl⟩ ⟨Nat.le_of_ble_eq_true rfl, Nat.le_of_ble_eq_true rfl⟩ hl.1 (Nat.le_of_ble_eq_true rfl) dX7_rival_5 ⟨Nat.le_of_ble_eq_true rfl, Nat.le_of_ble_eq_true rfl⟩) hS (fun H locs (hW : GW z ad (GC z ad N X u3) H) hS => ?_)
  refine lv_if_ne (tgt := 22) hx hb dX7_rival_8 (by decide) (fun c4 => ?_) (fun c4 => ?_)
  · replace h := ite_f h c4
    refine lv_aload_n hx hb dX7_rival_22 rfl (lv_at hl 0 rfl) ?_
    refine nb_get hx hb hT hK hown hW fl_X7_51 kr_0 (v := .ref (ad 6 0)) rfl dX7_rival_23 ?_
    refine nb_get hx hb hT hK hown hW fl_X7_268 kr_6 (v := .int (u3 64 0 0)) rfl dX7_rival_26 ?_
    refine lv_bipush (v := 6) hx hb dX7_rival_29 (by decide) ?_
    refine lv_icmp_lt (tgt := 45) hx hb dX7_rival_31 (by decide) (fun c5 => ?_) (fun c5 => ?_)
    · replace h := ite_t h c5
      refine lv_aload_n hx hb dX7_rival_45 rfl (lv_at hl 0 rfl) ?_
      refine nb_get hx hb hT hK hown hW fl_X7_51 kr_0 (v := .ref (ad 6 0)) rfl dX7_rival_46 ?_
      refine nb_get hx hb hT hK hown hW fl_X7_268 kr_6 (v := .int (u3 64 0 0)) rfl dX7_rival_49 ?_
      refine lv_topi (fun v6 ev6 => ?_)
      replace h := nm_at ev6 h
      refine lv_istore_n (lv' := [(2, .int v6), (0, .ref (ad 0 0)), (1, .int x1)]) hx hb dX7_rival_52 rfl hl (by decide) rfl (fun ls hl => ?_)
      refine lv_aload_n hx hb dX7_rival_53 rfl (lv_at hl 1 rfl) ?_
      refine nb_get hx hb hT hK hown hW fl_X7_51 kr_0 (v := .ref (ad 6 0)) rfl dX7_rival_54 ?_
      refine nb_get hx hb hT hK hown hW fl_X7_273 kr_6 (v := .ref (ad 16 0)) rfl dX7_rival_57 ?_
      refine lv_iload_n hx hb dX7_rival_60 rfl (lv_at hl 0 rfl) ?_
      refine lv_iload_n hx hb dX7_rival_61 rfl (lv_at hl 2 rfl) ?_
      obtain ⟨g7, h⟩ := gd_s h
      obtain ⟨u8, eu8, h⟩ := nm_s h
      refine nb_iast hx hb hK hW hS 0 kr_16 rfl (inb_in g7) ((gp_60).trans (congrArg (GC z ad N X) eu8.symm)) dX7_rival_62 (fun H locs hW hS => ?_)
      refine lv_aload_n hx hb dX7_rival_63 rfl (lv_at hl 1 rfl) ?_
      refine nb_get hx hb hT hK hown hW fl_X7_51 kr_0 (v := .ref (ad 6 0)) rfl dX7_rival_64 ?_
      refine lv_dup hx hb dX7_rival_67 rfl ?_
      refine nb_get hx hb hT hK hown hW fl_X7_268 kr_6 (v := .int (u8 64 0 0)) rfl dX7_rival_68 ?_
      refine lv_iconst (v := 1) hx hb dX7_rival_71 (by decide) ?_
      refine lv_iadd hx hb dX7_rival_72 ?_
      obtain ⟨u09, eu09, h⟩ := nm_s h
      refine nb_put hx hb hT hK hown hW hS fl_X7_268 tyX1 tyX1_ok nmX1 kr_6 (v := .int ((u8 64 0 0) + 1)) rfl rfl rfl (Nat.le_of_ble_eq_true rfl) ((gp_64).trans (congrArg (GC z ad N X) eu09.symm)) dX7_rival_73 (fun H locs hW hS => ?_)
      refine lv_iload_n hx hb dX7_rival_76 rfl (lv_at hl 0 rfl) ?_
      exact absurd h (by intro q; cases q)
    · replace h := ite_f h c5
      obtain ⟨rfl, rfl⟩ : _ = E9 ∧ u3 = u9 := ⟨Except.error.inj (congrArg Prod.fst (Option.some.inj h)), congrArg Prod.snd (Option.some.inj h)⟩
      exact nb_throwSW (rest := []) hx hb hfl hSW hown th_X7_83_87 (List.mem_of_getElem? (i := 36) rfl) hW hS hml hl.1 dX7_rival_34 dX7_rival_37 dX7_rival_38 dX7_rival_41 dX7_rival_44 (fun x9 h9 => (ht x9 h9).elim) ⟨Nat.le_of_ble_eq_true rfl, Nat.le_of_ble_eq_true rfl, Nat.le_of_ble_eq_true rfl, Nat.le_of_ble_eq_true rfl⟩ hlocks ⟨rfl, rfl⟩
  · replace h := ite_t h c4
    obtain ⟨rfl, rfl⟩ : _ = E9 ∧ u3 = u9 := ⟨Except.error.inj (congrArg Prod.fst (Option.some.inj h)), congrArg Prod.snd (Option.some.inj h)⟩
    exact nb_throwSW (rest := []) hx hb hfl hSW hown th_X7_100_104 (List.mem_of_getElem? (i := 35) rfl) hW hS hml hl.1 dX7_rival_11 dX7_rival_14 dX7_rival_15 dX7_rival_18 dX7_rival_21 (fun x9 h9 => (ht x9 h9).elim) ⟨Nat.le_of_ble_eq_true rfl, Nat.le_of_ble_eq_true rfl, Nat.le_of_ble_eq_true rfl, Nat.le_of_ble_eq_true rfl⟩ hlocks ⟨rfl, rfl⟩
-- Panyard.lean
set_option maxRecDepth 100000 in
set_option maxHeartbeats 4000000 in
theorem cx_X7_lean (l : Launch) (z : Zt) (ad : Ad) (N : Nt) (X : Gt) (u : St) (x1 : Int32) (x2 : Int32) (hfl : l.stackTraces = false) {E9 : String} {u9 : St} (h : f_X7_lean N u x1 x2 = some (.error E9, u9)) : MX l z yX7_lean cX7_lean 4 (some .int) { frames := 6, cells := 1, slots := 6, locals := 82 } [.ref (ad 0 0), .int x1, .int x2] ad (GC z ad N X u) (QiF z) (GC z ad N X u9) E9 := by
  refine vx_ofW (cc := cX7_lean) (maxL := 4) (ret := (some .int)) (by decide) rfl ?_
  intro p e s m args below meth c s₁ B hml ht hv
  obtain ⟨rfl, hSW, hW⟩ := hv
  have hx := B.exec; have hb := B.bytes; have hr := B.returns; have hlocks := B.notSynchronized
  have hown : s.vm.findClass RX7 = some m.cls := findClass_of_methodNamed B.named
  obtain ⟨hT, hK, hST, hB0⟩ := id hSW
  have hS : va_S (zA z) s.heap s.heap [] := va_S.rf
  have hl := lv_entry ([.ref (ad 0 0), .int x1, .int x2]) (n := 4) (Nat.le_of_ble_eq_true rfl)
  rw [lg_entry_eq]
  generalize (lg_sl ([.ref (ad 0 0), .int x1, .int x2]) ++ List.replicate (4 - (lg_sl ([.ref (ad 0 0), .int x1, .int x2])).length) Slot.unset).toArray = ls at hl ⊢
  have hl : lv_has ls 4 [(0, .ref (ad 0 0)), (1, .int x1), (2, .int x2)] := hl
  unfold f_X7_lean at h
  refine lv_iload_n hx hb dX7_lean_0 rfl (lv_at hl 1 rfl) ?_
  refine lv_iconst (v := 0) hx hb dX7_lean_1 (by decide) ?_
  refine lv_iconst (v := 2) hx hb dX7_lean_2 (by decide) ?_
  obtain ⟨r1, u3, h2, h⟩ := sb_s h
  refine nb_ci (nb_runS (As := [.int x1, .int 0, .int 2]) (rest := []) hx hb hml hown hSW hS hW (c_X7_isWithin l z ad N X u x1 0 2 h2) mf_X7_isWithin lk_X7_96 rfl ⟨rfl, rfl⟩ ⟨Nat.le_of_ble_eq_true rfl, Nat.le_of_ble_eq_true rfl⟩ hl.1 (Nat.le_of_ble_eq_true rfl) dX7_lean_3 ⟨Nat.le_of_ble_eq_true rfl, Nat.le_of_ble_eq_true rfl⟩) hS (fun H locs (hW : GW z ad (GC z ad N X u3) H) hS => ?_)
  refine lv_if_ne (tgt := 20) hx hb dX7_lean_6 (by decide) (fun c4 => ?_) (fun c4 => ?_)
  · replace h := ite_f h c4
    refine lv_iload_n hx hb dX7_lean_20 rfl (lv_at hl 2 rfl) ?_
    refine lv_bipush (v := (-9)) hx hb dX7_lean_21 (by decide) ?_
    refine lv_bipush (v := 9) hx hb dX7_lean_23 (by decide) ?_
    obtain ⟨r5, u7, h6, h⟩ := sb_s h
    refine nb_ci (nb_runS (As := [.int x2, .int (-9), .int 9]) (rest := []) hx hb hml hown hSW hS hW (c_X7_isWithin l z ad N X u3 x2 (-9) 9 h6) mf_X7_isWithin lk_X7_96 rfl ⟨rfl, rfl⟩ ⟨Nat.le_of_ble_eq_true rfl, Nat.le_of_ble_eq_true rfl⟩ hl.1 (Nat.le_of_ble_eq_true rfl) dX7_lean_25 ⟨Nat.le_of_ble_eq_true rfl, Nat.le_of_ble_eq_true rfl⟩) hS (fun H locs (hW : GW z ad (GC z ad N X u7) H) hS => ?_)
    refine lv_if_ne (tgt := 42) hx hb dX7_lean_28 (by decide) (fun c8 => ?_) (fun c8 => ?_)
    · replace h := ite_f h c8
      refine lv_aload_n hx hb dX7_lean_42 rfl (lv_at hl 0 rfl) ?_
      refine nb_get hx hb hT hK hown hW fl_X7_51 kr_0 (v := .ref (ad 6 0)) rfl dX7_lean_43 ?_
      refine nb_get hx hb hT hK hown hW fl_X7_283 kr_6 (v := .ref (ad 17 0)) rfl dX7_lean_46 ?_
      refine lv_iload_n hx hb dX7_lean_49 rfl (lv_at hl 1 rfl) ?_
      obtain ⟨g09, h⟩ := gd_s h
      refine nb_iald hx hb hK hW 0 kr_17 rfl (inb_in g09) dX7_lean_50 ?_
      refine lv_topi (fun v10 ev10 => ?_)
      replace h := nm_at ev10 h
      refine lv_istore_n (lv' := [(3, .int v10), (0, .ref (ad 0 0)), (1, .int x1), (2, .int x2)]) hx hb dX7_lean_51 rfl hl (by decide) rfl (fun ls hl => ?_)
      refine lv_aload_n hx hb dX7_lean_52 rfl (lv_at hl 1 rfl) ?_
      refine nb_get hx hb hT hK hown hW fl_X7_51 kr_0 (v := .ref (ad 6 0)) rfl dX7_lean_53 ?_
      refine nb_get hx hb hT hK hown hW fl_X7_283 kr_6 (v := .ref (ad 17 0)) rfl dX7_lean_56 ?_
      refine lv_iload_n hx hb dX7_lean_59 rfl (lv_at hl 2 rfl) ?_
      refine lv_iload_n hx hb dX7_lean_60 rfl (lv_at hl 3 rfl) ?_
      obtain ⟨u11, eu11, h⟩ := nm_s h
      refine nb_iast hx hb hK hW hS 0 kr_17 rfl (inb_in g09) ((gp_61).trans (congrArg (GC z ad N X) eu11.symm)) dX7_lean_61 (fun H locs hW hS => ?_)
      refine lv_iload_n hx hb dX7_lean_62 rfl (lv_at hl 0 rfl) ?_
      exact absurd h (by intro q; cases q)
    · replace h := ite_t h c8
      obtain ⟨rfl, rfl⟩ : _ = E9 ∧ u7 = u9 := ⟨Except.error.inj (congrArg Prod.fst (Option.some.inj h)), congrArg Prod.snd (Option.some.inj h)⟩
      exact nb_throwSW (rest := []) hx hb hfl hSW hown th_X7_100_104 (List.mem_of_getElem? (i := 38) rfl) hW hS hml hl.1 dX7_lean_31 dX7_lean_34 dX7_lean_35 dX7_lean_38 dX7_lean_41 (fun x9 h9 => (ht x9 h9).elim) ⟨Nat.le_of_ble_eq_true rfl, Nat.le_of_ble_eq_true rfl, Nat.le_of_ble_eq_true rfl, Nat.le_of_ble_eq_true rfl⟩ hlocks ⟨rfl, rfl⟩
  · replace h := ite_t h c4
    obtain ⟨rfl, rfl⟩ : _ = E9 ∧ u3 = u9 := ⟨Except.error.inj (congrArg Prod.fst (Option.some.inj h)), congrArg Prod.snd (Option.some.inj h)⟩
    exact nb_throwSW (rest := []) hx hb hfl hSW hown th_X7_276_280 (List.mem_of_getElem? (i := 37) rfl) hW hS hml hl.1 dX7_lean_9 dX7_lean_12 dX7_lean_13 dX7_lean_16 dX7_lean_19 (fun x9 h9 => (ht x9 h9).elim) ⟨Nat.le_of_ble_eq_true rfl, Nat.le_of_ble_eq_true rfl, Nat.le_of_ble_eq_true rfl, Nat.le_of_ble_eq_true rfl⟩ hlocks ⟨rfl, rfl⟩
-- Panyard.play
set_option maxRecDepth 100000 in
set_option maxHeartbeats 4000000 in
theorem cx_X7_play (l : Launch) (z : Zt) (ad : Ad) (N : Nt) (X : Gt) (u : St) (hfl : l.stackTraces = false) {E9 : String} {u9 : St} (h : f_X7_play N u = some (.error E9, u9)) : MX l z yX7_play cX7_play 3 (some .int) { frames := 6, cells := 1, slots := 6, locals := 114 } [.ref (ad 0 0)] ad (GC z ad N X u) (QiF z) (GC z ad N X u9) E9 := by
  refine vx_ofW (cc := cX7_play) (maxL := 3) (ret := (some .int)) (by decide) rfl ?_
  intro p e s m args below meth c s₁ B hml ht hv
  obtain ⟨rfl, hSW, hW⟩ := hv
  have hx := B.exec; have hb := B.bytes; have hr := B.returns; have hlocks := B.notSynchronized
  have hown : s.vm.findClass RX7 = some m.cls := findClass_of_methodNamed B.named
  obtain ⟨hT, hK, hST, hB0⟩ := id hSW
  have hS : va_S (zA z) s.heap s.heap [] := va_S.rf
  have hl := lv_entry ([.ref (ad 0 0)]) (n := 3) (Nat.le_of_ble_eq_true rfl)
  rw [lg_entry_eq]
  generalize (lg_sl ([.ref (ad 0 0)]) ++ List.replicate (3 - (lg_sl ([.ref (ad 0 0)])).length) Slot.unset).toArray = ls at hl ⊢
  have hl : lv_has ls 3 [(0, .ref (ad 0 0))] := hl
  unfold f_X7_play at h
  refine lv_aload_n hx hb dX7_play_0 rfl (lv_at hl 0 rfl) ?_
  refine nb_get hx hb hT hK hown hW fl_X7_51 kr_0 (v := .ref (ad 6 0)) rfl dX7_play_1 ?_
  obtain ⟨r1, u3, h2, h⟩ := sb_s h
  refine nb_ci (nb_runV (As := []) (rest := []) hx hb hml hown hSW hS hW (c_X1_isOver l z ad N X u h2) mf_X1_isOver lk_X7_286 kr_6 rfl rfl ⟨rfl, rfl⟩ ⟨Nat.le_of_ble_eq_true rfl, Nat.le_of_ble_eq_true rfl⟩ hl.1 (Nat.le_of_ble_eq_true rfl) dX7_play_4 ⟨Nat.le_of_ble_eq_true rfl, Nat.le_of_ble_eq_true rfl⟩) hS (fun H locs (hW : GW z ad (GC z ad N X u3) H) hS => ?_)
  refine lv_if_eq (tgt := 21) hx hb dX7_play_7 (by decide) (fun c4 => ?_) (fun c4 => ?_)
  · replace h := ite_t h c4
    refine lv_aload_n hx hb dX7_play_21 rfl (lv_at hl 0 rfl) ?_
    refine nb_get hx hb hT hK hown hW fl_X7_44 kr_0 (v := .ref (ad 5 0)) rfl dX7_play_22 ?_
    refine nb_get hx hb hT hK hown hW fl_X7_292 kr_5 (v := .int (u3 53 0 0)) rfl dX7_play_25 ?_
    refine lv_if_eq (tgt := 42) hx hb dX7_play_28 (by decide) (fun c5 => ?_) (fun c5 => ?_)
    · replace h := ite_t h c5
      refine lv_aload_n hx hb dX7_play_42 rfl (lv_at hl 0 rfl) ?_
      obtain ⟨r6, u8, h7, h⟩ := sb_s h
      refine nb_ci (nb_runV (As := []) (rest := []) hx hb hml hown hSW hS hW (c_X7_soundingCount l z ad N X u3 h7) mf_X7_soundingCount lk_X7_244 kr_0 rfl rfl ⟨rfl, rfl⟩ ⟨Nat.le_of_ble_eq_true rfl, Nat.le_of_ble_eq_true rfl⟩ hl.1 (Nat.le_of_ble_eq_true rfl) dX7_play_43 ⟨Nat.le_of_ble_eq_true rfl, Nat.le_of_ble_eq_true rfl⟩) hS (fun H locs (hW : GW z ad (GC z ad N X u8) H) hS => ?_)
      refine lv_if_eq (tgt := 59) hx hb dX7_play_46 (by decide) (fun c09 => ?_) (fun c09 => ?_)
      · replace h := ite_t h c09
        obtain ⟨rfl, rfl⟩ : _ = E9 ∧ u8 = u9 := ⟨Except.error.inj (congrArg Prod.fst (Option.some.inj h)), congrArg Prod.snd (Option.some.inj h)⟩
        exact nb_throwSW (rest := []) hx hb hfl hSW hown th_X7_83_87 (List.mem_of_getElem? (i := 41) rfl) hW hS hml hl.1 dX7_play_59 dX7_play_62 dX7_play_63 dX7_play_66 dX7_play_69 (fun x9 h9 => (ht x9 h9).elim) ⟨Nat.le_of_ble_eq_true rfl, Nat.le_of_ble_eq_true rfl, Nat.le_of_ble_eq_true rfl, Nat.le_of_ble_eq_true rfl⟩ hlocks ⟨rfl, rfl⟩
      · replace h := ite_f h c09
        refine lv_aload_n hx hb dX7_play_49 rfl (lv_at hl 0 rfl) ?_
        refine nb_get hx hb hT hK hown hW fl_X7_30 kr_0 (v := .ref (ad 8 0)) rfl dX7_play_50 ?_
        refine nb_get hx hb hT hK hown hW fl_X7_160 (kr_8 (by decide)) (v := .int (u8 43 0 0)) rfl dX7_play_53 ?_
        refine lv_if_ne (tgt := 70) hx hb dX7_play_56 (by decide) (fun c10 => ?_) (fun c10 => ?_)
        · replace h := ite_f h c10
          refine lv_aload_n hx hb dX7_play_70 rfl (lv_at hl 0 rfl) ?_
          refine nb_get hx hb hT hK hown hW fl_X7_51 kr_0 (v := .ref (ad 6 0)) rfl dX7_play_71 ?_
          refine nb_get hx hb hT hK hown hW fl_X7_299 kr_6 (v := .int (u8 65 0 0)) rfl dX7_play_74 ?_
          refine lv_topi (fun v11 ev11 => ?_)
          replace h := nm_at ev11 h
          refine lv_istore_n (lv' := [(1, .int v11), (0, .ref (ad 0 0))]) hx hb dX7_play_77 rfl hl (by decide) rfl (fun ls hl => ?_)
          refine lv_aload_n hx hb dX7_play_78 rfl (lv_at hl 1 rfl) ?_
          refine nb_get hx hb hT hK hown hW fl_X7_51 kr_0 (v := .ref (ad 6 0)) rfl dX7_play_79 ?_
          refine lv_aload_n hx hb dX7_play_82 rfl (lv_at hl 1 rfl) ?_
          refine nb_get hx hb hT hK hown hW fl_X7_51 kr_0 (v := .ref (ad 6 0)) rfl dX7_play_83 ?_
          refine lv_aload_n hx hb dX7_play_86 rfl (lv_at hl 1 rfl) ?_
          obtain ⟨r12, u14, h13, h⟩ := sb_s h
          refine nb_ci (nb_runV (As := []) (rest := [.ref (ad 6 0), .ref (ad 6 0)]) hx hb hml hown hSW hS hW (c_X7_totalNow l z ad N X u8 h13) mf_X7_totalNow lk_X7_302 kr_0 rfl rfl ⟨rfl, rfl⟩ ⟨Nat.le_of_ble_eq_true rfl, Nat.le_of_ble_eq_true rfl⟩ hl.1 (Nat.le_of_ble_eq_true rfl) dX7_play_87 ⟨Nat.le_of_ble_eq_true rfl, Nat.le_of_ble_eq_true rfl⟩) hS (fun H locs (hW : GW z ad (GC z ad N X u14) H) hS => ?_)
          obtain ⟨r15, u17, h16, h⟩ := sb_s h
          refine nb_ci (nb_runV (As := [.int r12]) (rest := [.ref (ad 6 0)]) hx hb hml hown hSW hS hW (c_X1_scoreOf l z ad N X u14 r12 h16) mf_X1_scoreOf lk_X7_305 kr_6 rfl rfl ⟨rfl, rfl⟩ ⟨Nat.le_of_ble_eq_true rfl, Nat.le_of_ble_eq_true rfl⟩ hl.1 (Nat.le_of_ble_eq_true rfl) dX7_play_90 ⟨Nat.le_of_ble_eq_true rfl, Nat.le_of_ble_eq_true rfl⟩) hS (fun H locs (hW : GW z ad (GC z ad N X u17) H) hS => ?_)
          obtain ⟨r18, u20, h19, h⟩ := sb_s h
          refine nb_ci (nb_runV (As := [.int r15]) (rest := []) hx hb hml hown hSW hS hW (c_X1_enter l z ad N X u17 r15 h19) mf_X1_enter lk_X7_308 kr_6 rfl rfl ⟨rfl, rfl⟩ ⟨Nat.le_of_ble_eq_true rfl, Nat.le_of_ble_eq_true rfl⟩ hl.1 (Nat.le_of_ble_eq_true rfl) dX7_play_93 ⟨Nat.le_of_ble_eq_true rfl, Nat.le_of_ble_eq_true rfl⟩) hS (fun H locs (hW : GW z ad (GC z ad N X u20) H) hS => ?_)
          refine lv_istore_n (lv' := [(2, .int r18), (1, .int v11), (0, .ref (ad 0 0))]) hx hb dX7_play_96 rfl hl (by decide) rfl (fun ls hl => ?_)
          refine lv_aload_n hx hb dX7_play_97 rfl (lv_at hl 2 rfl) ?_
          refine lv_dup hx hb dX7_play_98 rfl ?_
          refine nb_get hx hb hT hK hown hW fl_X7_55 kr_0 (v := .int (u20 3 0 0)) rfl dX7_play_99 ?_
          refine lv_bipush (v := 50) hx hb dX7_play_102 (by decide) ?_
          refine lv_iload_n hx hb dX7_play_104 rfl (lv_at hl 1 rfl) ?_
          refine lv_iload_n hx hb dX7_play_105 rfl (lv_at hl 0 rfl) ?_
          obtain ⟨r21, u23, h22, h⟩ := sb_s h
          refine nb_ci (nb_runS (As := [.int v11, .int r18]) (rest := [.int 50, .int (u20 3 0 0), .ref (ad 0 0)]) hx hb hml hown hSW hS hW (c_X1_prizeOf l z ad N X u20 v11 r18 h22) mf_X1_prizeOf lk_X7_311 rfl ⟨rfl, rfl⟩ ⟨Nat.le_of_ble_eq_true rfl, Nat.le_of_ble_eq_true rfl⟩ hl.1 (Nat.le_of_ble_eq_true rfl) dX7_play_106 ⟨Nat.le_of_ble_eq_true rfl, Nat.le_of_ble_eq_true rfl⟩) hS (fun H locs (hW : GW z ad (GC z ad N X u23) H) hS => ?_)
          refine lv_iadd hx hb dX7_play_109 ?_
          refine lv_iadd hx hb dX7_play_110 ?_
          obtain ⟨u24, eu24, h⟩ := nm_s h
          refine nb_put hx hb hT hK hown hW hS fl_X7_55 tyX7 tyX7_ok nmX7 kr_0 (v := .int ((u20 3 0 0) + (50 + r21))) rfl rfl rfl (Nat.le_of_ble_eq_true rfl) ((gp_3).trans (congrArg (GC z ad N X) eu24.symm)) dX7_play_111 (fun H locs hW hS => ?_)
          refine lv_aload_n hx hb dX7_play_114 rfl (lv_at hl 2 rfl) ?_
          refine nb_get hx hb hT hK hown hW fl_X7_44 kr_0 (v := .ref (ad 5 0)) rfl dX7_play_115 ?_
          refine lv_iconst (v := 1) hx hb dX7_play_118 (by decide) ?_
          obtain ⟨u25, eu25, h⟩ := nm_s h
          refine nb_put hx hb hT hK hown hW hS fl_X7_292 tyX6 tyX6_ok nmX6 kr_5 (v := .int 1) rfl rfl rfl (Nat.le_of_ble_eq_true rfl) ((gp_53).trans (congrArg (GC z ad N X) eu25.symm)) dX7_play_119 (fun H locs hW hS => ?_)
          refine lv_iload_n hx hb dX7_play_122 rfl (lv_at hl 0 rfl) ?_
          exact absurd h (by intro q; cases q)
        · replace h := ite_t h c10
          obtain ⟨rfl, rfl⟩ : _ = E9 ∧ u8 = u9 := ⟨Except.error.inj (congrArg Prod.fst (Option.some.inj h)), congrArg Prod.snd (Option.some.inj h)⟩
          exact nb_throwSW (rest := []) hx hb hfl hSW hown th_X7_83_87 (List.mem_of_getElem? (i := 41) rfl) hW hS hml hl.1 dX7_play_59 dX7_play_62 dX7_play_63 dX7_play_66 dX7_play_69 (fun x9 h9 => (ht x9 h9).elim) ⟨Nat.le_of_ble_eq_true rfl, Nat.le_of_ble_eq_true rfl, Nat.le_of_ble_eq_true rfl, Nat.le_of_ble_eq_true rfl⟩ hlocks ⟨rfl, rfl⟩
    · replace h := ite_f h c5
      obtain ⟨rfl, rfl⟩ : _ = E9 ∧ u3 = u9 := ⟨Except.error.inj (congrArg Prod.fst (Option.some.inj h)), congrArg Prod.snd (Option.some.inj h)⟩
      exact nb_throwSW (rest := []) hx hb hfl hSW hown th_X7_83_87 (List.mem_of_getElem? (i := 40) rfl) hW hS hml hl.1 dX7_play_31 dX7_play_34 dX7_play_35 dX7_play_38 dX7_play_41 (fun x9 h9 => (ht x9 h9).elim) ⟨Nat.le_of_ble_eq_true rfl, Nat.le_of_ble_eq_true rfl, Nat.le_of_ble_eq_true rfl, Nat.le_of_ble_eq_true rfl⟩ hlocks ⟨rfl, rfl⟩
  · replace h := ite_f h c4
    obtain ⟨rfl, rfl⟩ : _ = E9 ∧ u3 = u9 := ⟨Except.error.inj (congrArg Prod.fst (Option.some.inj h)), congrArg Prod.snd (Option.some.inj h)⟩
    exact nb_throwSW (rest := []) hx hb hfl hSW hown th_X7_83_87 (List.mem_of_getElem? (i := 39) rfl) hW hS hml hl.1 dX7_play_10 dX7_play_13 dX7_play_14 dX7_play_17 dX7_play_20 (fun x9 h9 => (ht x9 h9).elim) ⟨Nat.le_of_ble_eq_true rfl, Nat.le_of_ble_eq_true rfl, Nat.le_of_ble_eq_true rfl, Nat.le_of_ble_eq_true rfl⟩ hlocks ⟨rfl, rfl⟩
-- Panyard.ofPan
set_option maxRecDepth 100000 in
set_option maxHeartbeats 4000000 in
theorem cx_X7_ofPan (l : Launch) (z : Zt) (ad : Ad) (N : Nt) (X : Gt) (u : St) (x1 : Int32) (x2 : Int32) (hfl : l.stackTraces = false) {E9 : String} {u9 : St} (h : f_X7_ofPan N u x1 x2 = some (.error E9, u9)) : MX l z yX7_ofPan cX7_ofPan 4 (some .int) { frames := 7, cells := 1, slots := 6, locals := 103 } [.ref (ad 0 0), .int x1, .int x2] ad (GC z ad N X u) (QiF z) (GC z ad N X u9) E9 := by
  refine vx_ofW (cc := cX7_ofPan) (maxL := 4) (ret := (some .int)) (by decide) rfl ?_
  intro p e s m args below meth c s₁ B hml ht hv
  obtain ⟨rfl, hSW, hW⟩ := hv
  have hx := B.exec; have hb := B.bytes; have hr := B.returns; have hlocks := B.notSynchronized
  have hown : s.vm.findClass RX7 = some m.cls := findClass_of_methodNamed B.named
  obtain ⟨hT, hK, hST, hB0⟩ := id hSW
  have hS : va_S (zA z) s.heap s.heap [] := va_S.rf
  have hl := lv_entry ([.ref (ad 0 0), .int x1, .int x2]) (n := 4) (Nat.le_of_ble_eq_true rfl)
  rw [lg_entry_eq]
  generalize (lg_sl ([.ref (ad 0 0), .int x1, .int x2]) ++ List.replicate (4 - (lg_sl ([.ref (ad 0 0), .int x1, .int x2])).length) Slot.unset).toArray = ls at hl ⊢
  have hl : lv_has ls 4 [(0, .ref (ad 0 0)), (1, .int x1), (2, .int x2)] := hl
  unfold f_X7_ofPan at h
  refine lv_aload_n hx hb dX7_ofPan_0 rfl (lv_at hl 0 rfl) ?_
  refine lv_iload_n hx hb dX7_ofPan_1 rfl (lv_at hl 1 rfl) ?_
  rcases xb_e h with ⟨r1, u3, h2, h⟩ | h
  rotate_left
  · exact nx_cv (nx_runV (As := [.int x1]) (rest := []) hx hb hml hown hSW hS hW (cx_X7_requirePan l z ad N X u x1 hfl h) mf_X7_requirePan (List.mem_of_getElem? (i := 468) (by decide +kernel)) kr_0 rfl rfl ⟨rfl, rfl⟩ ⟨Nat.le_of_ble_eq_true rfl, Nat.le_of_ble_eq_true rfl⟩ hl.1 (Nat.le_of_ble_eq_true rfl) dX7_ofPan_2 ⟨Nat.le_of_ble_eq_true rfl, Nat.le_of_ble_eq_true rfl⟩) hS (fun ce9 q9 H locs hce hcv hcc hW hS => nx_out (fun x9 h9 => (ht x9 h9).elim) hlocks hce hcv hcc hW hS ⟨Nat.le_of_ble_eq_true rfl, Nat.le_of_ble_eq_true rfl⟩)
  refine nb_cv (nb_runV (As := [.int x1]) (rest := []) hx hb hml hown hSW hS hW (c_X7_requirePan l z ad N X u x1 h2) mf_X7_requirePan lk_X7_90 kr_0 rfl rfl ⟨rfl, rfl⟩ ⟨Nat.le_of_ble_eq_true rfl, Nat.le_of_ble_eq_true rfl⟩ hl.1 (Nat.le_of_ble_eq_true rfl) dX7_ofPan_2 ⟨Nat.le_of_ble_eq_true rfl, Nat.le_of_ble_eq_true rfl⟩) hS (fun H locs (hW : GW z ad (GC z ad N X u3) H) hS => ?_)
  refine lv_aload_n hx hb dX7_ofPan_5 rfl (lv_at hl 0 rfl) ?_
  refine nb_get hx hb hT hK hown hW fl_X7_11 kr_0 (v := .ref (ad 1 0)) rfl dX7_ofPan_6 ?_
  refine lv_iload_n hx hb dX7_ofPan_9 rfl (lv_at hl 1 rfl) ?_
  obtain ⟨g4, h⟩ := gd_s h
  obtain ⟨g5, h⟩ := gd_s h
  refine nb_aald hx hb hK hW 2 kr_1 rfl rfl (inb_in g4) (a := ad 12 (ix x1)) (qrow_at g5) dX7_ofPan_10 ?_
  refine lv_astore_n (lv' := [(3, .ref (ad 12 (ix x1))), (0, .ref (ad 0 0)), (1, .int x1), (2, .int x2)]) hx hb dX7_ofPan_11 rfl hl (by decide) rfl (fun ls hl => ?_)
  refine lv_iload_n hx hb dX7_ofPan_12 rfl (lv_at hl 3 rfl) ?_
  by_cases c6 : x2 = 0
  · replace h := ite_t h c6
    refine lv_tableIn (off := 35) (tgt := 48) hx hb dX7_ofPan_13 (by rw [c6]; decide) (by rw [c6]; decide) (by rw [c6]; rfl) (by decide) ?_
    refine lv_aload_n hx hb dX7_ofPan_48 rfl (lv_at hl 0 rfl) ?_
    refine nb_get hx hb hT hK hown hW fl_X7_187 (kr_12 (Or.inl g5)) (v := .int (u3 11 (ix x1) 0)) rfl dX7_ofPan_49 ?_
    exact absurd h (by intro q; cases q)
  replace h := ite_f h c6
  by_cases c7 : x2 = 1
  · replace h := ite_t h c7
    refine lv_tableIn (off := 40) (tgt := 53) hx hb dX7_ofPan_13 (by rw [c7]; decide) (by rw [c7]; decide) (by rw [c7]; rfl) (by decide) ?_
    refine lv_aload_n hx hb dX7_ofPan_53 rfl (lv_at hl 0 rfl) ?_
    refine nb_get hx hb hT hK hown hW fl_X7_117 (kr_12 (Or.inl g5)) (v := .int (u3 12 (ix x1) 0)) rfl dX7_ofPan_54 ?_
    exact absurd h (by intro q; cases q)
  replace h := ite_f h c7
  by_cases c8 : x2 = 2
  · replace h := ite_t h c8
    refine lv_tableIn (off := 45) (tgt := 58) hx hb dX7_ofPan_13 (by rw [c8]; decide) (by rw [c8]; decide) (by rw [c8]; rfl) (by decide) ?_
    refine lv_aload_n hx hb dX7_ofPan_58 rfl (lv_at hl 0 rfl) ?_
    obtain ⟨r09, u11, h10, h⟩ := sb_s h
    refine nb_ci (nb_runV (As := []) (rest := []) hx hb hml hown hSW hS hW (c_X3_isCracked l z ad N X u3 (ix x1) (Or.inl g5) h10) mf_X3_isCracked lk_X7_315 (kr_12 (Or.inl g5)) rfl rfl ⟨rfl, rfl⟩ ⟨Nat.le_of_ble_eq_true rfl, Nat.le_of_ble_eq_true rfl⟩ hl.1 (Nat.le_of_ble_eq_true rfl) dX7_ofPan_59 ⟨Nat.le_of_ble_eq_true rfl, Nat.le_of_ble_eq_true rfl⟩) hS (fun H locs (hW : GW z ad (GC z ad N X u11) H) hS => ?_)
    refine lv_if_eq (tgt := 69) hx hb dX7_ofPan_62 (by decide) (fun c12 => ?_) (fun c12 => ?_)
    · replace h := ite_t h c12
      refine lv_iconst (v := 0) hx hb dX7_ofPan_69 (by decide) ?_
      exact absurd h (by intro q; cases q)
    · replace h := ite_f h c12
      refine lv_iconst (v := 1) hx hb dX7_ofPan_65 (by decide) ?_
      refine lv_goto (tgt := 70) hx hb dX7_ofPan_66 (by decide) ?_
      exact absurd h (by intro q; cases q)
  replace h := ite_f h c8
  by_cases c13 : x2 = 3
  · replace h := ite_t h c13
    refine lv_tableIn (off := 58) (tgt := 71) hx hb dX7_ofPan_13 (by rw [c13]; decide) (by rw [c13]; decide) (by rw [c13]; rfl) (by decide) ?_
    refine lv_aload_n hx hb dX7_ofPan_71 rfl (lv_at hl 0 rfl) ?_
    obtain ⟨r14, u16, h15, h⟩ := sb_s h
    refine nb_ci (nb_runV (As := []) (rest := []) hx hb hml hown hSW hS hW (c_X3_grade l z ad N X u3 (ix x1) (Or.inl g5) h15) mf_X3_grade lk_X7_318 (kr_12 (Or.inl g5)) rfl rfl ⟨rfl, rfl⟩ ⟨Nat.le_of_ble_eq_true rfl, Nat.le_of_ble_eq_true rfl⟩ hl.1 (Nat.le_of_ble_eq_true rfl) dX7_ofPan_72 ⟨Nat.le_of_ble_eq_true rfl, Nat.le_of_ble_eq_true rfl⟩) hS (fun H locs (hW : GW z ad (GC z ad N X u16) H) hS => ?_)
    exact absurd h (by intro q; cases q)
  replace h := ite_f h c13
  by_cases c17 : x2 = 4
  · replace h := ite_t h c17
    refine lv_tableIn (off := 63) (tgt := 76) hx hb dX7_ofPan_13 (by rw [c17]; decide) (by rw [c17]; decide) (by rw [c17]; rfl) (by decide) ?_
    refine lv_aload_n hx hb dX7_ofPan_76 rfl (lv_at hl 0 rfl) ?_
    refine nb_get hx hb hT hK hown hW fl_X7_321 (kr_12 (Or.inl g5)) (v := .int (u3 13 (ix x1) 0)) rfl dX7_ofPan_77 ?_
    exact absurd h (by intro q; cases q)
  replace h := ite_f h c17
  refine lv_tableOut (tgt := 81) hx hb dX7_ofPan_13 (by have tc6 := lv_neT (a := 0) c6 rfl; have tc7 := lv_neT (a := 1) c7 rfl; have tc8 := lv_neT (a := 2) c8 rfl; have tc13 := lv_neT (a := 3) c13 rfl; have tc17 := lv_neT (a := 4) c17 rfl; omega) (by decide) ?_
  obtain ⟨rfl, rfl⟩ : _ = E9 ∧ u3 = u9 := ⟨Except.error.inj (congrArg Prod.fst (Option.some.inj h)), congrArg Prod.snd (Option.some.inj h)⟩
  exact nb_throwSW (rest := []) hx hb hfl hSW hown th_X7_100_104 (List.mem_of_getElem? (i := 2) rfl) hW hS hml hl.1 dX7_ofPan_81 dX7_ofPan_84 dX7_ofPan_85 dX7_ofPan_88 dX7_ofPan_91 (fun x9 h9 => (ht x9 h9).elim) ⟨Nat.le_of_ble_eq_true rfl, Nat.le_of_ble_eq_true rfl, Nat.le_of_ble_eq_true rfl, Nat.le_of_ble_eq_true rfl⟩ hlocks ⟨rfl, rfl⟩
-- Panyard.off
set_option maxRecDepth 100000 in
set_option maxHeartbeats 4000000 in
theorem cx_X7_off (l : Launch) (z : Zt) (ad : Ad) (N : Nt) (X : Gt) (u : St) (x1 : Int32) (x2 : Int32) (hfl : l.stackTraces = false) {E9 : String} {u9 : St} (h : f_X7_off N u x1 x2 = some (.error E9, u9)) : MX l z yX7_off cX7_off 3 (some .int) { frames := 7, cells := 1, slots := 6, locals := 103 } [.ref (ad 0 0), .int x1, .int x2] ad (GC z ad N X u) (QiF z) (GC z ad N X u9) E9 := by
  refine vx_ofW (cc := cX7_off) (maxL := 3) (ret := (some .int)) (by decide) rfl ?_
  intro p e s m args below meth c s₁ B hml ht hv
  obtain ⟨rfl, hSW, hW⟩ := hv
  have hx := B.exec; have hb := B.bytes; have hr := B.returns; have hlocks := B.notSynchronized
  have hown : s.vm.findClass RX7 = some m.cls := findClass_of_methodNamed B.named
  obtain ⟨hT, hK, hST, hB0⟩ := id hSW
  have hS : va_S (zA z) s.heap s.heap [] := va_S.rf
  have hl := lv_entry ([.ref (ad 0 0), .int x1, .int x2]) (n := 3) (Nat.le_of_ble_eq_true rfl)
  rw [lg_entry_eq]
  generalize (lg_sl ([.ref (ad 0 0), .int x1, .int x2]) ++ List.replicate (3 - (lg_sl ([.ref (ad 0 0), .int x1, .int x2])).length) Slot.unset).toArray = ls at hl ⊢
  have hl : lv_has ls 3 [(0, .ref (ad 0 0)), (1, .int x1), (2, .int x2)] := hl
  unfold f_X7_off at h
  refine lv_aload_n hx hb dX7_off_0 rfl (lv_at hl 0 rfl) ?_
  refine lv_iload_n hx hb dX7_off_1 rfl (lv_at hl 1 rfl) ?_
  rcases xb_e h with ⟨r1, u3, h2, h⟩ | h
  rotate_left
  · exact nx_cv (nx_runV (As := [.int x1]) (rest := []) hx hb hml hown hSW hS hW (cx_X7_requirePan l z ad N X u x1 hfl h) mf_X7_requirePan (List.mem_of_getElem? (i := 468) (by decide +kernel)) kr_0 rfl rfl ⟨rfl, rfl⟩ ⟨Nat.le_of_ble_eq_true rfl, Nat.le_of_ble_eq_true rfl⟩ hl.1 (Nat.le_of_ble_eq_true rfl) dX7_off_2 ⟨Nat.le_of_ble_eq_true rfl, Nat.le_of_ble_eq_true rfl⟩) hS (fun ce9 q9 H locs hce hcv hcc hW hS => nx_out (fun x9 h9 => (ht x9 h9).elim) hlocks hce hcv hcc hW hS ⟨Nat.le_of_ble_eq_true rfl, Nat.le_of_ble_eq_true rfl⟩)
  refine nb_cv (nb_runV (As := [.int x1]) (rest := []) hx hb hml hown hSW hS hW (c_X7_requirePan l z ad N X u x1 h2) mf_X7_requirePan lk_X7_90 kr_0 rfl rfl ⟨rfl, rfl⟩ ⟨Nat.le_of_ble_eq_true rfl, Nat.le_of_ble_eq_true rfl⟩ hl.1 (Nat.le_of_ble_eq_true rfl) dX7_off_2 ⟨Nat.le_of_ble_eq_true rfl, Nat.le_of_ble_eq_true rfl⟩) hS (fun H locs (hW : GW z ad (GC z ad N X u3) H) hS => ?_)
  refine lv_iload_n hx hb dX7_off_5 rfl (lv_at hl 2 rfl) ?_
  rcases xb_e h with ⟨r4, u6, h5, h⟩ | h
  rotate_left
  · exact nx_cv (nx_runS (As := [.int x2]) (rest := []) hx hb hml hown hSW hS hW (cx_X7_requireNote l z ad N X u3 x2 hfl h) mf_X7_requireNote (List.mem_of_getElem? (i := 497) (by decide +kernel)) rfl ⟨rfl, rfl⟩ ⟨Nat.le_of_ble_eq_true rfl, Nat.le_of_ble_eq_true rfl⟩ hl.1 (Nat.le_of_ble_eq_true rfl) dX7_off_6 ⟨Nat.le_of_ble_eq_true rfl, Nat.le_of_ble_eq_true rfl⟩) hS (fun ce9 q9 H locs hce hcv hcc hW hS => nx_out (fun x9 h9 => (ht x9 h9).elim) hlocks hce hcv hcc hW hS ⟨Nat.le_of_ble_eq_true rfl, Nat.le_of_ble_eq_true rfl⟩)
  refine nb_cv (nb_runS (As := [.int x2]) (rest := []) hx hb hml hown hSW hS hW (c_X7_requireNote l z ad N X u3 x2 h5) mf_X7_requireNote lk_X7_93 rfl ⟨rfl, rfl⟩ ⟨Nat.le_of_ble_eq_true rfl, Nat.le_of_ble_eq_true rfl⟩ hl.1 (Nat.le_of_ble_eq_true rfl) dX7_off_6 ⟨Nat.le_of_ble_eq_true rfl, Nat.le_of_ble_eq_true rfl⟩) hS (fun H locs (hW : GW z ad (GC z ad N X u6) H) hS => ?_)
  refine lv_aload_n hx hb dX7_off_9 rfl (lv_at hl 0 rfl) ?_
  refine nb_get hx hb hT hK hown hW fl_X7_11 kr_0 (v := .ref (ad 1 0)) rfl dX7_off_10 ?_
  refine lv_iload_n hx hb dX7_off_13 rfl (lv_at hl 1 rfl) ?_
  obtain ⟨g7, h⟩ := gd_s h
  obtain ⟨g8, h⟩ := gd_s h
  refine nb_aald hx hb hK hW 2 kr_1 rfl rfl (inb_in g7) (a := ad 12 (ix x1)) (qrow_at g8) dX7_off_14 ?_
  refine nb_get hx hb hT hK hown hW fl_X7_111 (kr_12 (Or.inl g8)) (v := .ref (ad 13 (ix x1))) rfl dX7_off_15 ?_
  refine lv_iload_n hx hb dX7_off_18 rfl (lv_at hl 2 rfl) ?_
  obtain ⟨g09, h⟩ := gd_s h
  refine nb_iald hx hb hK hW 0 (kr_13 (Or.inl g8)) rfl (inb_in g09) dX7_off_19 ?_
  exact absurd h (by intro q; cases q)
-- Panyard.ofPhrase
set_option maxRecDepth 100000 in
set_option maxHeartbeats 4000000 in
theorem cx_X7_ofPhrase (l : Launch) (z : Zt) (ad : Ad) (N : Nt) (X : Gt) (u : St) (x1 : Int32) (x2 : Int32) (hfl : l.stackTraces = false) {E9 : String} {u9 : St} (h : f_X7_ofPhrase N u x1 x2 = some (.error E9, u9)) : MX l z yX7_ofPhrase cX7_ofPhrase 4 (some .int) { frames := 7, cells := 1, slots := 6, locals := 103 } [.ref (ad 0 0), .int x1, .int x2] ad (GC z ad N X u) (QiF z) (GC z ad N X u9) E9 := by
  refine vx_ofW (cc := cX7_ofPhrase) (maxL := 4) (ret := (some .int)) (by decide) rfl ?_
  intro p e s m args below meth c s₁ B hml ht hv
  obtain ⟨rfl, hSW, hW⟩ := hv
  have hx := B.exec; have hb := B.bytes; have hr := B.returns; have hlocks := B.notSynchronized
  have hown : s.vm.findClass RX7 = some m.cls := findClass_of_methodNamed B.named
  obtain ⟨hT, hK, hST, hB0⟩ := id hSW
  have hS : va_S (zA z) s.heap s.heap [] := va_S.rf
  have hl := lv_entry ([.ref (ad 0 0), .int x1, .int x2]) (n := 4) (Nat.le_of_ble_eq_true rfl)
  rw [lg_entry_eq]
  generalize (lg_sl ([.ref (ad 0 0), .int x1, .int x2]) ++ List.replicate (4 - (lg_sl ([.ref (ad 0 0), .int x1, .int x2])).length) Slot.unset).toArray = ls at hl ⊢
  have hl : lv_has ls 4 [(0, .ref (ad 0 0)), (1, .int x1), (2, .int x2)] := hl
  unfold f_X7_ofPhrase at h
  refine lv_aload_n hx hb dX7_ofPhrase_0 rfl (lv_at hl 0 rfl) ?_
  refine lv_iload_n hx hb dX7_ofPhrase_1 rfl (lv_at hl 1 rfl) ?_
  rcases xb_e h with ⟨r1, u3, h2, h⟩ | h
  rotate_left
  · exact nx_cv (nx_runV (As := [.int x1]) (rest := []) hx hb hml hown hSW hS hW (cx_X7_requirePhrase l z ad N X u x1 hfl h) mf_X7_requirePhrase (List.mem_of_getElem? (i := 542) (by decide +kernel)) kr_0 rfl rfl ⟨rfl, rfl⟩ ⟨Nat.le_of_ble_eq_true rfl, Nat.le_of_ble_eq_true rfl⟩ hl.1 (Nat.le_of_ble_eq_true rfl) dX7_ofPhrase_2 ⟨Nat.le_of_ble_eq_true rfl, Nat.le_of_ble_eq_true rfl⟩) hS (fun ce9 q9 H locs hce hcv hcc hW hS => nx_out (fun x9 h9 => (ht x9 h9).elim) hlocks hce hcv hcc hW hS ⟨Nat.le_of_ble_eq_true rfl, Nat.le_of_ble_eq_true rfl⟩)
  refine nb_cv (nb_runV (As := [.int x1]) (rest := []) hx hb hml hown hSW hS hW (c_X7_requirePhrase l z ad N X u x1 h2) mf_X7_requirePhrase lk_X7_141 kr_0 rfl rfl ⟨rfl, rfl⟩ ⟨Nat.le_of_ble_eq_true rfl, Nat.le_of_ble_eq_true rfl⟩ hl.1 (Nat.le_of_ble_eq_true rfl) dX7_ofPhrase_2 ⟨Nat.le_of_ble_eq_true rfl, Nat.le_of_ble_eq_true rfl⟩) hS (fun H locs (hW : GW z ad (GC z ad N X u3) H) hS => ?_)
  refine lv_aload_n hx hb dX7_ofPhrase_5 rfl (lv_at hl 0 rfl) ?_
  refine nb_get hx hb hT hK hown hW fl_X7_17 kr_0 (v := .ref (ad 2 0)) rfl dX7_ofPhrase_6 ?_
  refine lv_iload_n hx hb dX7_ofPhrase_9 rfl (lv_at hl 1 rfl) ?_
  obtain ⟨g4, h⟩ := gd_s h
  obtain ⟨g5, h⟩ := gd_s h
  refine nb_aald hx hb hK hW 3 kr_2 rfl rfl (inb_in g4) (a := ad 14 (ix x1)) (qrow_at g5) dX7_ofPhrase_10 ?_
  refine lv_astore_n (lv' := [(3, .ref (ad 14 (ix x1))), (0, .ref (ad 0 0)), (1, .int x1), (2, .int x2)]) hx hb dX7_ofPhrase_11 rfl hl (by decide) rfl (fun ls hl => ?_)
  refine lv_iload_n hx hb dX7_ofPhrase_12 rfl (lv_at hl 3 rfl) ?_
  by_cases c6 : x2 = 0
  · replace h := ite_t h c6
    refine lv_tableIn (off := 35) (tgt := 48) hx hb dX7_ofPhrase_13 (by rw [c6]; decide) (by rw [c6]; decide) (by rw [c6]; rfl) (by decide) ?_
    refine lv_aload_n hx hb dX7_ofPhrase_48 rfl (lv_at hl 0 rfl) ?_
    refine nb_get hx hb hT hK hown hW fl_X7_208 (kr_14 g5) (v := .int (u3 20 (ix x1) 0)) rfl dX7_ofPhrase_49 ?_
    exact absurd h (by intro q; cases q)
  replace h := ite_f h c6
  by_cases c7 : x2 = 1
  · replace h := ite_t h c7
    refine lv_tableIn (off := 40) (tgt := 53) hx hb dX7_ofPhrase_13 (by rw [c7]; decide) (by rw [c7]; decide) (by rw [c7]; rfl) (by decide) ?_
    refine lv_aload_n hx hb dX7_ofPhrase_53 rfl (lv_at hl 0 rfl) ?_
    refine nb_get hx hb hT hK hown hW fl_X7_326 (kr_14 g5) (v := .int (u3 21 (ix x1) 0)) rfl dX7_ofPhrase_54 ?_
    exact absurd h (by intro q; cases q)
  replace h := ite_f h c7
  by_cases c8 : x2 = 2
  · replace h := ite_t h c8
    refine lv_tableIn (off := 45) (tgt := 58) hx hb dX7_ofPhrase_13 (by rw [c8]; decide) (by rw [c8]; decide) (by rw [c8]; rfl) (by decide) ?_
    refine lv_aload_n hx hb dX7_ofPhrase_58 rfl (lv_at hl 0 rfl) ?_
    refine nb_get hx hb hT hK hown hW fl_X7_329 (kr_14 g5) (v := .int (u3 22 (ix x1) 0)) rfl dX7_ofPhrase_59 ?_
    exact absurd h (by intro q; cases q)
  replace h := ite_f h c8
  by_cases c09 : x2 = 3
  · replace h := ite_t h c09
    refine lv_tableIn (off := 50) (tgt := 63) hx hb dX7_ofPhrase_13 (by rw [c09]; decide) (by rw [c09]; decide) (by rw [c09]; rfl) (by decide) ?_
    refine lv_aload_n hx hb dX7_ofPhrase_63 rfl (lv_at hl 0 rfl) ?_
    refine nb_get hx hb hT hK hown hW fl_X7_157 (kr_14 g5) (v := .int (u3 23 (ix x1) 0)) rfl dX7_ofPhrase_64 ?_
    exact absurd h (by intro q; cases q)
  replace h := ite_f h c09
  by_cases c10 : x2 = 4
  · replace h := ite_t h c10
    refine lv_tableIn (off := 55) (tgt := 68) hx hb dX7_ofPhrase_13 (by rw [c10]; decide) (by rw [c10]; decide) (by rw [c10]; rfl) (by decide) ?_
    refine lv_aload_n hx hb dX7_ofPhrase_68 rfl (lv_at hl 1 rfl) ?_
    refine nb_get hx hb hT hK hown hW fl_X7_30 kr_0 (v := .ref (ad 8 0)) rfl dX7_ofPhrase_69 ?_
    refine lv_iload_n hx hb dX7_ofPhrase_72 rfl (lv_at hl 2 rfl) ?_
    obtain ⟨r11, u13, h12, h⟩ := sb_s h
    refine nb_ci (nb_runV (As := [.int x1]) (rest := []) hx hb hml hown hSW hS hW (c_X0_placesOf l z ad N X u3 0 x1 (by decide) h12) mf_X0_placesOf lk_X7_332 (kr_8 (by decide)) rfl rfl ⟨rfl, rfl⟩ ⟨Nat.le_of_ble_eq_true rfl, Nat.le_of_ble_eq_true rfl⟩ hl.1 (Nat.le_of_ble_eq_true rfl) dX7_ofPhrase_73 ⟨Nat.le_of_ble_eq_true rfl, Nat.le_of_ble_eq_true rfl⟩) hS (fun H locs (hW : GW z ad (GC z ad N X u13) H) hS => ?_)
    exact absurd h (by intro q; cases q)
  replace h := ite_f h c10
  refine lv_tableOut (tgt := 77) hx hb dX7_ofPhrase_13 (by have tc6 := lv_neT (a := 0) c6 rfl; have tc7 := lv_neT (a := 1) c7 rfl; have tc8 := lv_neT (a := 2) c8 rfl; have tc09 := lv_neT (a := 3) c09 rfl; have tc10 := lv_neT (a := 4) c10 rfl; omega) (by decide) ?_
  obtain ⟨rfl, rfl⟩ : _ = E9 ∧ u3 = u9 := ⟨Except.error.inj (congrArg Prod.fst (Option.some.inj h)), congrArg Prod.snd (Option.some.inj h)⟩
  exact nb_throwSW (rest := []) hx hb hfl hSW hown th_X7_100_104 (List.mem_of_getElem? (i := 2) rfl) hW hS hml hl.1 dX7_ofPhrase_77 dX7_ofPhrase_80 dX7_ofPhrase_81 dX7_ofPhrase_84 dX7_ofPhrase_87 (fun x9 h9 => (ht x9 h9).elim) ⟨Nat.le_of_ble_eq_true rfl, Nat.le_of_ble_eq_true rfl, Nat.le_of_ble_eq_true rfl, Nat.le_of_ble_eq_true rfl⟩ hlocks ⟨rfl, rfl⟩
-- Panyard.ofPlayer
set_option maxRecDepth 100000 in
set_option maxHeartbeats 4000000 in
theorem cx_X7_ofPlayer (l : Launch) (z : Zt) (ad : Ad) (N : Nt) (X : Gt) (u : St) (x1 : Int32) (x2 : Int32) (hfl : l.stackTraces = false) {E9 : String} {u9 : St} (h : f_X7_ofPlayer N u x1 x2 = some (.error E9, u9)) : MX l z yX7_ofPlayer cX7_ofPlayer 4 (some .int) { frames := 7, cells := 1, slots := 6, locals := 103 } [.ref (ad 0 0), .int x1, .int x2] ad (GC z ad N X u) (QiF z) (GC z ad N X u9) E9 := by
  refine vx_ofW (cc := cX7_ofPlayer) (maxL := 4) (ret := (some .int)) (by decide) rfl ?_
  intro p e s m args below meth c s₁ B hml ht hv
  obtain ⟨rfl, hSW, hW⟩ := hv
  have hx := B.exec; have hb := B.bytes; have hr := B.returns; have hlocks := B.notSynchronized
  have hown : s.vm.findClass RX7 = some m.cls := findClass_of_methodNamed B.named
  obtain ⟨hT, hK, hST, hB0⟩ := id hSW
  have hS : va_S (zA z) s.heap s.heap [] := va_S.rf
  have hl := lv_entry ([.ref (ad 0 0), .int x1, .int x2]) (n := 4) (Nat.le_of_ble_eq_true rfl)
  rw [lg_entry_eq]
  generalize (lg_sl ([.ref (ad 0 0), .int x1, .int x2]) ++ List.replicate (4 - (lg_sl ([.ref (ad 0 0), .int x1, .int x2])).length) Slot.unset).toArray = ls at hl ⊢
  have hl : lv_has ls 4 [(0, .ref (ad 0 0)), (1, .int x1), (2, .int x2)] := hl
  unfold f_X7_ofPlayer at h
  refine lv_aload_n hx hb dX7_ofPlayer_0 rfl (lv_at hl 0 rfl) ?_
  refine lv_iload_n hx hb dX7_ofPlayer_1 rfl (lv_at hl 1 rfl) ?_
  rcases xb_e h with ⟨r1, u3, h2, h⟩ | h
  rotate_left
  · exact nx_cv (nx_runV (As := [.int x1]) (rest := []) hx hb hml hown hSW hS hW (cx_X7_requirePlayer l z ad N X u x1 hfl h) mf_X7_requirePlayer (List.mem_of_getElem? (i := 555) (by decide +kernel)) kr_0 rfl rfl ⟨rfl, rfl⟩ ⟨Nat.le_of_ble_eq_true rfl, Nat.le_of_ble_eq_true rfl⟩ hl.1 (Nat.le_of_ble_eq_true rfl) dX7_ofPlayer_2 ⟨Nat.le_of_ble_eq_true rfl, Nat.le_of_ble_eq_true rfl⟩) hS (fun ce9 q9 H locs hce hcv hcc hW hS => nx_out (fun x9 h9 => (ht x9 h9).elim) hlocks hce hcv hcc hW hS ⟨Nat.le_of_ble_eq_true rfl, Nat.le_of_ble_eq_true rfl⟩)
  refine nb_cv (nb_runV (As := [.int x1]) (rest := []) hx hb hml hown hSW hS hW (c_X7_requirePlayer l z ad N X u x1 h2) mf_X7_requirePlayer lk_X7_184 kr_0 rfl rfl ⟨rfl, rfl⟩ ⟨Nat.le_of_ble_eq_true rfl, Nat.le_of_ble_eq_true rfl⟩ hl.1 (Nat.le_of_ble_eq_true rfl) dX7_ofPlayer_2 ⟨Nat.le_of_ble_eq_true rfl, Nat.le_of_ble_eq_true rfl⟩) hS (fun H locs (hW : GW z ad (GC z ad N X u3) H) hS => ?_)
  refine lv_aload_n hx hb dX7_ofPlayer_5 rfl (lv_at hl 0 rfl) ?_
  refine nb_get hx hb hT hK hown hW fl_X7_23 kr_0 (v := .ref (ad 3 0)) rfl dX7_ofPlayer_6 ?_
  refine lv_iload_n hx hb dX7_ofPlayer_9 rfl (lv_at hl 1 rfl) ?_
  obtain ⟨g4, h⟩ := gd_s h
  obtain ⟨g5, h⟩ := gd_s h
  refine nb_aald hx hb hK hW 4 kr_3 rfl rfl (inb_in g4) (a := ad 15 (ix x1)) (qrow_at g5) dX7_ofPlayer_10 ?_
  refine lv_astore_n (lv' := [(3, .ref (ad 15 (ix x1))), (0, .ref (ad 0 0)), (1, .int x1), (2, .int x2)]) hx hb dX7_ofPlayer_11 rfl hl (by decide) rfl (fun ls hl => ?_)
  refine lv_iload_n hx hb dX7_ofPlayer_12 rfl (lv_at hl 3 rfl) ?_
  by_cases c6 : x2 = 0
  · replace h := ite_t h c6
    refine lv_tableIn (off := 43) (tgt := 56) hx hb dX7_ofPlayer_13 (by rw [c6]; decide) (by rw [c6]; decide) (by rw [c6]; rfl) (by decide) ?_
    refine lv_aload_n hx hb dX7_ofPlayer_56 rfl (lv_at hl 0 rfl) ?_
    refine nb_get hx hb hT hK hown hW fl_X7_190 (kr_15 g5) (v := .int (u3 30 (ix x1) 0)) rfl dX7_ofPlayer_57 ?_
    exact absurd h (by intro q; cases q)
  replace h := ite_f h c6
  by_cases c7 : x2 = 1
  · replace h := ite_t h c7
    refine lv_tableIn (off := 48) (tgt := 61) hx hb dX7_ofPlayer_13 (by rw [c7]; decide) (by rw [c7]; decide) (by rw [c7]; rfl) (by decide) ?_
    refine lv_aload_n hx hb dX7_ofPlayer_61 rfl (lv_at hl 0 rfl) ?_
    refine nb_get hx hb hT hK hown hW fl_X7_335 (kr_15 g5) (v := .int (u3 31 (ix x1) 0)) rfl dX7_ofPlayer_62 ?_
    exact absurd h (by intro q; cases q)
  replace h := ite_f h c7
  by_cases c8 : x2 = 2
  · replace h := ite_t h c8
    refine lv_tableIn (off := 53) (tgt := 66) hx hb dX7_ofPlayer_13 (by rw [c8]; decide) (by rw [c8]; decide) (by rw [c8]; rfl) (by decide) ?_
    refine lv_aload_n hx hb dX7_ofPlayer_66 rfl (lv_at hl 0 rfl) ?_
    refine nb_get hx hb hT hK hown hW fl_X7_338 (kr_15 g5) (v := .int (u3 32 (ix x1) 0)) rfl dX7_ofPlayer_67 ?_
    exact absurd h (by intro q; cases q)
  replace h := ite_f h c8
  by_cases c09 : x2 = 3
  · replace h := ite_t h c09
    refine lv_tableIn (off := 58) (tgt := 71) hx hb dX7_ofPlayer_13 (by rw [c09]; decide) (by rw [c09]; decide) (by rw [c09]; rfl) (by decide) ?_
    refine lv_aload_n hx hb dX7_ofPlayer_71 rfl (lv_at hl 0 rfl) ?_
    obtain ⟨r10, u12, h11, h⟩ := sb_s h
    refine nb_ci (nb_runV (As := []) (rest := []) hx hb hml hown hSW hS hW (c_X5_panNumber l z ad N X u3 (ix x1) g5 h11) mf_X5_panNumber lk_X7_195 (kr_15 g5) rfl rfl ⟨rfl, rfl⟩ ⟨Nat.le_of_ble_eq_true rfl, Nat.le_of_ble_eq_true rfl⟩ hl.1 (Nat.le_of_ble_eq_true rfl) dX7_ofPlayer_72 ⟨Nat.le_of_ble_eq_true rfl, Nat.le_of_ble_eq_true rfl⟩) hS (fun H locs (hW : GW z ad (GC z ad N X u12) H) hS => ?_)
    exact absurd h (by intro q; cases q)
  replace h := ite_f h c09
  by_cases c13 : x2 = 4
  · replace h := ite_t h c13
    refine lv_tableIn (off := 63) (tgt := 76) hx hb dX7_ofPlayer_13 (by rw [c13]; decide) (by rw [c13]; decide) (by rw [c13]; rfl) (by decide) ?_
    refine lv_aload_n hx hb dX7_ofPlayer_76 rfl (lv_at hl 0 rfl) ?_
    refine nb_get hx hb hT hK hown hW fl_X7_202 (kr_15 g5) (v := .int (u3 34 (ix x1) 0)) rfl dX7_ofPlayer_77 ?_
    refine lv_if_eq (tgt := 87) hx hb dX7_ofPlayer_80 (by decide) (fun c14 => ?_) (fun c14 => ?_)
    · replace h := ite_t h c14
      refine lv_iconst (v := 0) hx hb dX7_ofPlayer_87 (by decide) ?_
      exact absurd h (by intro q; cases q)
    · replace h := ite_f h c14
      refine lv_iconst (v := 1) hx hb dX7_ofPlayer_83 (by decide) ?_
      refine lv_goto (tgt := 88) hx hb dX7_ofPlayer_84 (by decide) ?_
      exact absurd h (by intro q; cases q)
  replace h := ite_f h c13
  by_cases c15 : x2 = 5
  · replace h := ite_t h c15
    refine lv_tableIn (off := 76) (tgt := 89) hx hb dX7_ofPlayer_13 (by rw [c15]; decide) (by rw [c15]; decide) (by rw [c15]; rfl) (by decide) ?_
    refine lv_aload_n hx hb dX7_ofPlayer_89 rfl (lv_at hl 0 rfl) ?_
    obtain ⟨r16, u18, h17, h⟩ := sb_s h
    refine nb_cq (nb_runV (As := []) (rest := []) hx hb hml hown hSW hS hW (c_X5_soundingPan l z ad N X u3 (ix x1) g5 h17) mf_X5_soundingPan lk_X7_236 (kr_15 g5) rfl rfl ⟨rfl, rfl⟩ ⟨Nat.le_of_ble_eq_true rfl, Nat.le_of_ble_eq_true rfl⟩ hl.1 (Nat.le_of_ble_eq_true rfl) dX7_ofPlayer_90 ⟨Nat.le_of_ble_eq_true rfl, Nat.le_of_ble_eq_true rfl⟩) hS (fun H locs (hW : GW z ad (GC z ad N X u18) H) hS => ?_)
    refine nb_oc (fun o20 => ?_) (fun q19 o20 => ?_)
    · replace h := oc_n o20 h
      refine lv_ifnullN (tgt := 100) hx hb dX7_ofPlayer_93 (by decide) ?_
      refine lv_iconst (v := 0) hx hb dX7_ofPlayer_100 (by decide) ?_
      exact absurd h (by intro q; cases q)
    · replace h := oc_q o20 h
      obtain ⟨g21, h⟩ := gd_s h
      refine lv_ifnull hx hb dX7_ofPlayer_93 ?_
      refine lv_iconst (v := 1) hx hb dX7_ofPlayer_96 (by decide) ?_
      refine lv_goto (tgt := 101) hx hb dX7_ofPlayer_97 (by decide) ?_
      exact absurd h (by intro q; cases q)
  replace h := ite_f h c15
  by_cases c22 : x2 = 6
  · replace h := ite_t h c22
    refine lv_tableIn (off := 89) (tgt := 102) hx hb dX7_ofPlayer_13 (by rw [c22]; decide) (by rw [c22]; decide) (by rw [c22]; rfl) (by decide) ?_
    refine lv_aload_n hx hb dX7_ofPlayer_102 rfl (lv_at hl 0 rfl) ?_
    refine nb_get hx hb hT hK hown hW fl_X7_218 (kr_15 g5) (v := .int (u3 35 (ix x1) 0)) rfl dX7_ofPlayer_103 ?_
    exact absurd h (by intro q; cases q)
  replace h := ite_f h c22
  refine lv_tableOut (tgt := 107) hx hb dX7_ofPlayer_13 (by have tc6 := lv_neT (a := 0) c6 rfl; have tc7 := lv_neT (a := 1) c7 rfl; have tc8 := lv_neT (a := 2) c8 rfl; have tc09 := lv_neT (a := 3) c09 rfl; have tc13 := lv_neT (a := 4) c13 rfl; have tc15 := lv_neT (a := 5) c15 rfl; have tc22 := lv_neT (a := 6) c22 rfl; omega) (by decide) ?_
  obtain ⟨rfl, rfl⟩ : _ = E9 ∧ u3 = u9 := ⟨Except.error.inj (congrArg Prod.fst (Option.some.inj h)), congrArg Prod.snd (Option.some.inj h)⟩
  exact nb_throwSW (rest := []) hx hb hfl hSW hown th_X7_100_104 (List.mem_of_getElem? (i := 6) rfl) hW hS hml hl.1 dX7_ofPlayer_107 dX7_ofPlayer_110 dX7_ofPlayer_111 dX7_ofPlayer_114 dX7_ofPlayer_117 (fun x9 h9 => (ht x9 h9).elim) ⟨Nat.le_of_ble_eq_true rfl, Nat.le_of_ble_eq_true rfl, Nat.le_of_ble_eq_true rfl, Nat.le_of_ble_eq_true rfl⟩ hlocks ⟨rfl, rfl⟩
-- Panyard.memory
set_option maxRecDepth 100000 in
set_option maxHeartbeats 4000000 in
theorem cx_X7_memory (l : Launch) (z : Zt) (ad : Ad) (N : Nt) (X : Gt) (u : St) (x1 : Int32) (x2 : Int32) (hfl : l.stackTraces = false) {E9 : String} {u9 : St} (h : f_X7_memory N u x1 x2 = some (.error E9, u9)) : MX l z yX7_memory cX7_memory 3 (some .int) { frames := 7, cells := 1, slots := 6, locals := 103 } [.ref (ad 0 0), .int x1, .int x2] ad (GC z ad N X u) (QiF z) (GC z ad N X u9) E9 := by
  refine vx_ofW (cc := cX7_memory) (maxL := 3) (ret := (some .int)) (by decide) rfl ?_
  intro p e s m args below meth c s₁ B hml ht hv
  obtain ⟨rfl, hSW, hW⟩ := hv
  have hx := B.exec; have hb := B.bytes; have hr := B.returns; have hlocks := B.notSynchronized
  have hown : s.vm.findClass RX7 = some m.cls := findClass_of_methodNamed B.named
  obtain ⟨hT, hK, hST, hB0⟩ := id hSW
  have hS : va_S (zA z) s.heap s.heap [] := va_S.rf
  have hl := lv_entry ([.ref (ad 0 0), .int x1, .int x2]) (n := 3) (Nat.le_of_ble_eq_true rfl)
  rw [lg_entry_eq]
  generalize (lg_sl ([.ref (ad 0 0), .int x1, .int x2]) ++ List.replicate (3 - (lg_sl ([.ref (ad 0 0), .int x1, .int x2])).length) Slot.unset).toArray = ls at hl ⊢
  have hl : lv_has ls 3 [(0, .ref (ad 0 0)), (1, .int x1), (2, .int x2)] := hl
  unfold f_X7_memory at h
  refine lv_aload_n hx hb dX7_memory_0 rfl (lv_at hl 0 rfl) ?_
  refine lv_iload_n hx hb dX7_memory_1 rfl (lv_at hl 1 rfl) ?_
  rcases xb_e h with ⟨r1, u3, h2, h⟩ | h
  rotate_left
  · exact nx_cv (nx_runV (As := [.int x1]) (rest := []) hx hb hml hown hSW hS hW (cx_X7_requirePlayer l z ad N X u x1 hfl h) mf_X7_requirePlayer (List.mem_of_getElem? (i := 555) (by decide +kernel)) kr_0 rfl rfl ⟨rfl, rfl⟩ ⟨Nat.le_of_ble_eq_true rfl, Nat.le_of_ble_eq_true rfl⟩ hl.1 (Nat.le_of_ble_eq_true rfl) dX7_memory_2 ⟨Nat.le_of_ble_eq_true rfl, Nat.le_of_ble_eq_true rfl⟩) hS (fun ce9 q9 H locs hce hcv hcc hW hS => nx_out (fun x9 h9 => (ht x9 h9).elim) hlocks hce hcv hcc hW hS ⟨Nat.le_of_ble_eq_true rfl, Nat.le_of_ble_eq_true rfl⟩)
  refine nb_cv (nb_runV (As := [.int x1]) (rest := []) hx hb hml hown hSW hS hW (c_X7_requirePlayer l z ad N X u x1 h2) mf_X7_requirePlayer lk_X7_184 kr_0 rfl rfl ⟨rfl, rfl⟩ ⟨Nat.le_of_ble_eq_true rfl, Nat.le_of_ble_eq_true rfl⟩ hl.1 (Nat.le_of_ble_eq_true rfl) dX7_memory_2 ⟨Nat.le_of_ble_eq_true rfl, Nat.le_of_ble_eq_true rfl⟩) hS (fun H locs (hW : GW z ad (GC z ad N X u3) H) hS => ?_)
  refine lv_aload_n hx hb dX7_memory_5 rfl (lv_at hl 0 rfl) ?_
  refine lv_iload_n hx hb dX7_memory_6 rfl (lv_at hl 2 rfl) ?_
  rcases xb_e h with ⟨r4, u6, h5, h⟩ | h
  rotate_left
  · exact nx_cv (nx_runV (As := [.int x2]) (rest := []) hx hb hml hown hSW hS hW (cx_X7_requirePhrase l z ad N X u3 x2 hfl h) mf_X7_requirePhrase (List.mem_of_getElem? (i := 542) (by decide +kernel)) kr_0 rfl rfl ⟨rfl, rfl⟩ ⟨Nat.le_of_ble_eq_true rfl, Nat.le_of_ble_eq_true rfl⟩ hl.1 (Nat.le_of_ble_eq_true rfl) dX7_memory_7 ⟨Nat.le_of_ble_eq_true rfl, Nat.le_of_ble_eq_true rfl⟩) hS (fun ce9 q9 H locs hce hcv hcc hW hS => nx_out (fun x9 h9 => (ht x9 h9).elim) hlocks hce hcv hcc hW hS ⟨Nat.le_of_ble_eq_true rfl, Nat.le_of_ble_eq_true rfl⟩)
  refine nb_cv (nb_runV (As := [.int x2]) (rest := []) hx hb hml hown hSW hS hW (c_X7_requirePhrase l z ad N X u3 x2 h5) mf_X7_requirePhrase lk_X7_141 kr_0 rfl rfl ⟨rfl, rfl⟩ ⟨Nat.le_of_ble_eq_true rfl, Nat.le_of_ble_eq_true rfl⟩ hl.1 (Nat.le_of_ble_eq_true rfl) dX7_memory_7 ⟨Nat.le_of_ble_eq_true rfl, Nat.le_of_ble_eq_true rfl⟩) hS (fun H locs (hW : GW z ad (GC z ad N X u6) H) hS => ?_)
  refine lv_aload_n hx hb dX7_memory_10 rfl (lv_at hl 0 rfl) ?_
  refine nb_get hx hb hT hK hown hW fl_X7_37 kr_0 (v := .ref (ad 10 0)) rfl dX7_memory_11 ?_
  refine nb_get hx hb hT hK hown hW fl_X7_225 (kr_10 (by decide)) (v := .ref (ad 11 0)) rfl dX7_memory_14 ?_
  refine lv_iload_n hx hb dX7_memory_17 rfl (lv_at hl 1 rfl) ?_
  obtain ⟨g7, h⟩ := gd_s h
  refine nb_aald hx hb hK hW 1 (kr_11 (by decide)) rfl rfl (inb_in g7) (a := ad 20 (8 * 0 + (ix x1))) (qrow_at (inb_lt g7)) dX7_memory_18 ?_
  refine lv_iload_n hx hb dX7_memory_19 rfl (lv_at hl 2 rfl) ?_
  obtain ⟨g8, h⟩ := gd_s h
  refine nb_iald hx hb hK hW 0 (kr_20 (row_lt (by decide) (inb_lt g7))) rfl (inb_in g8) dX7_memory_20 ?_
  exact absurd h (by intro q; cases q)
-- Panyard.ofPlace
set_option maxRecDepth 100000 in
set_option maxHeartbeats 4000000 in
theorem cx_X7_ofPlace (l : Launch) (z : Zt) (ad : Ad) (N : Nt) (X : Gt) (u : St) (x1 : Int32) (x2 : Int32) (hfl : l.stackTraces = false) {E9 : String} {u9 : St} (h : f_X7_ofPlace N u x1 x2 = some (.error E9, u9)) : MX l z yX7_ofPlace cX7_ofPlace 3 (some .int) { frames := 7, cells := 1, slots := 6, locals := 103 } [.ref (ad 0 0), .int x1, .int x2] ad (GC z ad N X u) (QiF z) (GC z ad N X u9) E9 := by
  refine vx_ofW (cc := cX7_ofPlace) (maxL := 3) (ret := (some .int)) (by decide) rfl ?_
  intro p e s m args below meth c s₁ B hml ht hv
  obtain ⟨rfl, hSW, hW⟩ := hv
  have hx := B.exec; have hb := B.bytes; have hr := B.returns; have hlocks := B.notSynchronized
  have hown : s.vm.findClass RX7 = some m.cls := findClass_of_methodNamed B.named
  obtain ⟨hT, hK, hST, hB0⟩ := id hSW
  have hS : va_S (zA z) s.heap s.heap [] := va_S.rf
  have hl := lv_entry ([.ref (ad 0 0), .int x1, .int x2]) (n := 3) (Nat.le_of_ble_eq_true rfl)
  rw [lg_entry_eq]
  generalize (lg_sl ([.ref (ad 0 0), .int x1, .int x2]) ++ List.replicate (3 - (lg_sl ([.ref (ad 0 0), .int x1, .int x2])).length) Slot.unset).toArray = ls at hl ⊢
  have hl : lv_has ls 3 [(0, .ref (ad 0 0)), (1, .int x1), (2, .int x2)] := hl
  unfold f_X7_ofPlace at h
  refine lv_aload_n hx hb dX7_ofPlace_0 rfl (lv_at hl 0 rfl) ?_
  refine lv_iload_n hx hb dX7_ofPlace_1 rfl (lv_at hl 1 rfl) ?_
  rcases xb_e h with ⟨r1, u3, h2, h⟩ | h
  rotate_left
  · exact nx_cv (nx_runV (As := [.int x1]) (rest := []) hx hb hml hown hSW hS hW (cx_X7_requirePlace l z ad N X u x1 hfl h) mf_X7_requirePlace (List.mem_of_getElem? (i := 608) (by decide +kernel)) kr_0 rfl rfl ⟨rfl, rfl⟩ ⟨Nat.le_of_ble_eq_true rfl, Nat.le_of_ble_eq_true rfl⟩ hl.1 (Nat.le_of_ble_eq_true rfl) dX7_ofPlace_2 ⟨Nat.le_of_ble_eq_true rfl, Nat.le_of_ble_eq_true rfl⟩) hS (fun ce9 q9 H locs hce hcv hcc hW hS => nx_out (fun x9 h9 => (ht x9 h9).elim) hlocks hce hcv hcc hW hS ⟨Nat.le_of_ble_eq_true rfl, Nat.le_of_ble_eq_true rfl⟩)
  refine nb_cv (nb_runV (As := [.int x1]) (rest := []) hx hb hml hown hSW hS hW (c_X7_requirePlace l z ad N X u x1 h2) mf_X7_requirePlace lk_X7_168 kr_0 rfl rfl ⟨rfl, rfl⟩ ⟨Nat.le_of_ble_eq_true rfl, Nat.le_of_ble_eq_true rfl⟩ hl.1 (Nat.le_of_ble_eq_true rfl) dX7_ofPlace_2 ⟨Nat.le_of_ble_eq_true rfl, Nat.le_of_ble_eq_true rfl⟩) hS (fun H locs (hW : GW z ad (GC z ad N X u3) H) hS => ?_)
  refine lv_iload_n hx hb dX7_ofPlace_5 rfl (lv_at hl 2 rfl) ?_
  refine lv_iconst (v := 0) hx hb dX7_ofPlace_6 (by decide) ?_
  refine lv_iconst (v := 1) hx hb dX7_ofPlace_7 (by decide) ?_
  obtain ⟨r4, u6, h5, h⟩ := sb_s h
  refine nb_ci (nb_runS (As := [.int x2, .int 0, .int 1]) (rest := []) hx hb hml hown hSW hS hW (c_X7_isWithin l z ad N X u3 x2 0 1 h5) mf_X7_isWithin lk_X7_96 rfl ⟨rfl, rfl⟩ ⟨Nat.le_of_ble_eq_true rfl, Nat.le_of_ble_eq_true rfl⟩ hl.1 (Nat.le_of_ble_eq_true rfl) dX7_ofPlace_8 ⟨Nat.le_of_ble_eq_true rfl, Nat.le_of_ble_eq_true rfl⟩) hS (fun H locs (hW : GW z ad (GC z ad N X u6) H) hS => ?_)
  refine lv_if_ne (tgt := 25) hx hb dX7_ofPlace_11 (by decide) (fun c7 => ?_) (fun c7 => ?_)
  · replace h := ite_f h c7
    refine lv_iload_n hx hb dX7_ofPlace_25 rfl (lv_at hl 2 rfl) ?_
    refine lv_if_ne (tgt := 39) hx hb dX7_ofPlace_26 (by decide) (fun c8 => ?_) (fun c8 => ?_)
    · replace h := ite_f h c8
      refine lv_aload_n hx hb dX7_ofPlace_39 rfl (lv_at hl 0 rfl) ?_
      refine lv_aload_n hx hb dX7_ofPlace_40 rfl (lv_at hl 0 rfl) ?_
      refine nb_get hx hb hT hK hown hW fl_X7_37 kr_0 (v := .ref (ad 10 0)) rfl dX7_ofPlace_41 ?_
      obtain ⟨r09, u11, h10, h⟩ := sb_s h
      refine nb_cv (nb_runV (As := [.ref (ad 10 0)]) (rest := []) hx hb hml hown hSW hS hW (c_X7_weigh l z ad N X u6 0 (by decide) h10) mf_X7_weigh lk_X7_345 kr_0 rfl rfl ⟨rfl, rfl⟩ ⟨Nat.le_of_ble_eq_true rfl, Nat.le_of_ble_eq_true rfl⟩ hl.1 (Nat.le_of_ble_eq_true rfl) dX7_ofPlace_44 ⟨Nat.le_of_ble_eq_true rfl, Nat.le_of_ble_eq_true rfl⟩) hS (fun H locs (hW : GW z ad (GC z ad N X u11) H) hS => ?_)
      refine lv_aload_n hx hb dX7_ofPlace_47 rfl (lv_at hl 0 rfl) ?_
      refine lv_aload_n hx hb dX7_ofPlace_48 rfl (lv_at hl 0 rfl) ?_
      refine nb_get hx hb hT hK hown hW fl_X7_30 kr_0 (v := .ref (ad 8 0)) rfl dX7_ofPlace_49 ?_
      refine lv_iload_n hx hb dX7_ofPlace_52 rfl (lv_at hl 1 rfl) ?_
      obtain ⟨r12, u14, h13, h⟩ := sb_s h
      refine nb_ci (nb_runV (As := [.ref (ad 8 0), .int x1]) (rest := []) hx hb hml hown hSW hS hW (c_X7_soundAt l z ad N X u11 0 x1 (by decide) h13) mf_X7_soundAt lk_X7_349 kr_0 rfl rfl ⟨rfl, rfl⟩ ⟨Nat.le_of_ble_eq_true rfl, Nat.le_of_ble_eq_true rfl⟩ hl.1 (Nat.le_of_ble_eq_true rfl) dX7_ofPlace_53 ⟨Nat.le_of_ble_eq_true rfl, Nat.le_of_ble_eq_true rfl⟩) hS (fun H locs (hW : GW z ad (GC z ad N X u14) H) hS => ?_)
      exact absurd h (by intro q; cases q)
    · replace h := ite_t h c8
      refine lv_aload_n hx hb dX7_ofPlace_29 rfl (lv_at hl 0 rfl) ?_
      refine nb_get hx hb hT hK hown hW fl_X7_30 kr_0 (v := .ref (ad 8 0)) rfl dX7_ofPlace_30 ?_
      refine nb_get hx hb hT hK hown hW fl_X7_171 (kr_8 (by decide)) (v := .ref (ad 9 0)) rfl dX7_ofPlace_33 ?_
      refine lv_iload_n hx hb dX7_ofPlace_36 rfl (lv_at hl 1 rfl) ?_
      obtain ⟨g15, h⟩ := gd_s h
      refine nb_iald hx hb hK hW 0 (kr_9 (by decide)) rfl (inb_in g15) dX7_ofPlace_37 ?_
      exact absurd h (by intro q; cases q)
  · replace h := ite_t h c7
    obtain ⟨rfl, rfl⟩ : _ = E9 ∧ u6 = u9 := ⟨Except.error.inj (congrArg Prod.fst (Option.some.inj h)), congrArg Prod.snd (Option.some.inj h)⟩
    exact nb_throwSW (rest := []) hx hb hfl hSW hown th_X7_100_104 (List.mem_of_getElem? (i := 9) rfl) hW hS hml hl.1 dX7_ofPlace_14 dX7_ofPlace_17 dX7_ofPlace_18 dX7_ofPlace_21 dX7_ofPlace_24 (fun x9 h9 => (ht x9 h9).elim) ⟨Nat.le_of_ble_eq_true rfl, Nat.le_of_ble_eq_true rfl, Nat.le_of_ble_eq_true rfl, Nat.le_of_ble_eq_true rfl⟩ hlocks ⟨rfl, rfl⟩
-- Panyard.mark
set_option maxRecDepth 100000 in
set_option maxHeartbeats 4000000 in
theorem cx_X7_mark (l : Launch) (z : Zt) (ad : Ad) (N : Nt) (X : Gt) (u : St) (x1 : Int32) (hfl : l.stackTraces = false) {E9 : String} {u9 : St} (h : f_X7_mark N u x1 = some (.error E9, u9)) : MX l z yX7_mark cX7_mark 2 (some .int) { frames := 6, cells := 1, slots := 6, locals := 94 } [.ref (ad 0 0), .int x1] ad (GC z ad N X u) (QiF z) (GC z ad N X u9) E9 := by
  refine vx_ofW (cc := cX7_mark) (maxL := 2) (ret := (some .int)) (by decide) rfl ?_
  intro p e s m args below meth c s₁ B hml ht hv
  obtain ⟨rfl, hSW, hW⟩ := hv
  have hx := B.exec; have hb := B.bytes; have hr := B.returns; have hlocks := B.notSynchronized
  have hown : s.vm.findClass RX7 = some m.cls := findClass_of_methodNamed B.named
  obtain ⟨hT, hK, hST, hB0⟩ := id hSW
  have hS : va_S (zA z) s.heap s.heap [] := va_S.rf
  have hl := lv_entry ([.ref (ad 0 0), .int x1]) (n := 2) (Nat.le_of_ble_eq_true rfl)
  rw [lg_entry_eq]
  generalize (lg_sl ([.ref (ad 0 0), .int x1]) ++ List.replicate (2 - (lg_sl ([.ref (ad 0 0), .int x1])).length) Slot.unset).toArray = ls at hl ⊢
  have hl : lv_has ls 2 [(0, .ref (ad 0 0)), (1, .int x1)] := hl
  unfold f_X7_mark at h
  refine lv_iload_n hx hb dX7_mark_0 rfl (lv_at hl 1 rfl) ?_
  refine lv_iconst (v := 0) hx hb dX7_mark_1 (by decide) ?_
  refine lv_iconst (v := 3) hx hb dX7_mark_2 (by decide) ?_
  obtain ⟨r1, u3, h2, h⟩ := sb_s h
  refine nb_ci (nb_runS (As := [.int x1, .int 0, .int 3]) (rest := []) hx hb hml hown hSW hS hW (c_X7_isWithin l z ad N X u x1 0 3 h2) mf_X7_isWithin lk_X7_96 rfl ⟨rfl, rfl⟩ ⟨Nat.le_of_ble_eq_true rfl, Nat.le_of_ble_eq_true rfl⟩ hl.1 (Nat.le_of_ble_eq_true rfl) dX7_mark_3 ⟨Nat.le_of_ble_eq_true rfl, Nat.le_of_ble_eq_true rfl⟩) hS (fun H locs (hW : GW z ad (GC z ad N X u3) H) hS => ?_)
  refine lv_if_ne (tgt := 20) hx hb dX7_mark_6 (by decide) (fun c4 => ?_) (fun c4 => ?_)
  · replace h := ite_f h c4
    refine lv_aload_n hx hb dX7_mark_20 rfl (lv_at hl 0 rfl) ?_
    refine lv_aload_n hx hb dX7_mark_21 rfl (lv_at hl 0 rfl) ?_
    refine nb_get hx hb hT hK hown hW fl_X7_37 kr_0 (v := .ref (ad 10 0)) rfl dX7_mark_22 ?_
    obtain ⟨r5, u7, h6, h⟩ := sb_s h
    refine nb_cv (nb_runV (As := [.ref (ad 10 0)]) (rest := []) hx hb hml hown hSW hS hW (c_X7_weigh l z ad N X u3 0 (by decide) h6) mf_X7_weigh lk_X7_345 kr_0 rfl rfl ⟨rfl, rfl⟩ ⟨Nat.le_of_ble_eq_true rfl, Nat.le_of_ble_eq_true rfl⟩ hl.1 (Nat.le_of_ble_eq_true rfl) dX7_mark_25 ⟨Nat.le_of_ble_eq_true rfl, Nat.le_of_ble_eq_true rfl⟩) hS (fun H locs (hW : GW z ad (GC z ad N X u7) H) hS => ?_)
    refine lv_iload_n hx hb dX7_mark_28 rfl (lv_at hl 1 rfl) ?_
    by_cases c8 : x1 = 0
    · replace h := ite_t h c8
      refine lv_tableIn (off := 27) (tgt := 56) hx hb dX7_mark_29 (by rw [c8]; decide) (by rw [c8]; decide) (by rw [c8]; rfl) (by decide) ?_
      refine lv_aload_n hx hb dX7_mark_56 rfl (lv_at hl 0 rfl) ?_
      refine lv_aload_n hx hb dX7_mark_57 rfl (lv_at hl 0 rfl) ?_
      refine nb_get hx hb hT hK hown hW fl_X7_30 kr_0 (v := .ref (ad 8 0)) rfl dX7_mark_58 ?_
      obtain ⟨r09, u11, h10, h⟩ := sb_s h
      refine nb_ci (nb_runV (As := [.ref (ad 8 0)]) (rest := []) hx hb hml hown hSW hS hW (c_X7_meanSound l z ad N X u7 0 (by decide) h10) mf_X7_meanSound lk_X7_355 kr_0 rfl rfl ⟨rfl, rfl⟩ ⟨Nat.le_of_ble_eq_true rfl, Nat.le_of_ble_eq_true rfl⟩ hl.1 (Nat.le_of_ble_eq_true rfl) dX7_mark_61 ⟨Nat.le_of_ble_eq_true rfl, Nat.le_of_ble_eq_true rfl⟩) hS (fun H locs (hW : GW z ad (GC z ad N X u11) H) hS => ?_)
      exact absurd h (by intro q; cases q)
    replace h := ite_f h c8
    by_cases c12 : x1 = 1
    · replace h := ite_t h c12
      refine lv_tableIn (off := 36) (tgt := 65) hx hb dX7_mark_29 (by rw [c12]; decide) (by rw [c12]; decide) (by rw [c12]; rfl) (by decide) ?_
      refine lv_aload_n hx hb dX7_mark_65 rfl (lv_at hl 0 rfl) ?_
      obtain ⟨r13, u15, h14, h⟩ := sb_s h
      refine nb_ci (nb_runV (As := []) (rest := []) hx hb hml hown hSW hS hW (c_X7_tone l z ad N X u7 h14) mf_X7_tone lk_X7_359 kr_0 rfl rfl ⟨rfl, rfl⟩ ⟨Nat.le_of_ble_eq_true rfl, Nat.le_of_ble_eq_true rfl⟩ hl.1 (Nat.le_of_ble_eq_true rfl) dX7_mark_66 ⟨Nat.le_of_ble_eq_true rfl, Nat.le_of_ble_eq_true rfl⟩) hS (fun H locs (hW : GW z ad (GC z ad N X u15) H) hS => ?_)
      exact absurd h (by intro q; cases q)
    replace h := ite_f h c12
    by_cases c16 : x1 = 2
    · replace h := ite_t h c16
      refine lv_tableIn (off := 41) (tgt := 70) hx hb dX7_mark_29 (by rw [c16]; decide) (by rw [c16]; decide) (by rw [c16]; rfl) (by decide) ?_
      refine lv_aload_n hx hb dX7_mark_70 rfl (lv_at hl 0 rfl) ?_
      refine lv_aload_n hx hb dX7_mark_71 rfl (lv_at hl 0 rfl) ?_
      refine nb_get hx hb hT hK hown hW fl_X7_30 kr_0 (v := .ref (ad 8 0)) rfl dX7_mark_72 ?_
      obtain ⟨r17, u19, h18, h⟩ := sb_s h
      refine nb_ci (nb_runV (As := [.ref (ad 8 0)]) (rest := []) hx hb hml hown hSW hS hW (c_X7_variety l z ad N X u7 0 (by decide) h18) mf_X7_variety lk_X7_362 kr_0 rfl rfl ⟨rfl, rfl⟩ ⟨Nat.le_of_ble_eq_true rfl, Nat.le_of_ble_eq_true rfl⟩ hl.1 (Nat.le_of_ble_eq_true rfl) dX7_mark_75 ⟨Nat.le_of_ble_eq_true rfl, Nat.le_of_ble_eq_true rfl⟩) hS (fun H locs (hW : GW z ad (GC z ad N X u19) H) hS => ?_)
      exact absurd h (by intro q; cases q)
    replace h := ite_f h c16
    refine lv_tableOut (tgt := 79) hx hb dX7_mark_29 (by have tc8 := lv_neT (a := 0) c8 rfl; have tc12 := lv_neT (a := 1) c12 rfl; have tc16 := lv_neT (a := 2) c16 rfl; omega) (by decide) ?_
    refine lv_aload_n hx hb dX7_mark_79 rfl (lv_at hl 0 rfl) ?_
    refine lv_aload_n hx hb dX7_mark_80 rfl (lv_at hl 0 rfl) ?_
    refine nb_get hx hb hT hK hown hW fl_X7_30 kr_0 (v := .ref (ad 8 0)) rfl dX7_mark_81 ?_
    obtain ⟨r20, u22, h21, h⟩ := sb_s h
    refine nb_ci (nb_runV (As := [.ref (ad 8 0)]) (rest := []) hx hb hml hown hSW hS hW (c_X7_leastSound l z ad N X u7 0 (by decide) h21) mf_X7_leastSound lk_X7_365 kr_0 rfl rfl ⟨rfl, rfl⟩ ⟨Nat.le_of_ble_eq_true rfl, Nat.le_of_ble_eq_true rfl⟩ hl.1 (Nat.le_of_ble_eq_true rfl) dX7_mark_84 ⟨Nat.le_of_ble_eq_true rfl, Nat.le_of_ble_eq_true rfl⟩) hS (fun H locs (hW : GW z ad (GC z ad N X u22) H) hS => ?_)
    exact absurd h (by intro q; cases q)
  · replace h := ite_t h c4
    obtain ⟨rfl, rfl⟩ : _ = E9 ∧ u3 = u9 := ⟨Except.error.inj (congrArg Prod.fst (Option.some.inj h)), congrArg Prod.snd (Option.some.inj h)⟩
    exact nb_throwSW (rest := []) hx hb hfl hSW hown th_X7_276_280 (List.mem_of_getElem? (i := 10) rfl) hW hS hml hl.1 dX7_mark_9 dX7_mark_12 dX7_mark_13 dX7_mark_16 dX7_mark_19 (fun x9 h9 => (ht x9 h9).elim) ⟨Nat.le_of_ble_eq_true rfl, Nat.le_of_ble_eq_true rfl, Nat.le_of_ble_eq_true rfl, Nat.le_of_ble_eq_true rfl⟩ hlocks ⟨rfl, rfl⟩
-- Panyard.ofRound
set_option maxRecDepth 100000 in
set_option maxHeartbeats 4000000 in
theorem cx_X7_ofRound (l : Launch) (z : Zt) (ad : Ad) (N : Nt) (X : Gt) (u : St) (x1 : Int32) (x2 : Int32) (hfl : l.stackTraces = false) {E9 : String} {u9 : St} (h : f_X7_ofRound N u x1 x2 = some (.error E9, u9)) : MX l z yX7_ofRound cX7_ofRound 3 (some .int) { frames := 6, cells := 1, slots := 6, locals := 82 } [.ref (ad 0 0), .int x1, .int x2] ad (GC z ad N X u) (QiF z) (GC z ad N X u9) E9 := by
  refine vx_ofW (cc := cX7_ofRound) (maxL := 3) (ret := (some .int)) (by decide) rfl ?_
  intro p e s m args below meth c s₁ B hml ht hv
  obtain ⟨rfl, hSW, hW⟩ := hv
  have hx := B.exec; have hb := B.bytes; have hr := B.returns; have hlocks := B.notSynchronized
  have hown : s.vm.findClass RX7 = some m.cls := findClass_of_methodNamed B.named
  obtain ⟨hT, hK, hST, hB0⟩ := id hSW
  have hS : va_S (zA z) s.heap s.heap [] := va_S.rf
  have hl := lv_entry ([.ref (ad 0 0), .int x1, .int x2]) (n := 3) (Nat.le_of_ble_eq_true rfl)
  rw [lg_entry_eq]
  generalize (lg_sl ([.ref (ad 0 0), .int x1, .int x2]) ++ List.replicate (3 - (lg_sl ([.ref (ad 0 0), .int x1, .int x2])).length) Slot.unset).toArray = ls at hl ⊢
  have hl : lv_has ls 3 [(0, .ref (ad 0 0)), (1, .int x1), (2, .int x2)] := hl
  unfold f_X7_ofRound at h
  refine lv_iload_n hx hb dX7_ofRound_0 rfl (lv_at hl 1 rfl) ?_
  refine lv_iconst (v := 0) hx hb dX7_ofRound_1 (by decide) ?_
  refine lv_iconst (v := 2) hx hb dX7_ofRound_2 (by decide) ?_
  obtain ⟨r1, u3, h2, h⟩ := sb_s h
  refine nb_ci (nb_runS (As := [.int x1, .int 0, .int 2]) (rest := []) hx hb hml hown hSW hS hW (c_X7_isWithin l z ad N X u x1 0 2 h2) mf_X7_isWithin lk_X7_96 rfl ⟨rfl, rfl⟩ ⟨Nat.le_of_ble_eq_true rfl, Nat.le_of_ble_eq_true rfl⟩ hl.1 (Nat.le_of_ble_eq_true rfl) dX7_ofRound_3 ⟨Nat.le_of_ble_eq_true rfl, Nat.le_of_ble_eq_true rfl⟩) hS (fun H locs (hW : GW z ad (GC z ad N X u3) H) hS => ?_)
  refine lv_if_ne (tgt := 20) hx hb dX7_ofRound_6 (by decide) (fun c4 => ?_) (fun c4 => ?_)
  · replace h := ite_f h c4
    refine lv_iload_n hx hb dX7_ofRound_20 rfl (lv_at hl 2 rfl) ?_
    refine lv_iconst (v := 0) hx hb dX7_ofRound_21 (by decide) ?_
    refine lv_iconst (v := 1) hx hb dX7_ofRound_22 (by decide) ?_
    obtain ⟨r5, u7, h6, h⟩ := sb_s h
    refine nb_ci (nb_runS (As := [.int x2, .int 0, .int 1]) (rest := []) hx hb hml hown hSW hS hW (c_X7_isWithin l z ad N X u3 x2 0 1 h6) mf_X7_isWithin lk_X7_96 rfl ⟨rfl, rfl⟩ ⟨Nat.le_of_ble_eq_true rfl, Nat.le_of_ble_eq_true rfl⟩ hl.1 (Nat.le_of_ble_eq_true rfl) dX7_ofRound_23 ⟨Nat.le_of_ble_eq_true rfl, Nat.le_of_ble_eq_true rfl⟩) hS (fun H locs (hW : GW z ad (GC z ad N X u7) H) hS => ?_)
    refine lv_if_ne (tgt := 40) hx hb dX7_ofRound_26 (by decide) (fun c8 => ?_) (fun c8 => ?_)
    · replace h := ite_f h c8
      refine lv_iload_n hx hb dX7_ofRound_40 rfl (lv_at hl 1 rfl) ?_
      refine lv_aload_n hx hb dX7_ofRound_41 rfl (lv_at hl 0 rfl) ?_
      refine nb_get hx hb hT hK hown hW fl_X7_51 kr_0 (v := .ref (ad 6 0)) rfl dX7_ofRound_42 ?_
      refine nb_get hx hb hT hK hown hW fl_X7_299 kr_6 (v := .int (u7 65 0 0)) rfl dX7_ofRound_45 ?_
      refine lv_icmp_lt (tgt := 53) hx hb dX7_ofRound_48 (by decide) (fun c09 => ?_) (fun c09 => ?_)
      · replace h := ite_t h c09
        refine lv_iload_n hx hb dX7_ofRound_53 rfl (lv_at hl 2 rfl) ?_
        refine lv_if_ne (tgt := 69) hx hb dX7_ofRound_54 (by decide) (fun c10 => ?_) (fun c10 => ?_)
        · replace h := ite_f h c10
          refine lv_aload_n hx hb dX7_ofRound_69 rfl (lv_at hl 0 rfl) ?_
          refine nb_get hx hb hT hK hown hW fl_X7_51 kr_0 (v := .ref (ad 6 0)) rfl dX7_ofRound_70 ?_
          refine nb_get hx hb hT hK hown hW fl_X7_373 kr_6 (v := .ref (ad 19 0)) rfl dX7_ofRound_73 ?_
          refine lv_iload_n hx hb dX7_ofRound_76 rfl (lv_at hl 1 rfl) ?_
          obtain ⟨g11, h⟩ := gd_s h
          refine nb_iald hx hb hK hW 0 kr_19 rfl (inb_in g11) dX7_ofRound_77 ?_
          exact absurd h (by intro q; cases q)
        · replace h := ite_t h c10
          refine lv_aload_n hx hb dX7_ofRound_57 rfl (lv_at hl 0 rfl) ?_
          refine nb_get hx hb hT hK hown hW fl_X7_51 kr_0 (v := .ref (ad 6 0)) rfl dX7_ofRound_58 ?_
          refine nb_get hx hb hT hK hown hW fl_X7_370 kr_6 (v := .ref (ad 18 0)) rfl dX7_ofRound_61 ?_
          refine lv_iload_n hx hb dX7_ofRound_64 rfl (lv_at hl 1 rfl) ?_
          obtain ⟨g12, h⟩ := gd_s h
          refine nb_iald hx hb hK hW 0 kr_18 rfl (inb_in g12) dX7_ofRound_65 ?_
          refine lv_goto (tgt := 78) hx hb dX7_ofRound_66 (by decide) ?_
          exact absurd h (by intro q; cases q)
      · replace h := ite_f h c09
        refine lv_iconst (v := (-1)) hx hb dX7_ofRound_51 (by decide) ?_
        exact absurd h (by intro q; cases q)
    · replace h := ite_t h c8
      obtain ⟨rfl, rfl⟩ : _ = E9 ∧ u7 = u9 := ⟨Except.error.inj (congrArg Prod.fst (Option.some.inj h)), congrArg Prod.snd (Option.some.inj h)⟩
      exact nb_throwSW (rest := []) hx hb hfl hSW hown th_X7_100_104 (List.mem_of_getElem? (i := 9) rfl) hW hS hml hl.1 dX7_ofRound_29 dX7_ofRound_32 dX7_ofRound_33 dX7_ofRound_36 dX7_ofRound_39 (fun x9 h9 => (ht x9 h9).elim) ⟨Nat.le_of_ble_eq_true rfl, Nat.le_of_ble_eq_true rfl, Nat.le_of_ble_eq_true rfl, Nat.le_of_ble_eq_true rfl⟩ hlocks ⟨rfl, rfl⟩
  · replace h := ite_t h c4
    obtain ⟨rfl, rfl⟩ : _ = E9 ∧ u3 = u9 := ⟨Except.error.inj (congrArg Prod.fst (Option.some.inj h)), congrArg Prod.snd (Option.some.inj h)⟩
    exact nb_throwSW (rest := []) hx hb hfl hSW hown th_X7_276_280 (List.mem_of_getElem? (i := 11) rfl) hW hS hml hl.1 dX7_ofRound_9 dX7_ofRound_12 dX7_ofRound_13 dX7_ofRound_16 dX7_ofRound_19 (fun x9 h9 => (ht x9 h9).elim) ⟨Nat.le_of_ble_eq_true rfl, Nat.le_of_ble_eq_true rfl, Nat.le_of_ble_eq_true rfl, Nat.le_of_ble_eq_true rfl⟩ hlocks ⟨rfl, rfl⟩
-- Panyard.many
set_option maxRecDepth 100000 in
set_option maxHeartbeats 4000000 in
theorem cx_X7_many (l : Launch) (z : Zt) (ad : Ad) (N : Nt) (X : Gt) (u : St) (x1 : Int32) (hfl : l.stackTraces = false) {E9 : String} {u9 : St} (h : f_X7_many N u x1 = some (.error E9, u9)) : MX l z yX7_many cX7_many 2 (some .int) { frames := 6, cells := 1, slots := 6, locals := 114 } [.ref (ad 0 0), .int x1] ad (GC z ad N X u) (QiF z) (GC z ad N X u9) E9 := by
  refine vx_ofW (cc := cX7_many) (maxL := 2) (ret := (some .int)) (by decide) rfl ?_
  intro p e s m args below meth c s₁ B hml ht hv
  obtain ⟨rfl, hSW, hW⟩ := hv
  have hx := B.exec; have hb := B.bytes; have hr := B.returns; have hlocks := B.notSynchronized
  have hown : s.vm.findClass RX7 = some m.cls := findClass_of_methodNamed B.named
  obtain ⟨hT, hK, hST, hB0⟩ := id hSW
  have hS : va_S (zA z) s.heap s.heap [] := va_S.rf
  have hl := lv_entry ([.ref (ad 0 0), .int x1]) (n := 2) (Nat.le_of_ble_eq_true rfl)
  rw [lg_entry_eq]
  generalize (lg_sl ([.ref (ad 0 0), .int x1]) ++ List.replicate (2 - (lg_sl ([.ref (ad 0 0), .int x1])).length) Slot.unset).toArray = ls at hl ⊢
  have hl : lv_has ls 2 [(0, .ref (ad 0 0)), (1, .int x1)] := hl
  unfold f_X7_many at h
  refine lv_iload_n hx hb dX7_many_0 rfl (lv_at hl 1 rfl) ?_
  by_cases c1 : x1 = 0
  · replace h := ite_t h c1
    refine lv_tableIn (off := 71) (tgt := 72) hx hb dX7_many_1 (by rw [c1]; decide) (by rw [c1]; decide) (by rw [c1]; rfl) (by decide) ?_
    refine lv_aload_n hx hb dX7_many_72 rfl (lv_at hl 0 rfl) ?_
    refine nb_get hx hb hT hK hown hW fl_X7_44 kr_0 (v := .ref (ad 5 0)) rfl dX7_many_73 ?_
    refine nb_get hx hb hT hK hown hW fl_X7_261 kr_5 (v := .int (u 51 0 0)) rfl dX7_many_76 ?_
    exact absurd h (by intro q; cases q)
  replace h := ite_f h c1
  by_cases c2 : x1 = 1
  · replace h := ite_t h c2
    refine lv_tableIn (off := 79) (tgt := 80) hx hb dX7_many_1 (by rw [c2]; decide) (by rw [c2]; decide) (by rw [c2]; rfl) (by decide) ?_
    refine lv_aload_n hx hb dX7_many_80 rfl (lv_at hl 0 rfl) ?_
    refine nb_get hx hb hT hK hown hW fl_X7_80 kr_0 (v := .int (u 0 0 0)) rfl dX7_many_81 ?_
    exact absurd h (by intro q; cases q)
  replace h := ite_f h c2
  by_cases c3 : x1 = 2
  · replace h := ite_t h c3
    refine lv_tableIn (off := 84) (tgt := 85) hx hb dX7_many_1 (by rw [c3]; decide) (by rw [c3]; decide) (by rw [c3]; rfl) (by decide) ?_
    refine lv_aload_n hx hb dX7_many_85 rfl (lv_at hl 0 rfl) ?_
    refine nb_get hx hb hT hK hown hW fl_X7_133 kr_0 (v := .int (u 1 0 0)) rfl dX7_many_86 ?_
    exact absurd h (by intro q; cases q)
  replace h := ite_f h c3
  by_cases c4 : x1 = 3
  · replace h := ite_t h c4
    refine lv_tableIn (off := 89) (tgt := 90) hx hb dX7_many_1 (by rw [c4]; decide) (by rw [c4]; decide) (by rw [c4]; rfl) (by decide) ?_
    refine lv_aload_n hx hb dX7_many_90 rfl (lv_at hl 0 rfl) ?_
    refine nb_get hx hb hT hK hown hW fl_X7_30 kr_0 (v := .ref (ad 8 0)) rfl dX7_many_91 ?_
    refine nb_get hx hb hT hK hown hW fl_X7_160 (kr_8 (by decide)) (v := .int (u 43 0 0)) rfl dX7_many_94 ?_
    exact absurd h (by intro q; cases q)
  replace h := ite_f h c4
  by_cases c5 : x1 = 4
  · replace h := ite_t h c5
    refine lv_tableIn (off := 97) (tgt := 98) hx hb dX7_many_1 (by rw [c5]; decide) (by rw [c5]; decide) (by rw [c5]; rfl) (by decide) ?_
    refine lv_aload_n hx hb dX7_many_98 rfl (lv_at hl 0 rfl) ?_
    refine nb_get hx hb hT hK hown hW fl_X7_147 kr_0 (v := .int (u 2 0 0)) rfl dX7_many_99 ?_
    exact absurd h (by intro q; cases q)
  replace h := ite_f h c5
  by_cases c6 : x1 = 5
  · replace h := ite_t h c6
    refine lv_tableIn (off := 102) (tgt := 103) hx hb dX7_many_1 (by rw [c6]; decide) (by rw [c6]; decide) (by rw [c6]; rfl) (by decide) ?_
    refine lv_aload_n hx hb dX7_many_103 rfl (lv_at hl 0 rfl) ?_
    obtain ⟨r7, u09, h8, h⟩ := sb_s h
    refine nb_ci (nb_runV (As := []) (rest := []) hx hb hml hown hSW hS hW (c_X7_soundingCount l z ad N X u h8) mf_X7_soundingCount lk_X7_244 kr_0 rfl rfl ⟨rfl, rfl⟩ ⟨Nat.le_of_ble_eq_true rfl, Nat.le_of_ble_eq_true rfl⟩ hl.1 (Nat.le_of_ble_eq_true rfl) dX7_many_104 ⟨Nat.le_of_ble_eq_true rfl, Nat.le_of_ble_eq_true rfl⟩) hS (fun H locs (hW : GW z ad (GC z ad N X u09) H) hS => ?_)
    exact absurd h (by intro q; cases q)
  replace h := ite_f h c6
  by_cases c10 : x1 = 6
  · replace h := ite_t h c10
    refine lv_tableIn (off := 107) (tgt := 108) hx hb dX7_many_1 (by rw [c10]; decide) (by rw [c10]; decide) (by rw [c10]; rfl) (by decide) ?_
    refine lv_aload_n hx hb dX7_many_108 rfl (lv_at hl 0 rfl) ?_
    refine nb_get hx hb hT hK hown hW fl_X7_51 kr_0 (v := .ref (ad 6 0)) rfl dX7_many_109 ?_
    refine nb_get hx hb hT hK hown hW fl_X7_268 kr_6 (v := .int (u 64 0 0)) rfl dX7_many_112 ?_
    exact absurd h (by intro q; cases q)
  replace h := ite_f h c10
  by_cases c11 : x1 = 7
  · replace h := ite_t h c11
    refine lv_tableIn (off := 115) (tgt := 116) hx hb dX7_many_1 (by rw [c11]; decide) (by rw [c11]; decide) (by rw [c11]; rfl) (by decide) ?_
    refine lv_aload_n hx hb dX7_many_116 rfl (lv_at hl 0 rfl) ?_
    refine nb_get hx hb hT hK hown hW fl_X7_55 kr_0 (v := .int (u 3 0 0)) rfl dX7_many_117 ?_
    exact absurd h (by intro q; cases q)
  replace h := ite_f h c11
  by_cases c12 : x1 = 8
  · replace h := ite_t h c12
    refine lv_tableIn (off := 120) (tgt := 121) hx hb dX7_many_1 (by rw [c12]; decide) (by rw [c12]; decide) (by rw [c12]; rfl) (by decide) ?_
    refine lv_aload_n hx hb dX7_many_121 rfl (lv_at hl 0 rfl) ?_
    refine nb_get hx hb hT hK hown hW fl_X7_51 kr_0 (v := .ref (ad 6 0)) rfl dX7_many_122 ?_
    refine nb_get hx hb hT hK hown hW fl_X7_299 kr_6 (v := .int (u 65 0 0)) rfl dX7_many_125 ?_
    exact absurd h (by intro q; cases q)
  replace h := ite_f h c12
  by_cases c13 : x1 = 9
  · replace h := ite_t h c13
    refine lv_tableIn (off := 128) (tgt := 129) hx hb dX7_many_1 (by rw [c13]; decide) (by rw [c13]; decide) (by rw [c13]; rfl) (by decide) ?_
    refine lv_aload_n hx hb dX7_many_129 rfl (lv_at hl 0 rfl) ?_
    refine nb_get hx hb hT hK hown hW fl_X7_51 kr_0 (v := .ref (ad 6 0)) rfl dX7_many_130 ?_
    obtain ⟨r14, u16, h15, h⟩ := sb_s h
    refine nb_ci (nb_runV (As := []) (rest := []) hx hb hml hown hSW hS hW (c_X1_isOver l z ad N X u h15) mf_X1_isOver lk_X7_286 kr_6 rfl rfl ⟨rfl, rfl⟩ ⟨Nat.le_of_ble_eq_true rfl, Nat.le_of_ble_eq_true rfl⟩ hl.1 (Nat.le_of_ble_eq_true rfl) dX7_many_133 ⟨Nat.le_of_ble_eq_true rfl, Nat.le_of_ble_eq_true rfl⟩) hS (fun H locs (hW : GW z ad (GC z ad N X u16) H) hS => ?_)
    refine lv_if_eq (tgt := 143) hx hb dX7_many_136 (by decide) (fun c17 => ?_) (fun c17 => ?_)
    · replace h := ite_t h c17
      refine lv_iconst (v := 0) hx hb dX7_many_143 (by decide) ?_
      exact absurd h (by intro q; cases q)
    · replace h := ite_f h c17
      refine lv_iconst (v := 1) hx hb dX7_many_139 (by decide) ?_
      refine lv_goto (tgt := 144) hx hb dX7_many_140 (by decide) ?_
      exact absurd h (by intro q; cases q)
  replace h := ite_f h c13
  by_cases c18 : x1 = 10
  · replace h := ite_t h c18
    refine lv_tableIn (off := 144) (tgt := 145) hx hb dX7_many_1 (by rw [c18]; decide) (by rw [c18]; decide) (by rw [c18]; rfl) (by decide) ?_
    refine lv_aload_n hx hb dX7_many_145 rfl (lv_at hl 0 rfl) ?_
    obtain ⟨r19, u21, h20, h⟩ := sb_s h
    refine nb_ci (nb_runV (As := []) (rest := []) hx hb hml hown hSW hS hW (c_X7_totalNow l z ad N X u h20) mf_X7_totalNow lk_X7_302 kr_0 rfl rfl ⟨rfl, rfl⟩ ⟨Nat.le_of_ble_eq_true rfl, Nat.le_of_ble_eq_true rfl⟩ hl.1 (Nat.le_of_ble_eq_true rfl) dX7_many_146 ⟨Nat.le_of_ble_eq_true rfl, Nat.le_of_ble_eq_true rfl⟩) hS (fun H locs (hW : GW z ad (GC z ad N X u21) H) hS => ?_)
    exact absurd h (by intro q; cases q)
  replace h := ite_f h c18
  by_cases c22 : x1 = 11
  · replace h := ite_t h c22
    refine lv_tableIn (off := 149) (tgt := 150) hx hb dX7_many_1 (by rw [c22]; decide) (by rw [c22]; decide) (by rw [c22]; rfl) (by decide) ?_
    refine lv_aload_n hx hb dX7_many_150 rfl (lv_at hl 0 rfl) ?_
    refine nb_get hx hb hT hK hown hW fl_X7_51 kr_0 (v := .ref (ad 6 0)) rfl dX7_many_151 ?_
    refine lv_aload_n hx hb dX7_many_154 rfl (lv_at hl 0 rfl) ?_
    obtain ⟨r23, u25, h24, h⟩ := sb_s h
    refine nb_ci (nb_runV (As := []) (rest := [.ref (ad 6 0)]) hx hb hml hown hSW hS hW (c_X7_totalNow l z ad N X u h24) mf_X7_totalNow lk_X7_302 kr_0 rfl rfl ⟨rfl, rfl⟩ ⟨Nat.le_of_ble_eq_true rfl, Nat.le_of_ble_eq_true rfl⟩ hl.1 (Nat.le_of_ble_eq_true rfl) dX7_many_155 ⟨Nat.le_of_ble_eq_true rfl, Nat.le_of_ble_eq_true rfl⟩) hS (fun H locs (hW : GW z ad (GC z ad N X u25) H) hS => ?_)
    obtain ⟨r26, u28, h27, h⟩ := sb_s h
    refine nb_ci (nb_runV (As := [.int r23]) (rest := []) hx hb hml hown hSW hS hW (c_X1_scoreOf l z ad N X u25 r23 h27) mf_X1_scoreOf lk_X7_305 kr_6 rfl rfl ⟨rfl, rfl⟩ ⟨Nat.le_of_ble_eq_true rfl, Nat.le_of_ble_eq_true rfl⟩ hl.1 (Nat.le_of_ble_eq_true rfl) dX7_many_158 ⟨Nat.le_of_ble_eq_true rfl, Nat.le_of_ble_eq_true rfl⟩) hS (fun H locs (hW : GW z ad (GC z ad N X u28) H) hS => ?_)
    exact absurd h (by intro q; cases q)
  replace h := ite_f h c22
  by_cases c29 : x1 = 12
  · replace h := ite_t h c29
    refine lv_tableIn (off := 161) (tgt := 162) hx hb dX7_many_1 (by rw [c29]; decide) (by rw [c29]; decide) (by rw [c29]; rfl) (by decide) ?_
    refine lv_aload_n hx hb dX7_many_162 rfl (lv_at hl 0 rfl) ?_
    refine nb_get hx hb hT hK hown hW fl_X7_44 kr_0 (v := .ref (ad 5 0)) rfl dX7_many_163 ?_
    refine nb_get hx hb hT hK hown hW fl_X7_231 kr_5 (v := .int (u 52 0 0)) rfl dX7_many_166 ?_
    exact absurd h (by intro q; cases q)
  replace h := ite_f h c29
  by_cases c30 : x1 = 13
  · replace h := ite_t h c30
    refine lv_tableIn (off := 169) (tgt := 170) hx hb dX7_many_1 (by rw [c30]; decide) (by rw [c30]; decide) (by rw [c30]; rfl) (by decide) ?_
    refine lv_aload_n hx hb dX7_many_170 rfl (lv_at hl 0 rfl) ?_
    obtain ⟨r31, u33, h32, h⟩ := sb_s h
    refine nb_ci (nb_runV (As := []) (rest := []) hx hb hml hown hSW hS hW (c_X7_blowsEver l z ad N X u h32) mf_X7_blowsEver lk_X7_376 kr_0 rfl rfl ⟨rfl, rfl⟩ ⟨Nat.le_of_ble_eq_true rfl, Nat.le_of_ble_eq_true rfl⟩ hl.1 (Nat.le_of_ble_eq_true rfl) dX7_many_171 ⟨Nat.le_of_ble_eq_true rfl, Nat.le_of_ble_eq_true rfl⟩) hS (fun H locs (hW : GW z ad (GC z ad N X u33) H) hS => ?_)
    exact absurd h (by intro q; cases q)
  replace h := ite_f h c30
  refine lv_tableOut (tgt := 175) hx hb dX7_many_1 (by have tc1 := lv_neT (a := 0) c1 rfl; have tc2 := lv_neT (a := 1) c2 rfl; have tc3 := lv_neT (a := 2) c3 rfl; have tc4 := lv_neT (a := 3) c4 rfl; have tc5 := lv_neT (a := 4) c5 rfl; have tc6 := lv_neT (a := 5) c6 rfl; have tc10 := lv_neT (a := 6) c10 rfl; have tc11 := lv_neT (a := 7) c11 rfl; have tc12 := lv_neT (a := 8) c12 rfl; have tc13 := lv_neT (a := 9) c13 rfl; have tc18 := lv_neT (a := 10) c18 rfl; have tc22 := lv_neT (a := 11) c22 rfl; have tc29 := lv_neT (a := 12) c29 rfl; have tc30 := lv_neT (a := 13) c30 rfl; omega) (by decide) ?_
  obtain ⟨rfl, rfl⟩ : _ = E9 ∧ u = u9 := ⟨Except.error.inj (congrArg Prod.fst (Option.some.inj h)), congrArg Prod.snd (Option.some.inj h)⟩
  exact nb_throwSW (rest := []) hx hb hfl hSW hown th_X7_100_104 (List.mem_of_getElem? (i := 0) rfl) hW hS hml hl.1 dX7_many_175 dX7_many_178 dX7_many_179 dX7_many_182 dX7_many_185 (fun x9 h9 => (ht x9 h9).elim) ⟨Nat.le_of_ble_eq_true rfl, Nat.le_of_ble_eq_true rfl, Nat.le_of_ble_eq_true rfl, Nat.le_of_ble_eq_true rfl⟩ hlocks ⟨rfl, rfl⟩
-- Panyard.wouldTotal
set_option maxRecDepth 100000 in
set_option maxHeartbeats 4000000 in
theorem cx_X7_wouldTotal (l : Launch) (z : Zt) (ad : Ad) (N : Nt) (X : Gt) (u : St) (x1 : Int32) (hfl : l.stackTraces = false) {E9 : String} {u9 : St} (h : f_X7_wouldTotal N u x1 = some (.error E9, u9)) : MX l z yX7_wouldTotal cX7_wouldTotal 3 (some .int) { frames := 6, cells := 1, slots := 6, locals := 94 } [.ref (ad 0 0), .int x1] ad (GC z ad N X u) (QiF z) (GC z ad N X u9) E9 := by
  refine vx_ofW (cc := cX7_wouldTotal) (maxL := 3) (ret := (some .int)) (by decide) rfl ?_
  intro p e s m args below meth c s₁ B hml ht hv
  obtain ⟨rfl, hSW, hW⟩ := hv
  have hx := B.exec; have hb := B.bytes; have hr := B.returns; have hlocks := B.notSynchronized
  have hown : s.vm.findClass RX7 = some m.cls := findClass_of_methodNamed B.named
  obtain ⟨hT, hK, hST, hB0⟩ := id hSW
  have hS : va_S (zA z) s.heap s.heap [] := va_S.rf
  have hl := lv_entry ([.ref (ad 0 0), .int x1]) (n := 3) (Nat.le_of_ble_eq_true rfl)
  rw [lg_entry_eq]
  generalize (lg_sl ([.ref (ad 0 0), .int x1]) ++ List.replicate (3 - (lg_sl ([.ref (ad 0 0), .int x1])).length) Slot.unset).toArray = ls at hl ⊢
  have hl : lv_has ls 3 [(0, .ref (ad 0 0)), (1, .int x1)] := hl
  let WW : Heap → List Loc → JFrame → Prop := fun H locs g => W p l e (headSpec [Cond.code yX7_wouldTotal cX7_wouldTotal 3 (some .int)] { frames := 6, cells := 1, slots := 6, locals := 94 }).room s m [.ref (ad 0 0), .int x1].toArray below meth c H locs 0 0 (vx_MQ below (QiF z) (XX z ad (GC z ad N X u9) E9) [.ref (ad 0 0), .int x1].toArray s 1 6 (zA z)) g
  have hL34b : ∀ (ih34 : Int32 → Int32 → St → Option (Except String Int32 × St)) (hih34 : ∀ (y2 : Int32) (y1 : Int32) (u : St) (H : Heap) (locs : List Loc) (ls : Array Slot), lv_has ls 3 [(2, .int y2), (0, .ref (ad 0 0)), (1, .int y1)] → GW z ad (GC z ad N X u) H → va_S (zA z) s.heap H locs → ih34 y2 y1 u = some (.error E9, u9) → WW H locs (F0 m 34 ls [])), ∀ (y2 : Int32) (y1 : Int32) (u : St) (H : Heap) (locs : List Loc) (ls : Array Slot), lv_has ls 3 [(2, .int y2), (0, .ref (ad 0 0)), (1, .int y1)] → GW z ad (GC z ad N X u) H → va_S (zA z) s.heap H locs → f_X7_wouldTotal_L34b N ih34 y2 y1 u = some (.error E9, u9) → WW H locs (F0 m 34 ls []) := by
    intro ih34 hih34 y2 y1 u H locs ls hl hW hS h
    change W p l e _ s m _ below meth c H locs 0 0 _ (F0 m 34 ls [])
    unfold f_X7_wouldTotal_L34b at h
    refine lv_iload_n hx hb dX7_wouldTotal_34 rfl (lv_at hl 0 rfl) ?_
    refine lv_iload_n hx hb dX7_wouldTotal_35 rfl (lv_at hl 2 rfl) ?_
    refine lv_icmp_ge (tgt := 60) hx hb dX7_wouldTotal_36 (by decide) (fun c8 => ?_) (fun c8 => ?_)
    · replace h := ite_t h c8
      refine lv_aload_n hx hb dX7_wouldTotal_60 rfl (lv_at hl 1 rfl) ?_
      refine lv_aload_n hx hb dX7_wouldTotal_61 rfl (lv_at hl 1 rfl) ?_
      refine nb_get hx hb hT hK hown hW fl_X7_69 kr_0 (v := .ref (ad 10 1)) rfl dX7_wouldTotal_62 ?_
      obtain ⟨r09, u11, h10, h⟩ := sb_s h
      refine nb_cv (nb_runV (As := [.ref (ad 10 1)]) (rest := []) hx hb hml hown hSW hS hW (c_X7_weigh l z ad N X u 1 (by decide) h10) mf_X7_weigh lk_X7_345 kr_0 rfl rfl ⟨rfl, rfl⟩ ⟨Nat.le_of_ble_eq_true rfl, Nat.le_of_ble_eq_true rfl⟩ hl.1 (Nat.le_of_ble_eq_true rfl) dX7_wouldTotal_65 ⟨Nat.le_of_ble_eq_true rfl, Nat.le_of_ble_eq_true rfl⟩) hS (fun H locs (hW : GW z ad (GC z ad N X u11) H) hS => ?_)
      refine lv_aload_n hx hb dX7_wouldTotal_68 rfl (lv_at hl 1 rfl) ?_
      obtain ⟨r12, u14, h13, h⟩ := sb_s h
      refine nb_ci (nb_runV (As := []) (rest := []) hx hb hml hown hSW hS hW (c_X7_tone l z ad N X u11 h13) mf_X7_tone lk_X7_359 kr_0 rfl rfl ⟨rfl, rfl⟩ ⟨Nat.le_of_ble_eq_true rfl, Nat.le_of_ble_eq_true rfl⟩ hl.1 (Nat.le_of_ble_eq_true rfl) dX7_wouldTotal_69 ⟨Nat.le_of_ble_eq_true rfl, Nat.le_of_ble_eq_true rfl⟩) hS (fun H locs (hW : GW z ad (GC z ad N X u14) H) hS => ?_)
      refine lv_aload_n hx hb dX7_wouldTotal_72 rfl (lv_at hl 1 rfl) ?_
      refine lv_aload_n hx hb dX7_wouldTotal_73 rfl (lv_at hl 1 rfl) ?_
      refine nb_get hx hb hT hK hown hW fl_X7_30 kr_0 (v := .ref (ad 8 0)) rfl dX7_wouldTotal_74 ?_
      obtain ⟨r15, u17, h16, h⟩ := sb_s h
      refine nb_ci (nb_runV (As := [.ref (ad 8 0)]) (rest := [.int r12]) hx hb hml hown hSW hS hW (c_X7_heard l z ad N X u14 0 (by decide) h16) mf_X7_heard lk_X7_386 kr_0 rfl rfl ⟨rfl, rfl⟩ ⟨Nat.le_of_ble_eq_true rfl, Nat.le_of_ble_eq_true rfl⟩ hl.1 (Nat.le_of_ble_eq_true rfl) dX7_wouldTotal_77 ⟨Nat.le_of_ble_eq_true rfl, Nat.le_of_ble_eq_true rfl⟩) hS (fun H locs (hW : GW z ad (GC z ad N X u17) H) hS => ?_)
      refine lv_iadd hx hb dX7_wouldTotal_80 ?_
      exact absurd h (by intro q; cases q)
    · replace h := ite_f h c8
      refine lv_aload_n hx hb dX7_wouldTotal_39 rfl (lv_at hl 1 rfl) ?_
      refine nb_get hx hb hT hK hown hW fl_X7_69 kr_0 (v := .ref (ad 10 1)) rfl dX7_wouldTotal_40 ?_
      refine lv_aload_n hx hb dX7_wouldTotal_43 rfl (lv_at hl 1 rfl) ?_
      refine nb_get hx hb hT hK hown hW fl_X7_17 kr_0 (v := .ref (ad 2 0)) rfl dX7_wouldTotal_44 ?_
      refine lv_aload_n hx hb dX7_wouldTotal_47 rfl (lv_at hl 1 rfl) ?_
      refine nb_get hx hb hT hK hown hW fl_X7_133 kr_0 (v := .int (u 1 0 0)) rfl dX7_wouldTotal_48 ?_
      obtain ⟨r18, u20, h19, h⟩ := sb_s h
      refine nb_cv (nb_runV (As := [.ref (ad 2 0), .int (u 1 0 0)]) (rest := []) hx hb hml hown hSW hS hW (c_X2_sleep l z ad N X u 1 (u 1 0 0) (by decide) h19) mf_X2_sleep lk_X7_251 (kr_10 (by decide)) rfl rfl ⟨rfl, rfl⟩ ⟨Nat.le_of_ble_eq_true rfl, Nat.le_of_ble_eq_true rfl⟩ hl.1 (Nat.le_of_ble_eq_true rfl) dX7_wouldTotal_51 ⟨Nat.le_of_ble_eq_true rfl, Nat.le_of_ble_eq_true rfl⟩) hS (fun H locs (hW : GW z ad (GC z ad N X u20) H) hS => ?_)
      obtain ⟨v21, ev21, h⟩ := nm_s h
      refine lv_iinc (v := v21) (lv' := [(2, .int v21), (0, .ref (ad 0 0)), (1, .int y1)]) hx hb dX7_wouldTotal_54 hl (k := 0) rfl (by rw [ev21]; rfl) (by decide) rfl (fun ls hl => ?_)
      refine lv_goto (tgt := 34) hx hb dX7_wouldTotal_57 (by decide) ?_
      exact hih34 _ _ _ _ _ _ (lv_sub hl [0, 1, 2] rfl) hW hS h
  have hL34 : ∀ (n : Nat), ∀ (y2 : Int32) (y1 : Int32) (u : St) (H : Heap) (locs : List Loc) (ls : Array Slot), lv_has ls 3 [(2, .int y2), (0, .ref (ad 0 0)), (1, .int y1)] → GW z ad (GC z ad N X u) H → va_S (zA z) s.heap H locs → f_X7_wouldTotal_L34 N n y2 y1 u = some (.error E9, u9) → WW H locs (F0 m 34 ls []) := by
    intro n
    induction n with
    | zero => intro y2 y1 u H locs ls hl hW hS h; exact absurd h (by intro q; cases q)
    | succ n ihn => intro y2 y1 u H locs ls hl hW hS h; exact hL34b (f_X7_wouldTotal_L34 N n) ihn y2 y1 u H locs ls hl hW hS h
  unfold f_X7_wouldTotal at h
  refine lv_iload_n hx hb dX7_wouldTotal_0 rfl (lv_at hl 1 rfl) ?_
  refine lv_iconst (v := 0) hx hb dX7_wouldTotal_1 (by decide) ?_
  refine lv_bipush (v := 60) hx hb dX7_wouldTotal_2 (by decide) ?_
  obtain ⟨r1, u3, h2, h⟩ := sb_s h
  refine nb_ci (nb_runS (As := [.int x1, .int 0, .int 60]) (rest := []) hx hb hml hown hSW hS hW (c_X7_isWithin l z ad N X u x1 0 60 h2) mf_X7_isWithin lk_X7_96 rfl ⟨rfl, rfl⟩ ⟨Nat.le_of_ble_eq_true rfl, Nat.le_of_ble_eq_true rfl⟩ hl.1 (Nat.le_of_ble_eq_true rfl) dX7_wouldTotal_4 ⟨Nat.le_of_ble_eq_true rfl, Nat.le_of_ble_eq_true rfl⟩) hS (fun H locs (hW : GW z ad (GC z ad N X u3) H) hS => ?_)
  refine lv_if_ne (tgt := 21) hx hb dX7_wouldTotal_7 (by decide) (fun c4 => ?_) (fun c4 => ?_)
  · replace h := ite_f h c4
    refine lv_aload_n hx hb dX7_wouldTotal_21 rfl (lv_at hl 0 rfl) ?_
    refine nb_get hx hb hT hK hown hW fl_X7_69 kr_0 (v := .ref (ad 10 1)) rfl dX7_wouldTotal_22 ?_
    refine lv_aload_n hx hb dX7_wouldTotal_25 rfl (lv_at hl 0 rfl) ?_
    refine nb_get hx hb hT hK hown hW fl_X7_37 kr_0 (v := .ref (ad 10 0)) rfl dX7_wouldTotal_26 ?_
    obtain ⟨r5, u7, h6, h⟩ := sb_s h
    refine nb_cv (nb_runV (As := [.ref (ad 10 0)]) (rest := []) hx hb hml hown hSW hS hW (c_X2_copyFrom l z ad N X u3 1 0 (by decide) (by decide) h6) mf_X2_copyFrom lk_X7_383 (kr_10 (by decide)) rfl rfl ⟨rfl, rfl⟩ ⟨Nat.le_of_ble_eq_true rfl, Nat.le_of_ble_eq_true rfl⟩ hl.1 (Nat.le_of_ble_eq_true rfl) dX7_wouldTotal_29 ⟨Nat.le_of_ble_eq_true rfl, Nat.le_of_ble_eq_true rfl⟩) hS (fun H locs (hW : GW z ad (GC z ad N X u7) H) hS => ?_)
    refine lv_iconst (v := 0) hx hb dX7_wouldTotal_32 (by decide) ?_
    refine lv_istore_n (lv' := [(2, .int 0), (0, .ref (ad 0 0)), (1, .int x1)]) hx hb dX7_wouldTotal_33 rfl hl (by decide) rfl (fun ls hl => ?_)
    exact hL34 1000000 _ _ _ _ _ _ (lv_sub hl [0, 1, 2] rfl) hW hS h
  · replace h := ite_t h c4
    obtain ⟨rfl, rfl⟩ : _ = E9 ∧ u3 = u9 := ⟨Except.error.inj (congrArg Prod.fst (Option.some.inj h)), congrArg Prod.snd (Option.some.inj h)⟩
    exact nb_throwSW (rest := []) hx hb hfl hSW hown th_X7_100_104 (List.mem_of_getElem? (i := 12) rfl) hW hS hml hl.1 dX7_wouldTotal_10 dX7_wouldTotal_13 dX7_wouldTotal_14 dX7_wouldTotal_17 dX7_wouldTotal_20 (fun x9 h9 => (ht x9 h9).elim) ⟨Nat.le_of_ble_eq_true rfl, Nat.le_of_ble_eq_true rfl, Nat.le_of_ble_eq_true rfl, Nat.le_of_ble_eq_true rfl⟩ hlocks ⟨rfl, rfl⟩
-- Panyard.bestOrder
set_option maxRecDepth 100000 in
set_option maxHeartbeats 4000000 in
theorem cx_X7_bestOrder (l : Launch) (z : Zt) (ad : Ad) (N : Nt) (X : Gt) (u : St) (hfl : l.stackTraces = false) {E9 : String} {u9 : St} (h : f_X7_bestOrder N u = some (.error E9, u9)) : MX l z yX7_bestOrder cX7_bestOrder 5 (some .int) { frames := 6, cells := 1, slots := 6, locals := 94 } [.ref (ad 0 0)] ad (GC z ad N X u) (QiF z) (GC z ad N X u9) E9 := by
  refine vx_ofW (cc := cX7_bestOrder) (maxL := 5) (ret := (some .int)) (by decide) rfl ?_
  intro p e s m args below meth c s₁ B hml ht hv
  obtain ⟨rfl, hSW, hW⟩ := hv
  have hx := B.exec; have hb := B.bytes; have hr := B.returns; have hlocks := B.notSynchronized
  have hown : s.vm.findClass RX7 = some m.cls := findClass_of_methodNamed B.named
  obtain ⟨hT, hK, hST, hB0⟩ := id hSW
  have hS : va_S (zA z) s.heap s.heap [] := va_S.rf
  have hl := lv_entry ([.ref (ad 0 0)]) (n := 5) (Nat.le_of_ble_eq_true rfl)
  rw [lg_entry_eq]
  generalize (lg_sl ([.ref (ad 0 0)]) ++ List.replicate (5 - (lg_sl ([.ref (ad 0 0)])).length) Slot.unset).toArray = ls at hl ⊢
  have hl : lv_has ls 5 [(0, .ref (ad 0 0))] := hl
  let WW : Heap → List Loc → JFrame → Prop := fun H locs g => W p l e (headSpec [Cond.code yX7_bestOrder cX7_bestOrder 5 (some .int)] { frames := 6, cells := 1, slots := 6, locals := 94 }).room s m [.ref (ad 0 0)].toArray below meth c H locs 0 0 (vx_MQ below (QiF z) (XX z ad (GC z ad N X u9) E9) [.ref (ad 0 0)].toArray s 1 6 (zA z)) g
  have hL56b : ∀ (ih56 : Int32 → Int32 → Int32 → St → Option (Except String Int32 × St)) (hih56 : ∀ (y4 : Int32) (y3 : Int32) (y2 : Int32) (u : St) (H : Heap) (locs : List Loc) (ls : Array Slot), lv_has ls 5 [(4, .int y4), (3, .int y3), (2, .int y2), (0, .ref (ad 0 0))] → GW z ad (GC z ad N X u) H → va_S (zA z) s.heap H locs → ih56 y4 y3 y2 u = some (.error E9, u9) → WW H locs (F0 m 56 ls [])), ∀ (y4 : Int32) (y3 : Int32) (y2 : Int32) (u : St) (H : Heap) (locs : List Loc) (ls : Array Slot), lv_has ls 5 [(4, .int y4), (3, .int y3), (2, .int y2), (0, .ref (ad 0 0))] → GW z ad (GC z ad N X u) H → va_S (zA z) s.heap H locs → f_X7_bestOrder_L56b N ih56 y4 y3 y2 u = some (.error E9, u9) → WW H locs (F0 m 56 ls []) := by
    intro ih56 hih56 y4 y3 y2 u H locs ls hl hW hS h
    change W p l e _ s m _ below meth c H locs 0 0 _ (F0 m 56 ls [])
    unfold f_X7_bestOrder_L56b at h
    refine lv_iload hx hb dX7_bestOrder_56 (lv_at hl 0 rfl) ?_
    refine lv_iload_n hx hb dX7_bestOrder_58 rfl (lv_at hl 2 rfl) ?_
    refine lv_icmp_ge (tgt := 101) hx hb dX7_bestOrder_59 (by decide) (fun c7 => ?_) (fun c7 => ?_)
    · replace h := ite_t h c7
      refine lv_aload_n hx hb dX7_bestOrder_101 rfl (lv_at hl 3 rfl) ?_
      obtain ⟨r8, u10, h09, h⟩ := sb_s h
      refine nb_ci (nb_runV (As := []) (rest := []) hx hb hml hown hSW hS hW (c_X7_tone l z ad N X u h09) mf_X7_tone lk_X7_359 kr_0 rfl rfl ⟨rfl, rfl⟩ ⟨Nat.le_of_ble_eq_true rfl, Nat.le_of_ble_eq_true rfl⟩ hl.1 (Nat.le_of_ble_eq_true rfl) dX7_bestOrder_102 ⟨Nat.le_of_ble_eq_true rfl, Nat.le_of_ble_eq_true rfl⟩) hS (fun H locs (hW : GW z ad (GC z ad N X u10) H) hS => ?_)
      refine lv_iload_n hx hb dX7_bestOrder_105 rfl (lv_at hl 1 rfl) ?_
      refine lv_iadd hx hb dX7_bestOrder_106 ?_
      exact absurd h (by intro q; cases q)
    · replace h := ite_f h c7
      refine lv_aload_n hx hb dX7_bestOrder_62 rfl (lv_at hl 3 rfl) ?_
      refine nb_get hx hb hT hK hown hW fl_X7_66 kr_0 (v := .ref (ad 8 1)) rfl dX7_bestOrder_63 ?_
      refine lv_aload_n hx hb dX7_bestOrder_66 rfl (lv_at hl 3 rfl) ?_
      refine nb_get hx hb hT hK hown hW fl_X7_30 kr_0 (v := .ref (ad 8 0)) rfl dX7_bestOrder_67 ?_
      obtain ⟨r11, u13, h12, h⟩ := sb_s h
      refine nb_cv (nb_runV (As := [.ref (ad 8 0)]) (rest := []) hx hb hml hown hSW hS hW (c_X0_copyFrom l z ad N X u 1 0 (by decide) (by decide) h12) mf_X0_copyFrom lk_X7_391 (kr_8 (by decide)) rfl rfl ⟨rfl, rfl⟩ ⟨Nat.le_of_ble_eq_true rfl, Nat.le_of_ble_eq_true rfl⟩ hl.1 (Nat.le_of_ble_eq_true rfl) dX7_bestOrder_70 ⟨Nat.le_of_ble_eq_true rfl, Nat.le_of_ble_eq_true rfl⟩) hS (fun H locs (hW : GW z ad (GC z ad N X u13) H) hS => ?_)
      refine lv_aload_n hx hb dX7_bestOrder_73 rfl (lv_at hl 3 rfl) ?_
      refine nb_get hx hb hT hK hown hW fl_X7_66 kr_0 (v := .ref (ad 8 1)) rfl dX7_bestOrder_74 ?_
      refine lv_iload hx hb dX7_bestOrder_77 (lv_at hl 0 rfl) ?_
      obtain ⟨r14, u16, h15, h⟩ := sb_s h
      refine nb_cv (nb_runV (As := [.int y4]) (rest := []) hx hb hml hown hSW hS hW (c_X0_shuffle l z ad N X u13 1 y4 (by decide) h15) mf_X0_shuffle lk_X7_394 (kr_8 (by decide)) rfl rfl ⟨rfl, rfl⟩ ⟨Nat.le_of_ble_eq_true rfl, Nat.le_of_ble_eq_true rfl⟩ hl.1 (Nat.le_of_ble_eq_true rfl) dX7_bestOrder_79 ⟨Nat.le_of_ble_eq_true rfl, Nat.le_of_ble_eq_true rfl⟩) hS (fun H locs (hW : GW z ad (GC z ad N X u16) H) hS => ?_)
      refine lv_iload_n hx hb dX7_bestOrder_82 rfl (lv_at hl 1 rfl) ?_
      refine lv_aload_n hx hb dX7_bestOrder_83 rfl (lv_at hl 3 rfl) ?_
      refine lv_aload_n hx hb dX7_bestOrder_84 rfl (lv_at hl 3 rfl) ?_
      refine nb_get hx hb hT hK hown hW fl_X7_66 kr_0 (v := .ref (ad 8 1)) rfl dX7_bestOrder_85 ?_
      obtain ⟨r17, u19, h18, h⟩ := sb_s h
      refine nb_ci (nb_runV (As := [.ref (ad 8 1)]) (rest := [.int y3]) hx hb hml hown hSW hS hW (c_X7_heard l z ad N X u16 1 (by decide) h18) mf_X7_heard lk_X7_386 kr_0 rfl rfl ⟨rfl, rfl⟩ ⟨Nat.le_of_ble_eq_true rfl, Nat.le_of_ble_eq_true rfl⟩ hl.1 (Nat.le_of_ble_eq_true rfl) dX7_bestOrder_88 ⟨Nat.le_of_ble_eq_true rfl, Nat.le_of_ble_eq_true rfl⟩) hS (fun H locs (hW : GW z ad (GC z ad N X u19) H) hS => ?_)
      refine nb_mmax hx hb hml hl.1 hown hT lm_X7_397 mf_Math_max ⟨Nat.le_of_ble_eq_true rfl, Nat.le_of_ble_eq_true rfl⟩ ⟨Nat.le_of_ble_eq_true rfl, Nat.le_of_ble_eq_true rfl⟩ dX7_bestOrder_91 ?_
      refine lv_topi (fun v20 ev20 => ?_)
      replace h := nm_at ev20 h
      refine lv_istore_n (lv' := [(3, .int v20), (4, .int y4), (2, .int y2), (0, .ref (ad 0 0))]) hx hb dX7_bestOrder_94 rfl hl (by decide) rfl (fun ls hl => ?_)
      obtain ⟨v21, ev21, h⟩ := nm_s h
      refine lv_iinc (v := v21) (lv' := [(4, .int v21), (3, .int v20), (2, .int y2), (0, .ref (ad 0 0))]) hx hb dX7_bestOrder_95 hl (k := 1) rfl (by rw [ev21]; rfl) (by decide) rfl (fun ls hl => ?_)
      refine lv_goto (tgt := 56) hx hb dX7_bestOrder_98 (by decide) ?_
      exact hih56 _ _ _ _ _ _ _ (lv_sub hl [0, 1, 2, 3] rfl) hW hS h
  have hL56 : ∀ (n : Nat), ∀ (y4 : Int32) (y3 : Int32) (y2 : Int32) (u : St) (H : Heap) (locs : List Loc) (ls : Array Slot), lv_has ls 5 [(4, .int y4), (3, .int y3), (2, .int y2), (0, .ref (ad 0 0))] → GW z ad (GC z ad N X u) H → va_S (zA z) s.heap H locs → f_X7_bestOrder_L56 N n y4 y3 y2 u = some (.error E9, u9) → WW H locs (F0 m 56 ls []) := by
    intro n
    induction n with
    | zero => intro y4 y3 y2 u H locs ls hl hW hS h; exact absurd h (by intro q; cases q)
    | succ n ihn => intro y4 y3 y2 u H locs ls hl hW hS h; exact hL56b (f_X7_bestOrder_L56 N n) ihn y4 y3 y2 u H locs ls hl hW hS h
  have hL28b : ∀ (ih28 : Int32 → Int32 → Int32 → St → Option (Except String Int32 × St)) (hih28 : ∀ (y3 : Int32) (y2 : Int32) (y1 : Int32) (u : St) (H : Heap) (locs : List Loc) (ls : Array Slot), lv_has ls 5 [(3, .int y3), (2, .int y2), (1, .int y1), (0, .ref (ad 0 0))] → GW z ad (GC z ad N X u) H → va_S (zA z) s.heap H locs → ih28 y3 y2 y1 u = some (.error E9, u9) → WW H locs (F0 m 28 ls [])), ∀ (y3 : Int32) (y2 : Int32) (y1 : Int32) (u : St) (H : Heap) (locs : List Loc) (ls : Array Slot), lv_has ls 5 [(3, .int y3), (2, .int y2), (1, .int y1), (0, .ref (ad 0 0))] → GW z ad (GC z ad N X u) H → va_S (zA z) s.heap H locs → f_X7_bestOrder_L28b N ih28 y3 y2 y1 u = some (.error E9, u9) → WW H locs (F0 m 28 ls []) := by
    intro ih28 hih28 y3 y2 y1 u H locs ls hl hW hS h
    change W p l e _ s m _ below meth c H locs 0 0 _ (F0 m 28 ls [])
    unfold f_X7_bestOrder_L28b at h
    refine lv_iload_n hx hb dX7_bestOrder_28 rfl (lv_at hl 0 rfl) ?_
    refine lv_iload_n hx hb dX7_bestOrder_29 rfl (lv_at hl 2 rfl) ?_
    refine lv_icmp_gt (tgt := 43) hx hb dX7_bestOrder_30 (by decide) (fun c3 => ?_) (fun c3 => ?_)
    · replace h := ite_t h c3
      refine lv_aload_n hx hb dX7_bestOrder_43 rfl (lv_at hl 3 rfl) ?_
      refine lv_aload_n hx hb dX7_bestOrder_44 rfl (lv_at hl 3 rfl) ?_
      refine nb_get hx hb hT hK hown hW fl_X7_37 kr_0 (v := .ref (ad 10 0)) rfl dX7_bestOrder_45 ?_
      obtain ⟨r4, u6, h5, h⟩ := sb_s h
      refine nb_cv (nb_runV (As := [.ref (ad 10 0)]) (rest := []) hx hb hml hown hSW hS hW (c_X7_weigh l z ad N X u 0 (by decide) h5) mf_X7_weigh lk_X7_345 kr_0 rfl rfl ⟨rfl, rfl⟩ ⟨Nat.le_of_ble_eq_true rfl, Nat.le_of_ble_eq_true rfl⟩ hl.1 (Nat.le_of_ble_eq_true rfl) dX7_bestOrder_48 ⟨Nat.le_of_ble_eq_true rfl, Nat.le_of_ble_eq_true rfl⟩) hS (fun H locs (hW : GW z ad (GC z ad N X u6) H) hS => ?_)
      refine lv_iconst (v := 0) hx hb dX7_bestOrder_51 (by decide) ?_
      refine lv_istore_n (lv' := [(3, .int 0), (2, .int y2), (1, .int y1), (0, .ref (ad 0 0))]) hx hb dX7_bestOrder_52 rfl hl (by decide) rfl (fun ls hl => ?_)
      refine lv_iconst (v := 0) hx hb dX7_bestOrder_53 (by decide) ?_
      refine lv_istore (lv' := [(4, .int 0), (3, .int 0), (2, .int y2), (1, .int y1), (0, .ref (ad 0 0))]) hx hb dX7_bestOrder_54 hl (by decide) rfl (fun ls hl => ?_)
      exact hL56 1000000 _ _ _ _ _ _ _ (lv_sub hl [0, 1, 2, 4] rfl) hW hS h
    · replace h := ite_f h c3
      refine lv_iload_n hx hb dX7_bestOrder_33 rfl (lv_at hl 1 rfl) ?_
      refine lv_iload_n hx hb dX7_bestOrder_34 rfl (lv_at hl 0 rfl) ?_
      refine lv_imul hx hb dX7_bestOrder_35 ?_
      refine lv_topi (fun v22 ev22 => ?_)
      replace h := nm_at ev22 h
      refine lv_istore_n (lv' := [(2, .int v22), (3, .int y3), (1, .int y1), (0, .ref (ad 0 0))]) hx hb dX7_bestOrder_36 rfl hl (by decide) rfl (fun ls hl => ?_)
      obtain ⟨v23, ev23, h⟩ := nm_s h
      refine lv_iinc (v := v23) (lv' := [(3, .int v23), (2, .int v22), (1, .int y1), (0, .ref (ad 0 0))]) hx hb dX7_bestOrder_37 hl (k := 1) rfl (by rw [ev23]; rfl) (by decide) rfl (fun ls hl => ?_)
      refine lv_goto (tgt := 28) hx hb dX7_bestOrder_40 (by decide) ?_
      exact hih28 _ _ _ _ _ _ _ (lv_sub hl [0, 1, 2, 3] rfl) hW hS h
  have hL28 : ∀ (n : Nat), ∀ (y3 : Int32) (y2 : Int32) (y1 : Int32) (u : St) (H : Heap) (locs : List Loc) (ls : Array Slot), lv_has ls 5 [(3, .int y3), (2, .int y2), (1, .int y1), (0, .ref (ad 0 0))] → GW z ad (GC z ad N X u) H → va_S (zA z) s.heap H locs → f_X7_bestOrder_L28 N n y3 y2 y1 u = some (.error E9, u9) → WW H locs (F0 m 28 ls []) := by
    intro n
    induction n with
    | zero => intro y3 y2 y1 u H locs ls hl hW hS h; exact absurd h (by intro q; cases q)
    | succ n ihn => intro y3 y2 y1 u H locs ls hl hW hS h; exact hL28b (f_X7_bestOrder_L28 N n) ihn y3 y2 y1 u H locs ls hl hW hS h
  unfold f_X7_bestOrder at h
  refine lv_aload_n hx hb dX7_bestOrder_0 rfl (lv_at hl 0 rfl) ?_
  refine nb_get hx hb hT hK hown hW fl_X7_30 kr_0 (v := .ref (ad 8 0)) rfl dX7_bestOrder_1 ?_
  refine nb_get hx hb hT hK hown hW fl_X7_160 (kr_8 (by decide)) (v := .int (u 43 0 0)) rfl dX7_bestOrder_4 ?_
  refine lv_topi (fun v1 ev1 => ?_)
  replace h := nm_at ev1 h
  refine lv_istore_n (lv' := [(1, .int v1), (0, .ref (ad 0 0))]) hx hb dX7_bestOrder_7 rfl hl (by decide) rfl (fun ls hl => ?_)
  refine lv_iload_n hx hb dX7_bestOrder_8 rfl (lv_at hl 0 rfl) ?_
  refine lv_iconst (v := 5) hx hb dX7_bestOrder_9 (by decide) ?_
  refine lv_icmp_le (tgt := 24) hx hb dX7_bestOrder_10 (by decide) (fun c2 => ?_) (fun c2 => ?_)
  · replace h := ite_t h c2
    refine lv_iconst (v := 1) hx hb dX7_bestOrder_24 (by decide) ?_
    refine lv_istore_n (lv' := [(2, .int 1), (1, .int v1), (0, .ref (ad 0 0))]) hx hb dX7_bestOrder_25 rfl hl (by decide) rfl (fun ls hl => ?_)
    refine lv_iconst (v := 2) hx hb dX7_bestOrder_26 (by decide) ?_
    refine lv_istore_n (lv' := [(3, .int 2), (2, .int 1), (1, .int v1), (0, .ref (ad 0 0))]) hx hb dX7_bestOrder_27 rfl hl (by decide) rfl (fun ls hl => ?_)
    exact hL28 1000000 _ _ _ _ _ _ _ (lv_sub hl [0, 1, 2, 3] rfl) hW hS h
  · replace h := ite_f h c2
    obtain ⟨rfl, rfl⟩ : _ = E9 ∧ u = u9 := ⟨Except.error.inj (congrArg Prod.fst (Option.some.inj h)), congrArg Prod.snd (Option.some.inj h)⟩
    exact nb_throwSW (rest := []) hx hb hfl hSW hown th_X7_83_87 (List.mem_of_getElem? (i := 13) rfl) hW hS hml hl.1 dX7_bestOrder_13 dX7_bestOrder_16 dX7_bestOrder_17 dX7_bestOrder_20 dX7_bestOrder_23 (fun x9 h9 => (ht x9 h9).elim) ⟨Nat.le_of_ble_eq_true rfl, Nat.le_of_ble_eq_true rfl, Nat.le_of_ble_eq_true rfl, Nat.le_of_ble_eq_true rfl⟩ hlocks ⟨rfl, rfl⟩
-- Panyard.bestTeach
set_option maxRecDepth 100000 in
set_option maxHeartbeats 4000000 in
theorem cx_X7_bestTeach (l : Launch) (z : Zt) (ad : Ad) (N : Nt) (X : Gt) (u : St) (x1 : Int32) (x2 : Int32) (hfl : l.stackTraces = false) {E9 : String} {u9 : St} (h : f_X7_bestTeach N u x1 x2 = some (.error E9, u9)) : MX l z yX7_bestTeach cX7_bestTeach 7 (some .int) { frames := 7, cells := 1, slots := 6, locals := 113 } [.ref (ad 0 0), .int x1, .int x2] ad (GC z ad N X u) (QiF z) (GC z ad N X u9) E9 := by
  refine vx_ofW (cc := cX7_bestTeach) (maxL := 7) (ret := (some .int)) (by decide) rfl ?_
  intro p e s m args below meth c s₁ B hml ht hv
  obtain ⟨rfl, hSW, hW⟩ := hv
  have hx := B.exec; have hb := B.bytes; have hr := B.returns; have hlocks := B.notSynchronized
  have hown : s.vm.findClass RX7 = some m.cls := findClass_of_methodNamed B.named
  obtain ⟨hT, hK, hST, hB0⟩ := id hSW
  have hS : va_S (zA z) s.heap s.heap [] := va_S.rf
  have hl := lv_entry ([.ref (ad 0 0), .int x1, .int x2]) (n := 7) (Nat.le_of_ble_eq_true rfl)
  rw [lg_entry_eq]
  generalize (lg_sl ([.ref (ad 0 0), .int x1, .int x2]) ++ List.replicate (7 - (lg_sl ([.ref (ad 0 0), .int x1, .int x2])).length) Slot.unset).toArray = ls at hl ⊢
  have hl : lv_has ls 7 [(0, .ref (ad 0 0)), (1, .int x1), (2, .int x2)] := hl
  let WW : Heap → List Loc → JFrame → Prop := fun H locs g => W p l e (headSpec [Cond.code yX7_bestTeach cX7_bestTeach 7 (some .int)] { frames := 7, cells := 1, slots := 6, locals := 113 }).room s m [.ref (ad 0 0), .int x1, .int x2].toArray below meth c H locs 0 0 (vx_MQ below (QiF z) (XX z ad (GC z ad N X u9) E9) [.ref (ad 0 0), .int x1, .int x2].toArray s 1 6 (zA z)) g
  have hL36b : ∀ (ih36 : Int32 → Int32 → Int32 → Int32 → Int32 → St → Option (Except String Int32 × St)) (hih36 : ∀ (y5 : Int32) (y4 : Int32) (y3 : Int32) (y1 : Int32) (y2 : Int32) (u : St) (H : Heap) (locs : List Loc) (ls : Array Slot), lv_has ls 7 [(5, .int y5), (4, .int y4), (3, .int y3), (0, .ref (ad 0 0)), (1, .int y1), (2, .int y2)] → GW z ad (GC z ad N X u) H → va_S (zA z) s.heap H locs → ih36 y5 y4 y3 y1 y2 u = some (.error E9, u9) → WW H locs (F0 m 36 ls [])), ∀ (y5 : Int32) (y4 : Int32) (y3 : Int32) (y1 : Int32) (y2 : Int32) (u : St) (H : Heap) (locs : List Loc) (ls : Array Slot), lv_has ls 7 [(5, .int y5), (4, .int y4), (3, .int y3), (0, .ref (ad 0 0)), (1, .int y1), (2, .int y2)] → GW z ad (GC z ad N X u) H → va_S (zA z) s.heap H locs → f_X7_bestTeach_L36b N ih36 y5 y4 y3 y1 y2 u = some (.error E9, u9) → WW H locs (F0 m 36 ls []) := by
    intro ih36 hih36 y5 y4 y3 y1 y2 u H locs ls hl hW hS h
    change W p l e _ s m _ below meth c H locs 0 0 _ (F0 m 36 ls [])
    unfold f_X7_bestTeach_L36b at h
    refine lv_iload hx hb dX7_bestTeach_36 (lv_at hl 0 rfl) ?_
    refine lv_aload_n hx hb dX7_bestTeach_38 rfl (lv_at hl 3 rfl) ?_
    refine nb_get hx hb hT hK hown hW fl_X7_133 kr_0 (v := .int (u 1 0 0)) rfl dX7_bestTeach_39 ?_
    refine lv_icmp_ge (tgt := 97) hx hb dX7_bestTeach_42 (by decide) (fun c13 => ?_) (fun c13 => ?_)
    · replace h := ite_t h c13
      refine lv_iload_n hx hb dX7_bestTeach_97 rfl (lv_at hl 2 rfl) ?_
      exact absurd h (by intro q; cases q)
    · replace h := ite_f h c13
      refine lv_aload_n hx hb dX7_bestTeach_45 rfl (lv_at hl 3 rfl) ?_
      refine nb_get hx hb hT hK hown hW fl_X7_17 kr_0 (v := .ref (ad 2 0)) rfl dX7_bestTeach_46 ?_
      refine lv_iload hx hb dX7_bestTeach_49 (lv_at hl 0 rfl) ?_
      obtain ⟨g14, h⟩ := gd_s h
      obtain ⟨g15, h⟩ := gd_s h
      refine nb_aald hx hb hK hW 3 kr_2 rfl rfl (inb_in g14) (a := ad 14 (ix y5)) (qrow_at g15) dX7_bestTeach_51 ?_
      refine nb_get hx hb hT hK hown hW fl_X7_208 (kr_14 g15) (v := .int (u 20 (ix y5) 0)) rfl dX7_bestTeach_52 ?_
      refine lv_aload_n hx hb dX7_bestTeach_55 rfl (lv_at hl 3 rfl) ?_
      refine nb_get hx hb hT hK hown hW fl_X7_23 kr_0 (v := .ref (ad 3 0)) rfl dX7_bestTeach_56 ?_
      refine lv_iload_n hx hb dX7_bestTeach_59 rfl (lv_at hl 4 rfl) ?_
      obtain ⟨g16, h⟩ := gd_s h
      obtain ⟨g17, h⟩ := gd_s h
      refine nb_aald hx hb hK hW 4 kr_3 rfl rfl (inb_in g16) (a := ad 15 (ix y1)) (qrow_at g17) dX7_bestTeach_60 ?_
      refine nb_get hx hb hT hK hown hW fl_X7_190 (kr_15 g17) (v := .int (u 30 (ix y1) 0)) rfl dX7_bestTeach_61 ?_
      refine lv_icmp_ne (tgt := 91) hx hb dX7_bestTeach_64 (by decide) (fun c18 => ?_) (fun c18 => ?_)
      · replace h := ite_f h c18
        obtain ⟨v19, ev19, h⟩ := nm_s h
        refine lv_iinc (v := v19) (lv' := [(5, .int v19), (4, .int y4), (3, .int y3), (0, .ref (ad 0 0)), (1, .int y1), (2, .int y2)]) hx hb dX7_bestTeach_91 hl (k := 0) rfl (by rw [ev19]; rfl) (by decide) rfl (fun ls hl => ?_)
        refine lv_goto (tgt := 36) hx hb dX7_bestTeach_94 (by decide) ?_
        exact hih36 _ _ _ _ _ _ _ _ _ (lv_sub hl [0, 1, 2, 3, 4, 5] rfl) hW hS h
      · replace h := ite_t h c18
        refine lv_aload_n hx hb dX7_bestTeach_67 rfl (lv_at hl 3 rfl) ?_
        refine lv_iload_n hx hb dX7_bestTeach_68 rfl (lv_at hl 4 rfl) ?_
        refine lv_iload hx hb dX7_bestTeach_69 (lv_at hl 0 rfl) ?_
        refine lv_iload_n hx hb dX7_bestTeach_71 rfl (lv_at hl 5 rfl) ?_
        obtain ⟨r20, u22, h21, h⟩ := sb_s h
        refine nb_ci (nb_runV (As := [.int y1, .int y5, .int y2]) (rest := []) hx hb hml hown hSW hS hW (c_X7_heardIfTaught l z ad N X u y1 y5 y2 h21) mf_X7_heardIfTaught lk_X7_402 kr_0 rfl rfl ⟨rfl, rfl⟩ ⟨Nat.le_of_ble_eq_true rfl, Nat.le_of_ble_eq_true rfl⟩ hl.1 (Nat.le_of_ble_eq_true rfl) dX7_bestTeach_72 ⟨Nat.le_of_ble_eq_true rfl, Nat.le_of_ble_eq_true rfl⟩) hS (fun H locs (hW : GW z ad (GC z ad N X u22) H) hS => ?_)
        refine lv_istore (lv' := [(6, .int r20), (5, .int y5), (4, .int y4), (3, .int y3), (0, .ref (ad 0 0)), (1, .int y1), (2, .int y2)]) hx hb dX7_bestTeach_75 hl (by decide) rfl (fun ls hl => ?_)
        refine lv_iload hx hb dX7_bestTeach_77 (lv_at hl 0 rfl) ?_
        refine lv_iload hx hb dX7_bestTeach_79 (lv_at hl 2 rfl) ?_
        refine lv_icmp_le (tgt := 91) hx hb dX7_bestTeach_81 (by decide) (fun c23 => ?_) (fun c23 => ?_)
        · replace h := ite_t h c23
          obtain ⟨v24, ev24, h⟩ := nm_s h
          refine lv_iinc (v := v24) (lv' := [(5, .int v24), (6, .int r20), (4, .int y4), (3, .int y3), (0, .ref (ad 0 0)), (1, .int y1), (2, .int y2)]) hx hb dX7_bestTeach_91 hl (k := 1) rfl (by rw [ev24]; rfl) (by decide) rfl (fun ls hl => ?_)
          refine lv_goto (tgt := 36) hx hb dX7_bestTeach_94 (by decide) ?_
          exact hih36 _ _ _ _ _ _ _ _ _ (lv_sub hl [0, 2, 3, 4, 5, 6] rfl) hW hS h
        · replace h := ite_f h c23
          refine lv_iload hx hb dX7_bestTeach_84 (lv_at hl 1 rfl) ?_
          refine lv_istore_n (lv' := [(3, .int y5), (6, .int r20), (5, .int y5), (4, .int y4), (0, .ref (ad 0 0)), (1, .int y1), (2, .int y2)]) hx hb dX7_bestTeach_86 rfl hl (by decide) rfl (fun ls hl => ?_)
          refine lv_iload hx hb dX7_bestTeach_87 (lv_at hl 1 rfl) ?_
          refine lv_istore (lv' := [(4, .int r20), (3, .int y5), (6, .int r20), (5, .int y5), (0, .ref (ad 0 0)), (1, .int y1), (2, .int y2)]) hx hb dX7_bestTeach_89 hl (by decide) rfl (fun ls hl => ?_)
          obtain ⟨v25, ev25, h⟩ := nm_s h
          refine lv_iinc (v := v25) (lv' := [(5, .int v25), (4, .int r20), (3, .int y5), (6, .int r20), (0, .ref (ad 0 0)), (1, .int y1), (2, .int y2)]) hx hb dX7_bestTeach_91 hl (k := 3) rfl (by rw [ev25]; rfl) (by decide) rfl (fun ls hl => ?_)
          refine lv_goto (tgt := 36) hx hb dX7_bestTeach_94 (by decide) ?_
          exact hih36 _ _ _ _ _ _ _ _ _ (lv_sub hl [0, 1, 2, 4, 5, 6] rfl) hW hS h
  have hL36 : ∀ (n : Nat), ∀ (y5 : Int32) (y4 : Int32) (y3 : Int32) (y1 : Int32) (y2 : Int32) (u : St) (H : Heap) (locs : List Loc) (ls : Array Slot), lv_has ls 7 [(5, .int y5), (4, .int y4), (3, .int y3), (0, .ref (ad 0 0)), (1, .int y1), (2, .int y2)] → GW z ad (GC z ad N X u) H → va_S (zA z) s.heap H locs → f_X7_bestTeach_L36 N n y5 y4 y3 y1 y2 u = some (.error E9, u9) → WW H locs (F0 m 36 ls []) := by
    intro n
    induction n with
    | zero => intro y5 y4 y3 y1 y2 u H locs ls hl hW hS h; exact absurd h (by intro q; cases q)
    | succ n ihn => intro y5 y4 y3 y1 y2 u H locs ls hl hW hS h; exact hL36b (f_X7_bestTeach_L36 N n) ihn y5 y4 y3 y1 y2 u H locs ls hl hW hS h
  unfold f_X7_bestTeach at h
  refine lv_aload_n hx hb dX7_bestTeach_0 rfl (lv_at hl 0 rfl) ?_
  refine lv_iload_n hx hb dX7_bestTeach_1 rfl (lv_at hl 1 rfl) ?_
  rcases xb_e h with ⟨r1, u3, h2, h⟩ | h
  rotate_left
  · exact nx_cv (nx_runV (As := [.int x1]) (rest := []) hx hb hml hown hSW hS hW (cx_X7_requirePlayer l z ad N X u x1 hfl h) mf_X7_requirePlayer (List.mem_of_getElem? (i := 555) (by decide +kernel)) kr_0 rfl rfl ⟨rfl, rfl⟩ ⟨Nat.le_of_ble_eq_true rfl, Nat.le_of_ble_eq_true rfl⟩ hl.1 (Nat.le_of_ble_eq_true rfl) dX7_bestTeach_2 ⟨Nat.le_of_ble_eq_true rfl, Nat.le_of_ble_eq_true rfl⟩) hS (fun ce9 q9 H locs hce hcv hcc hW hS => nx_out (fun x9 h9 => (ht x9 h9).elim) hlocks hce hcv hcc hW hS ⟨Nat.le_of_ble_eq_true rfl, Nat.le_of_ble_eq_true rfl⟩)
  refine nb_cv (nb_runV (As := [.int x1]) (rest := []) hx hb hml hown hSW hS hW (c_X7_requirePlayer l z ad N X u x1 h2) mf_X7_requirePlayer lk_X7_184 kr_0 rfl rfl ⟨rfl, rfl⟩ ⟨Nat.le_of_ble_eq_true rfl, Nat.le_of_ble_eq_true rfl⟩ hl.1 (Nat.le_of_ble_eq_true rfl) dX7_bestTeach_2 ⟨Nat.le_of_ble_eq_true rfl, Nat.le_of_ble_eq_true rfl⟩) hS (fun H locs (hW : GW z ad (GC z ad N X u3) H) hS => ?_)
  refine lv_iload_n hx hb dX7_bestTeach_5 rfl (lv_at hl 2 rfl) ?_
  rcases xb_e h with ⟨r4, u6, h5, h⟩ | h
  rotate_left
  · exact nx_cv (nx_runS (As := [.int x2]) (rest := []) hx hb hml hown hSW hS hW (cx_X7_requireLesson l z ad N X u3 x2 hfl h) mf_X7_requireLesson (List.mem_of_getElem? (i := 573) (by decide +kernel)) rfl ⟨rfl, rfl⟩ ⟨Nat.le_of_ble_eq_true rfl, Nat.le_of_ble_eq_true rfl⟩ hl.1 (Nat.le_of_ble_eq_true rfl) dX7_bestTeach_6 ⟨Nat.le_of_ble_eq_true rfl, Nat.le_of_ble_eq_true rfl⟩) hS (fun ce9 q9 H locs hce hcv hcc hW hS => nx_out (fun x9 h9 => (ht x9 h9).elim) hlocks hce hcv hcc hW hS ⟨Nat.le_of_ble_eq_true rfl, Nat.le_of_ble_eq_true rfl⟩)
  refine nb_cv (nb_runS (As := [.int x2]) (rest := []) hx hb hml hown hSW hS hW (c_X7_requireLesson l z ad N X u3 x2 h5) mf_X7_requireLesson lk_X7_205 rfl ⟨rfl, rfl⟩ ⟨Nat.le_of_ble_eq_true rfl, Nat.le_of_ble_eq_true rfl⟩ hl.1 (Nat.le_of_ble_eq_true rfl) dX7_bestTeach_6 ⟨Nat.le_of_ble_eq_true rfl, Nat.le_of_ble_eq_true rfl⟩) hS (fun H locs (hW : GW z ad (GC z ad N X u6) H) hS => ?_)
  refine lv_aload_n hx hb dX7_bestTeach_9 rfl (lv_at hl 0 rfl) ?_
  refine lv_aload_n hx hb dX7_bestTeach_10 rfl (lv_at hl 0 rfl) ?_
  refine nb_get hx hb hT hK hown hW fl_X7_37 kr_0 (v := .ref (ad 10 0)) rfl dX7_bestTeach_11 ?_
  obtain ⟨r7, u09, h8, h⟩ := sb_s h
  refine nb_cv (nb_runV (As := [.ref (ad 10 0)]) (rest := []) hx hb hml hown hSW hS hW (c_X7_weigh l z ad N X u6 0 (by decide) h8) mf_X7_weigh lk_X7_345 kr_0 rfl rfl ⟨rfl, rfl⟩ ⟨Nat.le_of_ble_eq_true rfl, Nat.le_of_ble_eq_true rfl⟩ hl.1 (Nat.le_of_ble_eq_true rfl) dX7_bestTeach_14 ⟨Nat.le_of_ble_eq_true rfl, Nat.le_of_ble_eq_true rfl⟩) hS (fun H locs (hW : GW z ad (GC z ad N X u09) H) hS => ?_)
  refine lv_aload_n hx hb dX7_bestTeach_17 rfl (lv_at hl 0 rfl) ?_
  refine nb_get hx hb hT hK hown hW fl_X7_69 kr_0 (v := .ref (ad 10 1)) rfl dX7_bestTeach_18 ?_
  refine lv_aload_n hx hb dX7_bestTeach_21 rfl (lv_at hl 0 rfl) ?_
  refine nb_get hx hb hT hK hown hW fl_X7_37 kr_0 (v := .ref (ad 10 0)) rfl dX7_bestTeach_22 ?_
  obtain ⟨r10, u12, h11, h⟩ := sb_s h
  refine nb_cv (nb_runV (As := [.ref (ad 10 0)]) (rest := []) hx hb hml hown hSW hS hW (c_X2_copyFrom l z ad N X u09 1 0 (by decide) (by decide) h11) mf_X2_copyFrom lk_X7_383 (kr_10 (by decide)) rfl rfl ⟨rfl, rfl⟩ ⟨Nat.le_of_ble_eq_true rfl, Nat.le_of_ble_eq_true rfl⟩ hl.1 (Nat.le_of_ble_eq_true rfl) dX7_bestTeach_25 ⟨Nat.le_of_ble_eq_true rfl, Nat.le_of_ble_eq_true rfl⟩) hS (fun H locs (hW : GW z ad (GC z ad N X u12) H) hS => ?_)
  refine lv_iconst (v := (-1)) hx hb dX7_bestTeach_28 (by decide) ?_
  refine lv_istore_n (lv' := [(3, .int (-1)), (0, .ref (ad 0 0)), (1, .int x1), (2, .int x2)]) hx hb dX7_bestTeach_29 rfl hl (by decide) rfl (fun ls hl => ?_)
  refine lv_iconst (v := (-1)) hx hb dX7_bestTeach_30 (by decide) ?_
  refine lv_istore (lv' := [(4, .int (-1)), (3, .int (-1)), (0, .ref (ad 0 0)), (1, .int x1), (2, .int x2)]) hx hb dX7_bestTeach_31 hl (by decide) rfl (fun ls hl => ?_)
  refine lv_iconst (v := 0) hx hb dX7_bestTeach_33 (by decide) ?_
  refine lv_istore (lv' := [(5, .int 0), (4, .int (-1)), (3, .int (-1)), (0, .ref (ad 0 0)), (1, .int x1), (2, .int x2)]) hx hb dX7_bestTeach_34 hl (by decide) rfl (fun ls hl => ?_)
  exact hL36 1000000 _ _ _ _ _ _ _ _ _ (lv_sub hl [0, 1, 2, 3, 4, 5] rfl) hW hS h
-- Panyard.blowsFor
set_option maxRecDepth 100000 in
set_option maxHeartbeats 4000000 in
theorem cx_X7_blowsFor (l : Launch) (z : Zt) (ad : Ad) (N : Nt) (X : Gt) (u : St) (x1 : Int32) (hfl : l.stackTraces = false) {E9 : String} {u9 : St} (h : f_X7_blowsFor N u x1 = some (.error E9, u9)) : MX l z yX7_blowsFor cX7_blowsFor 3 (some .int) { frames := 7, cells := 1, slots := 6, locals := 110 } [.ref (ad 0 0), .int x1] ad (GC z ad N X u) (QiF z) (GC z ad N X u9) E9 := by
  refine vx_ofW (cc := cX7_blowsFor) (maxL := 3) (ret := (some .int)) (by decide) rfl ?_
  intro p e s m args below meth c s₁ B hml ht hv
  obtain ⟨rfl, hSW, hW⟩ := hv
  have hx := B.exec; have hb := B.bytes; have hr := B.returns; have hlocks := B.notSynchronized
  have hown : s.vm.findClass RX7 = some m.cls := findClass_of_methodNamed B.named
  obtain ⟨hT, hK, hST, hB0⟩ := id hSW
  have hS : va_S (zA z) s.heap s.heap [] := va_S.rf
  have hl := lv_entry ([.ref (ad 0 0), .int x1]) (n := 3) (Nat.le_of_ble_eq_true rfl)
  rw [lg_entry_eq]
  generalize (lg_sl ([.ref (ad 0 0), .int x1]) ++ List.replicate (3 - (lg_sl ([.ref (ad 0 0), .int x1])).length) Slot.unset).toArray = ls at hl ⊢
  have hl : lv_has ls 3 [(0, .ref (ad 0 0)), (1, .int x1)] := hl
  unfold f_X7_blowsFor at h
  refine lv_aload_n hx hb dX7_blowsFor_0 rfl (lv_at hl 0 rfl) ?_
  refine lv_iload_n hx hb dX7_blowsFor_1 rfl (lv_at hl 1 rfl) ?_
  rcases xb_e h with ⟨r1, u3, h2, h⟩ | h
  rotate_left
  · exact nx_cv (nx_runV (As := [.int x1]) (rest := []) hx hb hml hown hSW hS hW (cx_X7_requirePan l z ad N X u x1 hfl h) mf_X7_requirePan (List.mem_of_getElem? (i := 468) (by decide +kernel)) kr_0 rfl rfl ⟨rfl, rfl⟩ ⟨Nat.le_of_ble_eq_true rfl, Nat.le_of_ble_eq_true rfl⟩ hl.1 (Nat.le_of_ble_eq_true rfl) dX7_blowsFor_2 ⟨Nat.le_of_ble_eq_true rfl, Nat.le_of_ble_eq_true rfl⟩) hS (fun ce9 q9 H locs hce hcv hcc hW hS => nx_out (fun x9 h9 => (ht x9 h9).elim) hlocks hce hcv hcc hW hS ⟨Nat.le_of_ble_eq_true rfl, Nat.le_of_ble_eq_true rfl⟩)
  refine nb_cv (nb_runV (As := [.int x1]) (rest := []) hx hb hml hown hSW hS hW (c_X7_requirePan l z ad N X u x1 h2) mf_X7_requirePan lk_X7_90 kr_0 rfl rfl ⟨rfl, rfl⟩ ⟨Nat.le_of_ble_eq_true rfl, Nat.le_of_ble_eq_true rfl⟩ hl.1 (Nat.le_of_ble_eq_true rfl) dX7_blowsFor_2 ⟨Nat.le_of_ble_eq_true rfl, Nat.le_of_ble_eq_true rfl⟩) hS (fun H locs (hW : GW z ad (GC z ad N X u3) H) hS => ?_)
  refine lv_aload_n hx hb dX7_blowsFor_5 rfl (lv_at hl 0 rfl) ?_
  refine nb_get hx hb hT hK hown hW fl_X7_62 kr_0 (v := .ref (ad 12 6)) rfl dX7_blowsFor_6 ?_
  refine lv_aload_n hx hb dX7_blowsFor_9 rfl (lv_at hl 0 rfl) ?_
  refine nb_get hx hb hT hK hown hW fl_X7_11 kr_0 (v := .ref (ad 1 0)) rfl dX7_blowsFor_10 ?_
  refine lv_iload_n hx hb dX7_blowsFor_13 rfl (lv_at hl 1 rfl) ?_
  obtain ⟨g4, h⟩ := gd_s h
  obtain ⟨g5, h⟩ := gd_s h
  refine nb_aald hx hb hK hW 2 kr_1 rfl rfl (inb_in g4) (a := ad 12 (ix x1)) (qrow_at g5) dX7_blowsFor_14 ?_
  obtain ⟨r6, u8, h7, h⟩ := sb_s h
  refine nb_cv (nb_runV (As := [.ref (ad 12 (ix x1))]) (rest := []) hx hb hml hown hSW hS hW (c_X3_copyFrom l z ad N X u3 6 (ix x1) (Or.inr rfl) (Or.inl g5) h7) mf_X3_copyFrom lk_X7_406 (kr_12 (Or.inr rfl)) rfl rfl ⟨rfl, rfl⟩ ⟨Nat.le_of_ble_eq_true rfl, Nat.le_of_ble_eq_true rfl⟩ hl.1 (Nat.le_of_ble_eq_true rfl) dX7_blowsFor_15 ⟨Nat.le_of_ble_eq_true rfl, Nat.le_of_ble_eq_true rfl⟩) hS (fun H locs (hW : GW z ad (GC z ad N X u8) H) hS => ?_)
  refine lv_aload_n hx hb dX7_blowsFor_18 rfl (lv_at hl 0 rfl) ?_
  refine nb_get hx hb hT hK hown hW fl_X7_62 kr_0 (v := .ref (ad 12 6)) rfl dX7_blowsFor_19 ?_
  refine lv_bipush (v := 40) hx hb dX7_blowsFor_22 (by decide) ?_
  obtain ⟨r09, u11, h10, h⟩ := sb_s h
  refine nb_ci (nb_runV (As := [.int 40]) (rest := []) hx hb hml hown hSW hS hW (c_X3_tuneUpTo l z ad N X u8 6 40 (Or.inr rfl) h10) mf_X3_tuneUpTo lk_X7_122 (kr_12 (Or.inr rfl)) rfl rfl ⟨rfl, rfl⟩ ⟨Nat.le_of_ble_eq_true rfl, Nat.le_of_ble_eq_true rfl⟩ hl.1 (Nat.le_of_ble_eq_true rfl) dX7_blowsFor_24 ⟨Nat.le_of_ble_eq_true rfl, Nat.le_of_ble_eq_true rfl⟩) hS (fun H locs (hW : GW z ad (GC z ad N X u11) H) hS => ?_)
  refine lv_istore_n (lv' := [(2, .int r09), (0, .ref (ad 0 0)), (1, .int x1)]) hx hb dX7_blowsFor_27 rfl hl (by decide) rfl (fun ls hl => ?_)
  refine lv_aload_n hx hb dX7_blowsFor_28 rfl (lv_at hl 1 rfl) ?_
  refine nb_get hx hb hT hK hown hW fl_X7_62 kr_0 (v := .ref (ad 12 6)) rfl dX7_blowsFor_29 ?_
  obtain ⟨r12, u14, h13, h⟩ := sb_s h
  refine nb_ci (nb_runV (As := []) (rest := []) hx hb hml hown hSW hS hW (c_X3_isCracked l z ad N X u11 6 (Or.inr rfl) h13) mf_X3_isCracked lk_X7_315 (kr_12 (Or.inr rfl)) rfl rfl ⟨rfl, rfl⟩ ⟨Nat.le_of_ble_eq_true rfl, Nat.le_of_ble_eq_true rfl⟩ hl.1 (Nat.le_of_ble_eq_true rfl) dX7_blowsFor_32 ⟨Nat.le_of_ble_eq_true rfl, Nat.le_of_ble_eq_true rfl⟩) hS (fun H locs (hW : GW z ad (GC z ad N X u14) H) hS => ?_)
  refine lv_if_ne (tgt := 48) hx hb dX7_blowsFor_35 (by decide) (fun c15 => ?_) (fun c15 => ?_)
  · replace h := ite_f h c15
    refine lv_iconst (v := (-1)) hx hb dX7_blowsFor_48 (by decide) ?_
    refine lv_goto (tgt := 53) hx hb dX7_blowsFor_49 (by decide) ?_
    exact absurd h (by intro q; cases q)
  · replace h := ite_t h c15
    refine lv_aload_n hx hb dX7_blowsFor_38 rfl (lv_at hl 1 rfl) ?_
    refine nb_get hx hb hT hK hown hW fl_X7_62 kr_0 (v := .ref (ad 12 6)) rfl dX7_blowsFor_39 ?_
    obtain ⟨r16, u18, h17, h⟩ := sb_s h
    refine nb_ci (nb_runV (As := []) (rest := []) hx hb hml hown hSW hS hW (c_X3_needsTuner l z ad N X u14 6 (Or.inr rfl) h17) mf_X3_needsTuner lk_X7_409 (kr_12 (Or.inr rfl)) rfl rfl ⟨rfl, rfl⟩ ⟨Nat.le_of_ble_eq_true rfl, Nat.le_of_ble_eq_true rfl⟩ hl.1 (Nat.le_of_ble_eq_true rfl) dX7_blowsFor_42 ⟨Nat.le_of_ble_eq_true rfl, Nat.le_of_ble_eq_true rfl⟩) hS (fun H locs (hW : GW z ad (GC z ad N X u18) H) hS => ?_)
    refine lv_if_eq (tgt := 52) hx hb dX7_blowsFor_45 (by decide) (fun c19 => ?_) (fun c19 => ?_)
    · replace h := ite_t h c19
      refine lv_iload_n hx hb dX7_blowsFor_52 rfl (lv_at hl 0 rfl) ?_
      exact absurd h (by intro q; cases q)
    · replace h := ite_f h c19
      refine lv_iconst (v := (-1)) hx hb dX7_blowsFor_48 (by decide) ?_
      refine lv_goto (tgt := 53) hx hb dX7_blowsFor_49 (by decide) ?_
      exact absurd h (by intro q; cases q)
-- Panyard.digestPans
set_option maxRecDepth 100000 in
set_option maxHeartbeats 4000000 in
theorem cx_X7_digestPans (l : Launch) (z : Zt) (ad : Ad) (N : Nt) (X : Gt) (u : St) (x1 : Int64) (hfl : l.stackTraces = false) {E9 : String} {u9 : St} (h : f_X7_digestPans N u x1 = some (.error E9, u9)) : MX l z yX7_digestPans cX7_digestPans 7 (some .long) { frames := 8, cells := 1, slots := 6, locals := 132 } [.ref (ad 0 0), .long x1] ad (GC z ad N X u) (QlF z) (GC z ad N X u9) E9 := by
  refine vx_ofW (cc := cX7_digestPans) (maxL := 7) (ret := (some .long)) (by decide) rfl ?_
  intro p e s m args below meth c s₁ B hml ht hv
  obtain ⟨rfl, hSW, hW⟩ := hv
  have hx := B.exec; have hb := B.bytes; have hr := B.returns; have hlocks := B.notSynchronized
  have hown : s.vm.findClass RX7 = some m.cls := findClass_of_methodNamed B.named
  obtain ⟨hT, hK, hST, hB0⟩ := id hSW
  have hS : va_S (zA z) s.heap s.heap [] := va_S.rf
  have hl := lv_entry ([.ref (ad 0 0), .long x1]) (n := 7) (Nat.le_of_ble_eq_true rfl)
  rw [lg_entry_eq]
  generalize (lg_sl ([.ref (ad 0 0), .long x1]) ++ List.replicate (7 - (lg_sl ([.ref (ad 0 0), .long x1])).length) Slot.unset).toArray = ls at hl ⊢
  have hl : lv_has ls 7 [(0, .ref (ad 0 0)), (1, .long x1)] := hl
  let WW : Heap → List Loc → JFrame → Prop := fun H locs g => W p l e (headSpec [Cond.code yX7_digestPans cX7_digestPans 7 (some .long)] { frames := 8, cells := 1, slots := 6, locals := 132 }).room s m [.ref (ad 0 0), .long x1].toArray below meth c H locs 0 0 (vx_MQ below (QlF z) (XX z ad (GC z ad N X u9) E9) [.ref (ad 0 0), .long x1].toArray s 1 6 (zA z)) g
  have hL48b : ∀ (ih5 : Int32 → Int64 → St → Option (Except String Int64 × St)) (hih5 : ∀ (y5 : Int32) (y3 : Int64) (u : St) (H : Heap) (locs : List Loc) (ls : Array Slot), lv_has ls 7 [(5, .int y5), (3, .long y3), (0, .ref (ad 0 0))] → GW z ad (GC z ad N X u) H → va_S (zA z) s.heap H locs → ih5 y5 y3 u = some (.error E9, u9) → WW H locs (F0 m 5 ls [])), ∀ (ih48 : Int32 → Int32 → Int64 → St → Option (Except String Int64 × St)) (hih48 : ∀ (y6 : Int32) (y5 : Int32) (y3 : Int64) (u : St) (H : Heap) (locs : List Loc) (ls : Array Slot), lv_has ls 7 [(6, .int y6), (5, .int y5), (3, .long y3), (0, .ref (ad 0 0))] → GW z ad (GC z ad N X u) H → va_S (zA z) s.heap H locs → ih48 y6 y5 y3 u = some (.error E9, u9) → WW H locs (F0 m 48 ls [])), ∀ (y6 : Int32) (y5 : Int32) (y3 : Int64) (u : St) (H : Heap) (locs : List Loc) (ls : Array Slot), lv_has ls 7 [(6, .int y6), (5, .int y5), (3, .long y3), (0, .ref (ad 0 0))] → GW z ad (GC z ad N X u) H → va_S (zA z) s.heap H locs → f_X7_digestPans_L48b N ih5 ih48 y6 y5 y3 u = some (.error E9, u9) → WW H locs (F0 m 48 ls []) := by
    intro ih5 hih5 ih48 hih48 y6 y5 y3 u H locs ls hl hW hS h
    change W p l e _ s m _ below meth c H locs 0 0 _ (F0 m 48 ls [])
    unfold f_X7_digestPans_L48b at h
    refine lv_iload hx hb dX7_digestPans_48 (lv_at hl 0 rfl) ?_
    refine lv_bipush (v := 8) hx hb dX7_digestPans_50 (by decide) ?_
    refine lv_icmp_ge (tgt := 77) hx hb dX7_digestPans_52 (by decide) (fun c3 => ?_) (fun c3 => ?_)
    · replace h := ite_t h c3
      refine lv_lload_n hx hb dX7_digestPans_77 rfl (lv_at hl 2 rfl) ?_
      refine lv_ldc2 (v := 31) hx hb hown (hT.use (List.mem_of_getElem? (i := 283) (by decide +kernel)) rfl) dX7_digestPans_78 ?_
      refine lv_lmul hx hb dX7_digestPans_81 ?_
      refine lv_aload_n hx hb dX7_digestPans_82 rfl (lv_at hl 3 rfl) ?_
      refine lv_iload hx hb dX7_digestPans_83 (lv_at hl 1 rfl) ?_
      rcases xb_e h with ⟨r4, u6, h5, h⟩ | h
      rotate_left
      · exact nx_ci (nx_runV (As := [.int y5]) (rest := [.long (y3 * 31)]) hx hb hml hown hSW hS hW (cx_X7_blowsFor l z ad N X u y5 hfl h) mf_X7_blowsFor (List.mem_of_getElem? (i := 501) (by decide +kernel)) kr_0 rfl rfl ⟨rfl, rfl⟩ ⟨Nat.le_of_ble_eq_true rfl, Nat.le_of_ble_eq_true rfl⟩ hl.1 (Nat.le_of_ble_eq_true rfl) dX7_digestPans_85 ⟨Nat.le_of_ble_eq_true rfl, Nat.le_of_ble_eq_true rfl⟩) hS (fun ce9 q9 H locs hce hcv hcc hW hS => nx_out (fun x9 h9 => (ht x9 h9).elim) hlocks hce hcv hcc hW hS ⟨Nat.le_of_ble_eq_true rfl, Nat.le_of_ble_eq_true rfl⟩)
      refine nb_ci (nb_runV (As := [.int y5]) (rest := [.long (y3 * 31)]) hx hb hml hown hSW hS hW (c_X7_blowsFor l z ad N X u y5 h5) mf_X7_blowsFor lk_X7_447 kr_0 rfl rfl ⟨rfl, rfl⟩ ⟨Nat.le_of_ble_eq_true rfl, Nat.le_of_ble_eq_true rfl⟩ hl.1 (Nat.le_of_ble_eq_true rfl) dX7_digestPans_85 ⟨Nat.le_of_ble_eq_true rfl, Nat.le_of_ble_eq_true rfl⟩) hS (fun H locs (hW : GW z ad (GC z ad N X u6) H) hS => ?_)
      refine lv_i2l hx hb dX7_digestPans_88 rfl ?_
      refine lv_ladd hx hb dX7_digestPans_89 ?_
      refine lv_topl (fun v7 ev7 => ?_)
      replace h := nm_at ev7 h
      refine lv_lstore_n (lv' := [(3, .long v7), (6, .int y6), (5, .int y5), (0, .ref (ad 0 0))]) hx hb dX7_digestPans_90 rfl hl (by decide) rfl (fun ls hl => ?_)
      obtain ⟨v8, ev8, h⟩ := nm_s h
      refine lv_iinc (v := v8) (lv' := [(5, .int v8), (3, .long v7), (6, .int y6), (0, .ref (ad 0 0))]) hx hb dX7_digestPans_91 hl (k := 2) rfl (by rw [ev8]; rfl) (by decide) rfl (fun ls hl => ?_)
      refine lv_goto (tgt := 5) hx hb dX7_digestPans_94 (by decide) ?_
      exact hih5 _ _ _ _ _ _ (lv_sub hl [0, 1, 3] rfl) hW hS h
    · replace h := ite_f h c3
      refine lv_lload_n hx hb dX7_digestPans_55 rfl (lv_at hl 2 rfl) ?_
      refine lv_ldc2 (v := 31) hx hb hown (hT.use (List.mem_of_getElem? (i := 283) (by decide +kernel)) rfl) dX7_digestPans_56 ?_
      refine lv_lmul hx hb dX7_digestPans_59 ?_
      refine lv_aload_n hx hb dX7_digestPans_60 rfl (lv_at hl 3 rfl) ?_
      refine lv_iload hx hb dX7_digestPans_61 (lv_at hl 1 rfl) ?_
      refine lv_iload hx hb dX7_digestPans_63 (lv_at hl 0 rfl) ?_
      rcases xb_e h with ⟨r09, u11, h10, h⟩ | h
      rotate_left
      · exact nx_ci (nx_runV (As := [.int y5, .int y6]) (rest := [.long (y3 * 31)]) hx hb hml hown hSW hS hW (cx_X7_off l z ad N X u y5 y6 hfl h) mf_X7_off (List.mem_of_getElem? (i := 493) (by decide +kernel)) kr_0 rfl rfl ⟨rfl, rfl⟩ ⟨Nat.le_of_ble_eq_true rfl, Nat.le_of_ble_eq_true rfl⟩ hl.1 (Nat.le_of_ble_eq_true rfl) dX7_digestPans_65 ⟨Nat.le_of_ble_eq_true rfl, Nat.le_of_ble_eq_true rfl⟩) hS (fun ce9 q9 H locs hce hcv hcc hW hS => nx_out (fun x9 h9 => (ht x9 h9).elim) hlocks hce hcv hcc hW hS ⟨Nat.le_of_ble_eq_true rfl, Nat.le_of_ble_eq_true rfl⟩)
      refine nb_ci (nb_runV (As := [.int y5, .int y6]) (rest := [.long (y3 * 31)]) hx hb hml hown hSW hS hW (c_X7_off l z ad N X u y5 y6 h10) mf_X7_off lk_X7_444 kr_0 rfl rfl ⟨rfl, rfl⟩ ⟨Nat.le_of_ble_eq_true rfl, Nat.le_of_ble_eq_true rfl⟩ hl.1 (Nat.le_of_ble_eq_true rfl) dX7_digestPans_65 ⟨Nat.le_of_ble_eq_true rfl, Nat.le_of_ble_eq_true rfl⟩) hS (fun H locs (hW : GW z ad (GC z ad N X u11) H) hS => ?_)
      refine lv_i2l hx hb dX7_digestPans_68 rfl ?_
      refine lv_ladd hx hb dX7_digestPans_69 ?_
      refine lv_topl (fun v12 ev12 => ?_)
      replace h := nm_at ev12 h
      refine lv_lstore_n (lv' := [(3, .long v12), (6, .int y6), (5, .int y5), (0, .ref (ad 0 0))]) hx hb dX7_digestPans_70 rfl hl (by decide) rfl (fun ls hl => ?_)
      obtain ⟨v13, ev13, h⟩ := nm_s h
      refine lv_iinc (v := v13) (lv' := [(6, .int v13), (3, .long v12), (5, .int y5), (0, .ref (ad 0 0))]) hx hb dX7_digestPans_71 hl (k := 1) rfl (by rw [ev13]; rfl) (by decide) rfl (fun ls hl => ?_)
      refine lv_goto (tgt := 48) hx hb dX7_digestPans_74 (by decide) ?_
      exact hih48 _ _ _ _ _ _ _ (lv_sub hl [0, 2, 1, 3] rfl) hW hS h
  have hL48 : ∀ (ih5 : Int32 → Int64 → St → Option (Except String Int64 × St)) (hih5 : ∀ (y5 : Int32) (y3 : Int64) (u : St) (H : Heap) (locs : List Loc) (ls : Array Slot), lv_has ls 7 [(5, .int y5), (3, .long y3), (0, .ref (ad 0 0))] → GW z ad (GC z ad N X u) H → va_S (zA z) s.heap H locs → ih5 y5 y3 u = some (.error E9, u9) → WW H locs (F0 m 5 ls [])), ∀ (n : Nat), ∀ (y6 : Int32) (y5 : Int32) (y3 : Int64) (u : St) (H : Heap) (locs : List Loc) (ls : Array Slot), lv_has ls 7 [(6, .int y6), (5, .int y5), (3, .long y3), (0, .ref (ad 0 0))] → GW z ad (GC z ad N X u) H → va_S (zA z) s.heap H locs → f_X7_digestPans_L48 N ih5 n y6 y5 y3 u = some (.error E9, u9) → WW H locs (F0 m 48 ls []) := by
    intro ih5 hih5 n
    induction n with
    | zero => intro y6 y5 y3 u H locs ls hl hW hS h; exact absurd h (by intro q; cases q)
    | succ n ihn => intro y6 y5 y3 u H locs ls hl hW hS h; exact hL48b ih5 hih5 (f_X7_digestPans_L48 N ih5 n) ihn y6 y5 y3 u H locs ls hl hW hS h
  have hL17b : ∀ (ih5 : Int32 → Int64 → St → Option (Except String Int64 × St)) (hih5 : ∀ (y5 : Int32) (y3 : Int64) (u : St) (H : Heap) (locs : List Loc) (ls : Array Slot), lv_has ls 7 [(5, .int y5), (3, .long y3), (0, .ref (ad 0 0))] → GW z ad (GC z ad N X u) H → va_S (zA z) s.heap H locs → ih5 y5 y3 u = some (.error E9, u9) → WW H locs (F0 m 5 ls [])), ∀ (ih17 : Int32 → Int32 → Int64 → St → Option (Except String Int64 × St)) (hih17 : ∀ (y6 : Int32) (y5 : Int32) (y3 : Int64) (u : St) (H : Heap) (locs : List Loc) (ls : Array Slot), lv_has ls 7 [(6, .int y6), (5, .int y5), (3, .long y3), (0, .ref (ad 0 0))] → GW z ad (GC z ad N X u) H → va_S (zA z) s.heap H locs → ih17 y6 y5 y3 u = some (.error E9, u9) → WW H locs (F0 m 17 ls [])), ∀ (y6 : Int32) (y5 : Int32) (y3 : Int64) (u : St) (H : Heap) (locs : List Loc) (ls : Array Slot), lv_has ls 7 [(6, .int y6), (5, .int y5), (3, .long y3), (0, .ref (ad 0 0))] → GW z ad (GC z ad N X u) H → va_S (zA z) s.heap H locs → f_X7_digestPans_L17b N ih5 ih17 y6 y5 y3 u = some (.error E9, u9) → WW H locs (F0 m 17 ls []) := by
    intro ih5 hih5 ih17 hih17 y6 y5 y3 u H locs ls hl hW hS h
    change W p l e _ s m _ below meth c H locs 0 0 _ (F0 m 17 ls [])
    unfold f_X7_digestPans_L17b at h
    refine lv_iload hx hb dX7_digestPans_17 (lv_at hl 0 rfl) ?_
    refine lv_iconst (v := 4) hx hb dX7_digestPans_19 (by decide) ?_
    refine lv_icmp_gt (tgt := 45) hx hb dX7_digestPans_20 (by decide) (fun c2 => ?_) (fun c2 => ?_)
    · replace h := ite_t h c2
      refine lv_iconst (v := 0) hx hb dX7_digestPans_45 (by decide) ?_
      refine lv_istore (lv' := [(6, .int 0), (5, .int y5), (3, .long y3), (0, .ref (ad 0 0))]) hx hb dX7_digestPans_46 hl (by decide) rfl (fun ls hl => ?_)
      exact hL48 ih5 hih5 1000000 _ _ _ _ _ _ _ (lv_sub hl [0, 1, 2, 3] rfl) hW hS h
    · replace h := ite_f h c2
      refine lv_lload_n hx hb dX7_digestPans_23 rfl (lv_at hl 2 rfl) ?_
      refine lv_ldc2 (v := 31) hx hb hown (hT.use (List.mem_of_getElem? (i := 283) (by decide +kernel)) rfl) dX7_digestPans_24 ?_
      refine lv_lmul hx hb dX7_digestPans_27 ?_
      refine lv_aload_n hx hb dX7_digestPans_28 rfl (lv_at hl 3 rfl) ?_
      refine lv_iload hx hb dX7_digestPans_29 (lv_at hl 1 rfl) ?_
      refine lv_iload hx hb dX7_digestPans_31 (lv_at hl 0 rfl) ?_
      rcases xb_e h with ⟨r14, u16, h15, h⟩ | h
      rotate_left
      · exact nx_ci (nx_runV (As := [.int y5, .int y6]) (rest := [.long (y3 * 31)]) hx hb hml hown hSW hS hW (cx_X7_ofPan l z ad N X u y5 y6 hfl h) mf_X7_ofPan (List.mem_of_getElem? (i := 464) (by decide +kernel)) kr_0 rfl rfl ⟨rfl, rfl⟩ ⟨Nat.le_of_ble_eq_true rfl, Nat.le_of_ble_eq_true rfl⟩ hl.1 (Nat.le_of_ble_eq_true rfl) dX7_digestPans_33 ⟨Nat.le_of_ble_eq_true rfl, Nat.le_of_ble_eq_true rfl⟩) hS (fun ce9 q9 H locs hce hcv hcc hW hS => nx_out (fun x9 h9 => (ht x9 h9).elim) hlocks hce hcv hcc hW hS ⟨Nat.le_of_ble_eq_true rfl, Nat.le_of_ble_eq_true rfl⟩)
      refine nb_ci (nb_runV (As := [.int y5, .int y6]) (rest := [.long (y3 * 31)]) hx hb hml hown hSW hS hW (c_X7_ofPan l z ad N X u y5 y6 h15) mf_X7_ofPan lk_X7_441 kr_0 rfl rfl ⟨rfl, rfl⟩ ⟨Nat.le_of_ble_eq_true rfl, Nat.le_of_ble_eq_true rfl⟩ hl.1 (Nat.le_of_ble_eq_true rfl) dX7_digestPans_33 ⟨Nat.le_of_ble_eq_true rfl, Nat.le_of_ble_eq_true rfl⟩) hS (fun H locs (hW : GW z ad (GC z ad N X u16) H) hS => ?_)
      refine lv_i2l hx hb dX7_digestPans_36 rfl ?_
      refine lv_ladd hx hb dX7_digestPans_37 ?_
      refine lv_topl (fun v17 ev17 => ?_)
      replace h := nm_at ev17 h
      refine lv_lstore_n (lv' := [(3, .long v17), (6, .int y6), (5, .int y5), (0, .ref (ad 0 0))]) hx hb dX7_digestPans_38 rfl hl (by decide) rfl (fun ls hl => ?_)
      obtain ⟨v18, ev18, h⟩ := nm_s h
      refine lv_iinc (v := v18) (lv' := [(6, .int v18), (3, .long v17), (5, .int y5), (0, .ref (ad 0 0))]) hx hb dX7_digestPans_39 hl (k := 1) rfl (by rw [ev18]; rfl) (by decide) rfl (fun ls hl => ?_)
      refine lv_goto (tgt := 17) hx hb dX7_digestPans_42 (by decide) ?_
      exact hih17 _ _ _ _ _ _ _ (lv_sub hl [0, 2, 1, 3] rfl) hW hS h
  have hL17 : ∀ (ih5 : Int32 → Int64 → St → Option (Except String Int64 × St)) (hih5 : ∀ (y5 : Int32) (y3 : Int64) (u : St) (H : Heap) (locs : List Loc) (ls : Array Slot), lv_has ls 7 [(5, .int y5), (3, .long y3), (0, .ref (ad 0 0))] → GW z ad (GC z ad N X u) H → va_S (zA z) s.heap H locs → ih5 y5 y3 u = some (.error E9, u9) → WW H locs (F0 m 5 ls [])), ∀ (n : Nat), ∀ (y6 : Int32) (y5 : Int32) (y3 : Int64) (u : St) (H : Heap) (locs : List Loc) (ls : Array Slot), lv_has ls 7 [(6, .int y6), (5, .int y5), (3, .long y3), (0, .ref (ad 0 0))] → GW z ad (GC z ad N X u) H → va_S (zA z) s.heap H locs → f_X7_digestPans_L17 N ih5 n y6 y5 y3 u = some (.error E9, u9) → WW H locs (F0 m 17 ls []) := by
    intro ih5 hih5 n
    induction n with
    | zero => intro y6 y5 y3 u H locs ls hl hW hS h; exact absurd h (by intro q; cases q)
    | succ n ihn => intro y6 y5 y3 u H locs ls hl hW hS h; exact hL17b ih5 hih5 (f_X7_digestPans_L17 N ih5 n) ihn y6 y5 y3 u H locs ls hl hW hS h
  have hL5b : ∀ (ih5 : Int32 → Int64 → St → Option (Except String Int64 × St)) (hih5 : ∀ (y5 : Int32) (y3 : Int64) (u : St) (H : Heap) (locs : List Loc) (ls : Array Slot), lv_has ls 7 [(5, .int y5), (3, .long y3), (0, .ref (ad 0 0))] → GW z ad (GC z ad N X u) H → va_S (zA z) s.heap H locs → ih5 y5 y3 u = some (.error E9, u9) → WW H locs (F0 m 5 ls [])), ∀ (y5 : Int32) (y3 : Int64) (u : St) (H : Heap) (locs : List Loc) (ls : Array Slot), lv_has ls 7 [(5, .int y5), (3, .long y3), (0, .ref (ad 0 0))] → GW z ad (GC z ad N X u) H → va_S (zA z) s.heap H locs → f_X7_digestPans_L5b N ih5 y5 y3 u = some (.error E9, u9) → WW H locs (F0 m 5 ls []) := by
    intro ih5 hih5 y5 y3 u H locs ls hl hW hS h
    change W p l e _ s m _ below meth c H locs 0 0 _ (F0 m 5 ls [])
    unfold f_X7_digestPans_L5b at h
    refine lv_iload hx hb dX7_digestPans_5 (lv_at hl 0 rfl) ?_
    refine lv_aload_n hx hb dX7_digestPans_7 rfl (lv_at hl 2 rfl) ?_
    refine nb_get hx hb hT hK hown hW fl_X7_80 kr_0 (v := .int (u 0 0 0)) rfl dX7_digestPans_8 ?_
    refine lv_icmp_ge (tgt := 97) hx hb dX7_digestPans_11 (by decide) (fun c1 => ?_) (fun c1 => ?_)
    · replace h := ite_t h c1
      refine lv_lload_n hx hb dX7_digestPans_97 rfl (lv_at hl 1 rfl) ?_
      exact absurd h (by intro q; cases q)
    · replace h := ite_f h c1
      refine lv_iconst (v := 0) hx hb dX7_digestPans_14 (by decide) ?_
      refine lv_istore (lv' := [(6, .int 0), (5, .int y5), (3, .long y3), (0, .ref (ad 0 0))]) hx hb dX7_digestPans_15 hl (by decide) rfl (fun ls hl => ?_)
      exact hL17 ih5 hih5 1000000 _ _ _ _ _ _ _ (lv_sub hl [0, 1, 2, 3] rfl) hW hS h
  have hL5 : ∀ (n : Nat), ∀ (y5 : Int32) (y3 : Int64) (u : St) (H : Heap) (locs : List Loc) (ls : Array Slot), lv_has ls 7 [(5, .int y5), (3, .long y3), (0, .ref (ad 0 0))] → GW z ad (GC z ad N X u) H → va_S (zA z) s.heap H locs → f_X7_digestPans_L5 N n y5 y3 u = some (.error E9, u9) → WW H locs (F0 m 5 ls []) := by
    intro n
    induction n with
    | zero => intro y5 y3 u H locs ls hl hW hS h; exact absurd h (by intro q; cases q)
    | succ n ihn => intro y5 y3 u H locs ls hl hW hS h; exact hL5b (f_X7_digestPans_L5 N n) ihn y5 y3 u H locs ls hl hW hS h
  unfold f_X7_digestPans at h
  refine lv_lload_n hx hb dX7_digestPans_0 rfl (lv_at hl 1 rfl) ?_
  refine lv_lstore_n (lv' := [(3, .long x1), (0, .ref (ad 0 0)), (1, .long x1)]) hx hb dX7_digestPans_1 rfl hl (by decide) rfl (fun ls hl => ?_)
  refine lv_iconst (v := 0) hx hb dX7_digestPans_2 (by decide) ?_
  refine lv_istore (lv' := [(5, .int 0), (3, .long x1), (0, .ref (ad 0 0)), (1, .long x1)]) hx hb dX7_digestPans_3 hl (by decide) rfl (fun ls hl => ?_)
  exact hL5 1000000 _ _ _ _ _ _ (lv_sub hl [0, 1, 2] rfl) hW hS h
-- Panyard.digestPhrases
set_option maxRecDepth 100000 in
set_option maxHeartbeats 4000000 in
theorem cx_X7_digestPhrases (l : Launch) (z : Zt) (ad : Ad) (N : Nt) (X : Gt) (u : St) (x1 : Int64) (hfl : l.stackTraces = false) {E9 : String} {u9 : St} (h : f_X7_digestPhrases N u x1 = some (.error E9, u9)) : MX l z yX7_digestPhrases cX7_digestPhrases 7 (some .long) { frames := 8, cells := 1, slots := 6, locals := 126 } [.ref (ad 0 0), .long x1] ad (GC z ad N X u) (QlF z) (GC z ad N X u9) E9 := by
  refine vx_ofW (cc := cX7_digestPhrases) (maxL := 7) (ret := (some .long)) (by decide) rfl ?_
  intro p e s m args below meth c s₁ B hml ht hv
  obtain ⟨rfl, hSW, hW⟩ := hv
  have hx := B.exec; have hb := B.bytes; have hr := B.returns; have hlocks := B.notSynchronized
  have hown : s.vm.findClass RX7 = some m.cls := findClass_of_methodNamed B.named
  obtain ⟨hT, hK, hST, hB0⟩ := id hSW
  have hS : va_S (zA z) s.heap s.heap [] := va_S.rf
  have hl := lv_entry ([.ref (ad 0 0), .long x1]) (n := 7) (Nat.le_of_ble_eq_true rfl)
  rw [lg_entry_eq]
  generalize (lg_sl ([.ref (ad 0 0), .long x1]) ++ List.replicate (7 - (lg_sl ([.ref (ad 0 0), .long x1])).length) Slot.unset).toArray = ls at hl ⊢
  have hl : lv_has ls 7 [(0, .ref (ad 0 0)), (1, .long x1)] := hl
  let WW : Heap → List Loc → JFrame → Prop := fun H locs g => W p l e (headSpec [Cond.code yX7_digestPhrases cX7_digestPhrases 7 (some .long)] { frames := 8, cells := 1, slots := 6, locals := 126 }).room s m [.ref (ad 0 0), .long x1].toArray below meth c H locs 0 0 (vx_MQ below (QlF z) (XX z ad (GC z ad N X u9) E9) [.ref (ad 0 0), .long x1].toArray s 1 6 (zA z)) g
  have hL17b : ∀ (ih5 : Int32 → Int64 → St → Option (Except String Int64 × St)) (hih5 : ∀ (y5 : Int32) (y3 : Int64) (u : St) (H : Heap) (locs : List Loc) (ls : Array Slot), lv_has ls 7 [(5, .int y5), (3, .long y3), (0, .ref (ad 0 0))] → GW z ad (GC z ad N X u) H → va_S (zA z) s.heap H locs → ih5 y5 y3 u = some (.error E9, u9) → WW H locs (F0 m 5 ls [])), ∀ (ih17 : Int32 → Int32 → Int64 → St → Option (Except String Int64 × St)) (hih17 : ∀ (y6 : Int32) (y5 : Int32) (y3 : Int64) (u : St) (H : Heap) (locs : List Loc) (ls : Array Slot), lv_has ls 7 [(6, .int y6), (5, .int y5), (3, .long y3), (0, .ref (ad 0 0))] → GW z ad (GC z ad N X u) H → va_S (zA z) s.heap H locs → ih17 y6 y5 y3 u = some (.error E9, u9) → WW H locs (F0 m 17 ls [])), ∀ (y6 : Int32) (y5 : Int32) (y3 : Int64) (u : St) (H : Heap) (locs : List Loc) (ls : Array Slot), lv_has ls 7 [(6, .int y6), (5, .int y5), (3, .long y3), (0, .ref (ad 0 0))] → GW z ad (GC z ad N X u) H → va_S (zA z) s.heap H locs → f_X7_digestPhrases_L17b N ih5 ih17 y6 y5 y3 u = some (.error E9, u9) → WW H locs (F0 m 17 ls []) := by
    intro ih5 hih5 ih17 hih17 y6 y5 y3 u H locs ls hl hW hS h
    change W p l e _ s m _ below meth c H locs 0 0 _ (F0 m 17 ls [])
    unfold f_X7_digestPhrases_L17b at h
    refine lv_iload hx hb dX7_digestPhrases_17 (lv_at hl 0 rfl) ?_
    refine lv_iconst (v := 4) hx hb dX7_digestPhrases_19 (by decide) ?_
    refine lv_icmp_gt (tgt := 45) hx hb dX7_digestPhrases_20 (by decide) (fun c2 => ?_) (fun c2 => ?_)
    · replace h := ite_t h c2
      obtain ⟨v3, ev3, h⟩ := nm_s h
      refine lv_iinc (v := v3) (lv' := [(5, .int v3), (6, .int y6), (3, .long y3), (0, .ref (ad 0 0))]) hx hb dX7_digestPhrases_45 hl (k := 1) rfl (by rw [ev3]; rfl) (by decide) rfl (fun ls hl => ?_)
      refine lv_goto (tgt := 5) hx hb dX7_digestPhrases_48 (by decide) ?_
      exact hih5 _ _ _ _ _ _ (lv_sub hl [0, 2, 3] rfl) hW hS h
    · replace h := ite_f h c2
      refine lv_lload_n hx hb dX7_digestPhrases_23 rfl (lv_at hl 2 rfl) ?_
      refine lv_ldc2 (v := 31) hx hb hown (hT.use (List.mem_of_getElem? (i := 283) (by decide +kernel)) rfl) dX7_digestPhrases_24 ?_
      refine lv_lmul hx hb dX7_digestPhrases_27 ?_
      refine lv_aload_n hx hb dX7_digestPhrases_28 rfl (lv_at hl 3 rfl) ?_
      refine lv_iload hx hb dX7_digestPhrases_29 (lv_at hl 1 rfl) ?_
      refine lv_iload hx hb dX7_digestPhrases_31 (lv_at hl 0 rfl) ?_
      rcases xb_e h with ⟨r4, u6, h5, h⟩ | h
      rotate_left
      · exact nx_ci (nx_runV (As := [.int y5, .int y6]) (rest := [.long (y3 * 31)]) hx hb hml hown hSW hS hW (cx_X7_ofPhrase l z ad N X u y5 y6 hfl h) mf_X7_ofPhrase (List.mem_of_getElem? (i := 538) (by decide +kernel)) kr_0 rfl rfl ⟨rfl, rfl⟩ ⟨Nat.le_of_ble_eq_true rfl, Nat.le_of_ble_eq_true rfl⟩ hl.1 (Nat.le_of_ble_eq_true rfl) dX7_digestPhrases_33 ⟨Nat.le_of_ble_eq_true rfl, Nat.le_of_ble_eq_true rfl⟩) hS (fun ce9 q9 H locs hce hcv hcc hW hS => nx_out (fun x9 h9 => (ht x9 h9).elim) hlocks hce hcv hcc hW hS ⟨Nat.le_of_ble_eq_true rfl, Nat.le_of_ble_eq_true rfl⟩)
      refine nb_ci (nb_runV (As := [.int y5, .int y6]) (rest := [.long (y3 * 31)]) hx hb hml hown hSW hS hW (c_X7_ofPhrase l z ad N X u y5 y6 h5) mf_X7_ofPhrase lk_X7_450 kr_0 rfl rfl ⟨rfl, rfl⟩ ⟨Nat.le_of_ble_eq_true rfl, Nat.le_of_ble_eq_true rfl⟩ hl.1 (Nat.le_of_ble_eq_true rfl) dX7_digestPhrases_33 ⟨Nat.le_of_ble_eq_true rfl, Nat.le_of_ble_eq_true rfl⟩) hS (fun H locs (hW : GW z ad (GC z ad N X u6) H) hS => ?_)
      refine lv_i2l hx hb dX7_digestPhrases_36 rfl ?_
      refine lv_ladd hx hb dX7_digestPhrases_37 ?_
      refine lv_topl (fun v7 ev7 => ?_)
      replace h := nm_at ev7 h
      refine lv_lstore_n (lv' := [(3, .long v7), (6, .int y6), (5, .int y5), (0, .ref (ad 0 0))]) hx hb dX7_digestPhrases_38 rfl hl (by decide) rfl (fun ls hl => ?_)
      obtain ⟨v8, ev8, h⟩ := nm_s h
      refine lv_iinc (v := v8) (lv' := [(6, .int v8), (3, .long v7), (5, .int y5), (0, .ref (ad 0 0))]) hx hb dX7_digestPhrases_39 hl (k := 1) rfl (by rw [ev8]; rfl) (by decide) rfl (fun ls hl => ?_)
      refine lv_goto (tgt := 17) hx hb dX7_digestPhrases_42 (by decide) ?_
      exact hih17 _ _ _ _ _ _ _ (lv_sub hl [0, 2, 1, 3] rfl) hW hS h
  have hL17 : ∀ (ih5 : Int32 → Int64 → St → Option (Except String Int64 × St)) (hih5 : ∀ (y5 : Int32) (y3 : Int64) (u : St) (H : Heap) (locs : List Loc) (ls : Array Slot), lv_has ls 7 [(5, .int y5), (3, .long y3), (0, .ref (ad 0 0))] → GW z ad (GC z ad N X u) H → va_S (zA z) s.heap H locs → ih5 y5 y3 u = some (.error E9, u9) → WW H locs (F0 m 5 ls [])), ∀ (n : Nat), ∀ (y6 : Int32) (y5 : Int32) (y3 : Int64) (u : St) (H : Heap) (locs : List Loc) (ls : Array Slot), lv_has ls 7 [(6, .int y6), (5, .int y5), (3, .long y3), (0, .ref (ad 0 0))] → GW z ad (GC z ad N X u) H → va_S (zA z) s.heap H locs → f_X7_digestPhrases_L17 N ih5 n y6 y5 y3 u = some (.error E9, u9) → WW H locs (F0 m 17 ls []) := by
    intro ih5 hih5 n
    induction n with
    | zero => intro y6 y5 y3 u H locs ls hl hW hS h; exact absurd h (by intro q; cases q)
    | succ n ihn => intro y6 y5 y3 u H locs ls hl hW hS h; exact hL17b ih5 hih5 (f_X7_digestPhrases_L17 N ih5 n) ihn y6 y5 y3 u H locs ls hl hW hS h
  have hL5b : ∀ (ih5 : Int32 → Int64 → St → Option (Except String Int64 × St)) (hih5 : ∀ (y5 : Int32) (y3 : Int64) (u : St) (H : Heap) (locs : List Loc) (ls : Array Slot), lv_has ls 7 [(5, .int y5), (3, .long y3), (0, .ref (ad 0 0))] → GW z ad (GC z ad N X u) H → va_S (zA z) s.heap H locs → ih5 y5 y3 u = some (.error E9, u9) → WW H locs (F0 m 5 ls [])), ∀ (y5 : Int32) (y3 : Int64) (u : St) (H : Heap) (locs : List Loc) (ls : Array Slot), lv_has ls 7 [(5, .int y5), (3, .long y3), (0, .ref (ad 0 0))] → GW z ad (GC z ad N X u) H → va_S (zA z) s.heap H locs → f_X7_digestPhrases_L5b N ih5 y5 y3 u = some (.error E9, u9) → WW H locs (F0 m 5 ls []) := by
    intro ih5 hih5 y5 y3 u H locs ls hl hW hS h
    change W p l e _ s m _ below meth c H locs 0 0 _ (F0 m 5 ls [])
    unfold f_X7_digestPhrases_L5b at h
    refine lv_iload hx hb dX7_digestPhrases_5 (lv_at hl 0 rfl) ?_
    refine lv_aload_n hx hb dX7_digestPhrases_7 rfl (lv_at hl 2 rfl) ?_
    refine nb_get hx hb hT hK hown hW fl_X7_133 kr_0 (v := .int (u 1 0 0)) rfl dX7_digestPhrases_8 ?_
    refine lv_icmp_ge (tgt := 51) hx hb dX7_digestPhrases_11 (by decide) (fun c1 => ?_) (fun c1 => ?_)
    · replace h := ite_t h c1
      refine lv_lload_n hx hb dX7_digestPhrases_51 rfl (lv_at hl 1 rfl) ?_
      exact absurd h (by intro q; cases q)
    · replace h := ite_f h c1
      refine lv_iconst (v := 0) hx hb dX7_digestPhrases_14 (by decide) ?_
      refine lv_istore (lv' := [(6, .int 0), (5, .int y5), (3, .long y3), (0, .ref (ad 0 0))]) hx hb dX7_digestPhrases_15 hl (by decide) rfl (fun ls hl => ?_)
      exact hL17 ih5 hih5 1000000 _ _ _ _ _ _ _ (lv_sub hl [0, 1, 2, 3] rfl) hW hS h
  have hL5 : ∀ (n : Nat), ∀ (y5 : Int32) (y3 : Int64) (u : St) (H : Heap) (locs : List Loc) (ls : Array Slot), lv_has ls 7 [(5, .int y5), (3, .long y3), (0, .ref (ad 0 0))] → GW z ad (GC z ad N X u) H → va_S (zA z) s.heap H locs → f_X7_digestPhrases_L5 N n y5 y3 u = some (.error E9, u9) → WW H locs (F0 m 5 ls []) := by
    intro n
    induction n with
    | zero => intro y5 y3 u H locs ls hl hW hS h; exact absurd h (by intro q; cases q)
    | succ n ihn => intro y5 y3 u H locs ls hl hW hS h; exact hL5b (f_X7_digestPhrases_L5 N n) ihn y5 y3 u H locs ls hl hW hS h
  unfold f_X7_digestPhrases at h
  refine lv_lload_n hx hb dX7_digestPhrases_0 rfl (lv_at hl 1 rfl) ?_
  refine lv_lstore_n (lv' := [(3, .long x1), (0, .ref (ad 0 0)), (1, .long x1)]) hx hb dX7_digestPhrases_1 rfl hl (by decide) rfl (fun ls hl => ?_)
  refine lv_iconst (v := 0) hx hb dX7_digestPhrases_2 (by decide) ?_
  refine lv_istore (lv' := [(5, .int 0), (3, .long x1), (0, .ref (ad 0 0)), (1, .long x1)]) hx hb dX7_digestPhrases_3 hl (by decide) rfl (fun ls hl => ?_)
  exact hL5 1000000 _ _ _ _ _ _ (lv_sub hl [0, 1, 2] rfl) hW hS h
-- Panyard.digestPlayers
set_option maxRecDepth 100000 in
set_option maxHeartbeats 4000000 in
theorem cx_X7_digestPlayers (l : Launch) (z : Zt) (ad : Ad) (N : Nt) (X : Gt) (u : St) (x1 : Int64) (hfl : l.stackTraces = false) {E9 : String} {u9 : St} (h : f_X7_digestPlayers N u x1 = some (.error E9, u9)) : MX l z yX7_digestPlayers cX7_digestPlayers 7 (some .long) { frames := 8, cells := 1, slots := 6, locals := 139 } [.ref (ad 0 0), .long x1] ad (GC z ad N X u) (QlF z) (GC z ad N X u9) E9 := by
  refine vx_ofW (cc := cX7_digestPlayers) (maxL := 7) (ret := (some .long)) (by decide) rfl ?_
  intro p e s m args below meth c s₁ B hml ht hv
  obtain ⟨rfl, hSW, hW⟩ := hv
  have hx := B.exec; have hb := B.bytes; have hr := B.returns; have hlocks := B.notSynchronized
  have hown : s.vm.findClass RX7 = some m.cls := findClass_of_methodNamed B.named
  obtain ⟨hT, hK, hST, hB0⟩ := id hSW
  have hS : va_S (zA z) s.heap s.heap [] := va_S.rf
  have hl := lv_entry ([.ref (ad 0 0), .long x1]) (n := 7) (Nat.le_of_ble_eq_true rfl)
  rw [lg_entry_eq]
  generalize (lg_sl ([.ref (ad 0 0), .long x1]) ++ List.replicate (7 - (lg_sl ([.ref (ad 0 0), .long x1])).length) Slot.unset).toArray = ls at hl ⊢
  have hl : lv_has ls 7 [(0, .ref (ad 0 0)), (1, .long x1)] := hl
  let WW : Heap → List Loc → JFrame → Prop := fun H locs g => W p l e (headSpec [Cond.code yX7_digestPlayers cX7_digestPlayers 7 (some .long)] { frames := 8, cells := 1, slots := 6, locals := 139 }).room s m [.ref (ad 0 0), .long x1].toArray below meth c H locs 0 0 (vx_MQ below (QlF z) (XX z ad (GC z ad N X u9) E9) [.ref (ad 0 0), .long x1].toArray s 1 6 (zA z)) g
  have hL49b : ∀ (ih5 : Int32 → Int64 → St → Option (Except String Int64 × St)) (hih5 : ∀ (y5 : Int32) (y3 : Int64) (u : St) (H : Heap) (locs : List Loc) (ls : Array Slot), lv_has ls 7 [(5, .int y5), (3, .long y3), (0, .ref (ad 0 0))] → GW z ad (GC z ad N X u) H → va_S (zA z) s.heap H locs → ih5 y5 y3 u = some (.error E9, u9) → WW H locs (F0 m 5 ls [])), ∀ (ih49 : Int32 → Int32 → Int64 → St → Option (Except String Int64 × St)) (hih49 : ∀ (y6 : Int32) (y5 : Int32) (y3 : Int64) (u : St) (H : Heap) (locs : List Loc) (ls : Array Slot), lv_has ls 7 [(6, .int y6), (5, .int y5), (3, .long y3), (0, .ref (ad 0 0))] → GW z ad (GC z ad N X u) H → va_S (zA z) s.heap H locs → ih49 y6 y5 y3 u = some (.error E9, u9) → WW H locs (F0 m 49 ls [])), ∀ (y6 : Int32) (y5 : Int32) (y3 : Int64) (u : St) (H : Heap) (locs : List Loc) (ls : Array Slot), lv_has ls 7 [(6, .int y6), (5, .int y5), (3, .long y3), (0, .ref (ad 0 0))] → GW z ad (GC z ad N X u) H → va_S (zA z) s.heap H locs → f_X7_digestPlayers_L49b N ih5 ih49 y6 y5 y3 u = some (.error E9, u9) → WW H locs (F0 m 49 ls []) := by
    intro ih5 hih5 ih49 hih49 y6 y5 y3 u H locs ls hl hW hS h
    change W p l e _ s m _ below meth c H locs 0 0 _ (F0 m 49 ls [])
    unfold f_X7_digestPlayers_L49b at h
    refine lv_iload hx hb dX7_digestPlayers_49 (lv_at hl 0 rfl) ?_
    refine lv_aload_n hx hb dX7_digestPlayers_51 rfl (lv_at hl 3 rfl) ?_
    refine nb_get hx hb hT hK hown hW fl_X7_133 kr_0 (v := .int (u 1 0 0)) rfl dX7_digestPlayers_52 ?_
    refine lv_icmp_ge (tgt := 80) hx hb dX7_digestPlayers_55 (by decide) (fun c3 => ?_) (fun c3 => ?_)
    · replace h := ite_t h c3
      refine lv_lload_n hx hb dX7_digestPlayers_80 rfl (lv_at hl 2 rfl) ?_
      refine lv_ldc2 (v := 31) hx hb hown (hT.use (List.mem_of_getElem? (i := 283) (by decide +kernel)) rfl) dX7_digestPlayers_81 ?_
      refine lv_lmul hx hb dX7_digestPlayers_84 ?_
      refine lv_aload_n hx hb dX7_digestPlayers_85 rfl (lv_at hl 3 rfl) ?_
      refine lv_iload hx hb dX7_digestPlayers_86 (lv_at hl 1 rfl) ?_
      refine lv_bipush (v := 20) hx hb dX7_digestPlayers_88 (by decide) ?_
      rcases xb_e h with ⟨r4, u6, h5, h⟩ | h
      rotate_left
      · exact nx_ci (nx_runV (As := [.int y5, .int 20]) (rest := [.long (y3 * 31)]) hx hb hml hown hSW hS hW (cx_X7_bestTeach l z ad N X u y5 20 hfl h) mf_X7_bestTeach (List.mem_of_getElem? (i := 569) (by decide +kernel)) kr_0 rfl rfl ⟨rfl, rfl⟩ ⟨Nat.le_of_ble_eq_true rfl, Nat.le_of_ble_eq_true rfl⟩ hl.1 (Nat.le_of_ble_eq_true rfl) dX7_digestPlayers_90 ⟨Nat.le_of_ble_eq_true rfl, Nat.le_of_ble_eq_true rfl⟩) hS (fun ce9 q9 H locs hce hcv hcc hW hS => nx_out (fun x9 h9 => (ht x9 h9).elim) hlocks hce hcv hcc hW hS ⟨Nat.le_of_ble_eq_true rfl, Nat.le_of_ble_eq_true rfl⟩)
      refine nb_ci (nb_runV (As := [.int y5, .int 20]) (rest := [.long (y3 * 31)]) hx hb hml hown hSW hS hW (c_X7_bestTeach l z ad N X u y5 20 h5) mf_X7_bestTeach lk_X7_459 kr_0 rfl rfl ⟨rfl, rfl⟩ ⟨Nat.le_of_ble_eq_true rfl, Nat.le_of_ble_eq_true rfl⟩ hl.1 (Nat.le_of_ble_eq_true rfl) dX7_digestPlayers_90 ⟨Nat.le_of_ble_eq_true rfl, Nat.le_of_ble_eq_true rfl⟩) hS (fun H locs (hW : GW z ad (GC z ad N X u6) H) hS => ?_)
      refine lv_i2l hx hb dX7_digestPlayers_93 rfl ?_
      refine lv_ladd hx hb dX7_digestPlayers_94 ?_
      refine lv_topl (fun v7 ev7 => ?_)
      replace h := nm_at ev7 h
      refine lv_lstore_n (lv' := [(3, .long v7), (6, .int y6), (5, .int y5), (0, .ref (ad 0 0))]) hx hb dX7_digestPlayers_95 rfl hl (by decide) rfl (fun ls hl => ?_)
      obtain ⟨v8, ev8, h⟩ := nm_s h
      refine lv_iinc (v := v8) (lv' := [(5, .int v8), (3, .long v7), (6, .int y6), (0, .ref (ad 0 0))]) hx hb dX7_digestPlayers_96 hl (k := 2) rfl (by rw [ev8]; rfl) (by decide) rfl (fun ls hl => ?_)
      refine lv_goto (tgt := 5) hx hb dX7_digestPlayers_99 (by decide) ?_
      exact hih5 _ _ _ _ _ _ (lv_sub hl [0, 1, 3] rfl) hW hS h
    · replace h := ite_f h c3
      refine lv_lload_n hx hb dX7_digestPlayers_58 rfl (lv_at hl 2 rfl) ?_
      refine lv_ldc2 (v := 31) hx hb hown (hT.use (List.mem_of_getElem? (i := 283) (by decide +kernel)) rfl) dX7_digestPlayers_59 ?_
      refine lv_lmul hx hb dX7_digestPlayers_62 ?_
      refine lv_aload_n hx hb dX7_digestPlayers_63 rfl (lv_at hl 3 rfl) ?_
      refine lv_iload hx hb dX7_digestPlayers_64 (lv_at hl 1 rfl) ?_
      refine lv_iload hx hb dX7_digestPlayers_66 (lv_at hl 0 rfl) ?_
      rcases xb_e h with ⟨r09, u11, h10, h⟩ | h
      rotate_left
      · exact nx_ci (nx_runV (As := [.int y5, .int y6]) (rest := [.long (y3 * 31)]) hx hb hml hown hSW hS hW (cx_X7_memory l z ad N X u y5 y6 hfl h) mf_X7_memory (List.mem_of_getElem? (i := 565) (by decide +kernel)) kr_0 rfl rfl ⟨rfl, rfl⟩ ⟨Nat.le_of_ble_eq_true rfl, Nat.le_of_ble_eq_true rfl⟩ hl.1 (Nat.le_of_ble_eq_true rfl) dX7_digestPlayers_68 ⟨Nat.le_of_ble_eq_true rfl, Nat.le_of_ble_eq_true rfl⟩) hS (fun ce9 q9 H locs hce hcv hcc hW hS => nx_out (fun x9 h9 => (ht x9 h9).elim) hlocks hce hcv hcc hW hS ⟨Nat.le_of_ble_eq_true rfl, Nat.le_of_ble_eq_true rfl⟩)
      refine nb_ci (nb_runV (As := [.int y5, .int y6]) (rest := [.long (y3 * 31)]) hx hb hml hown hSW hS hW (c_X7_memory l z ad N X u y5 y6 h10) mf_X7_memory lk_X7_456 kr_0 rfl rfl ⟨rfl, rfl⟩ ⟨Nat.le_of_ble_eq_true rfl, Nat.le_of_ble_eq_true rfl⟩ hl.1 (Nat.le_of_ble_eq_true rfl) dX7_digestPlayers_68 ⟨Nat.le_of_ble_eq_true rfl, Nat.le_of_ble_eq_true rfl⟩) hS (fun H locs (hW : GW z ad (GC z ad N X u11) H) hS => ?_)
      refine lv_i2l hx hb dX7_digestPlayers_71 rfl ?_
      refine lv_ladd hx hb dX7_digestPlayers_72 ?_
      refine lv_topl (fun v12 ev12 => ?_)
      replace h := nm_at ev12 h
      refine lv_lstore_n (lv' := [(3, .long v12), (6, .int y6), (5, .int y5), (0, .ref (ad 0 0))]) hx hb dX7_digestPlayers_73 rfl hl (by decide) rfl (fun ls hl => ?_)
      obtain ⟨v13, ev13, h⟩ := nm_s h
      refine lv_iinc (v := v13) (lv' := [(6, .int v13), (3, .long v12), (5, .int y5), (0, .ref (ad 0 0))]) hx hb dX7_digestPlayers_74 hl (k := 1) rfl (by rw [ev13]; rfl) (by decide) rfl (fun ls hl => ?_)
      refine lv_goto (tgt := 49) hx hb dX7_digestPlayers_77 (by decide) ?_
      exact hih49 _ _ _ _ _ _ _ (lv_sub hl [0, 2, 1, 3] rfl) hW hS h
  have hL49 : ∀ (ih5 : Int32 → Int64 → St → Option (Except String Int64 × St)) (hih5 : ∀ (y5 : Int32) (y3 : Int64) (u : St) (H : Heap) (locs : List Loc) (ls : Array Slot), lv_has ls 7 [(5, .int y5), (3, .long y3), (0, .ref (ad 0 0))] → GW z ad (GC z ad N X u) H → va_S (zA z) s.heap H locs → ih5 y5 y3 u = some (.error E9, u9) → WW H locs (F0 m 5 ls [])), ∀ (n : Nat), ∀ (y6 : Int32) (y5 : Int32) (y3 : Int64) (u : St) (H : Heap) (locs : List Loc) (ls : Array Slot), lv_has ls 7 [(6, .int y6), (5, .int y5), (3, .long y3), (0, .ref (ad 0 0))] → GW z ad (GC z ad N X u) H → va_S (zA z) s.heap H locs → f_X7_digestPlayers_L49 N ih5 n y6 y5 y3 u = some (.error E9, u9) → WW H locs (F0 m 49 ls []) := by
    intro ih5 hih5 n
    induction n with
    | zero => intro y6 y5 y3 u H locs ls hl hW hS h; exact absurd h (by intro q; cases q)
    | succ n ihn => intro y6 y5 y3 u H locs ls hl hW hS h; exact hL49b ih5 hih5 (f_X7_digestPlayers_L49 N ih5 n) ihn y6 y5 y3 u H locs ls hl hW hS h
  have hL17b : ∀ (ih5 : Int32 → Int64 → St → Option (Except String Int64 × St)) (hih5 : ∀ (y5 : Int32) (y3 : Int64) (u : St) (H : Heap) (locs : List Loc) (ls : Array Slot), lv_has ls 7 [(5, .int y5), (3, .long y3), (0, .ref (ad 0 0))] → GW z ad (GC z ad N X u) H → va_S (zA z) s.heap H locs → ih5 y5 y3 u = some (.error E9, u9) → WW H locs (F0 m 5 ls [])), ∀ (ih17 : Int32 → Int32 → Int64 → St → Option (Except String Int64 × St)) (hih17 : ∀ (y6 : Int32) (y5 : Int32) (y3 : Int64) (u : St) (H : Heap) (locs : List Loc) (ls : Array Slot), lv_has ls 7 [(6, .int y6), (5, .int y5), (3, .long y3), (0, .ref (ad 0 0))] → GW z ad (GC z ad N X u) H → va_S (zA z) s.heap H locs → ih17 y6 y5 y3 u = some (.error E9, u9) → WW H locs (F0 m 17 ls [])), ∀ (y6 : Int32) (y5 : Int32) (y3 : Int64) (u : St) (H : Heap) (locs : List Loc) (ls : Array Slot), lv_has ls 7 [(6, .int y6), (5, .int y5), (3, .long y3), (0, .ref (ad 0 0))] → GW z ad (GC z ad N X u) H → va_S (zA z) s.heap H locs → f_X7_digestPlayers_L17b N ih5 ih17 y6 y5 y3 u = some (.error E9, u9) → WW H locs (F0 m 17 ls []) := by
    intro ih5 hih5 ih17 hih17 y6 y5 y3 u H locs ls hl hW hS h
    change W p l e _ s m _ below meth c H locs 0 0 _ (F0 m 17 ls [])
    unfold f_X7_digestPlayers_L17b at h
    refine lv_iload hx hb dX7_digestPlayers_17 (lv_at hl 0 rfl) ?_
    refine lv_bipush (v := 6) hx hb dX7_digestPlayers_19 (by decide) ?_
    refine lv_icmp_gt (tgt := 46) hx hb dX7_digestPlayers_21 (by decide) (fun c2 => ?_) (fun c2 => ?_)
    · replace h := ite_t h c2
      refine lv_iconst (v := 0) hx hb dX7_digestPlayers_46 (by decide) ?_
      refine lv_istore (lv' := [(6, .int 0), (5, .int y5), (3, .long y3), (0, .ref (ad 0 0))]) hx hb dX7_digestPlayers_47 hl (by decide) rfl (fun ls hl => ?_)
      exact hL49 ih5 hih5 1000000 _ _ _ _ _ _ _ (lv_sub hl [0, 1, 2, 3] rfl) hW hS h
    · replace h := ite_f h c2
      refine lv_lload_n hx hb dX7_digestPlayers_24 rfl (lv_at hl 2 rfl) ?_
      refine lv_ldc2 (v := 31) hx hb hown (hT.use (List.mem_of_getElem? (i := 283) (by decide +kernel)) rfl) dX7_digestPlayers_25 ?_
      refine lv_lmul hx hb dX7_digestPlayers_28 ?_
      refine lv_aload_n hx hb dX7_digestPlayers_29 rfl (lv_at hl 3 rfl) ?_
      refine lv_iload hx hb dX7_digestPlayers_30 (lv_at hl 1 rfl) ?_
      refine lv_iload hx hb dX7_digestPlayers_32 (lv_at hl 0 rfl) ?_
      rcases xb_e h with ⟨r14, u16, h15, h⟩ | h
      rotate_left
      · exact nx_ci (nx_runV (As := [.int y5, .int y6]) (rest := [.long (y3 * 31)]) hx hb hml hown hSW hS hW (cx_X7_ofPlayer l z ad N X u y5 y6 hfl h) mf_X7_ofPlayer (List.mem_of_getElem? (i := 551) (by decide +kernel)) kr_0 rfl rfl ⟨rfl, rfl⟩ ⟨Nat.le_of_ble_eq_true rfl, Nat.le_of_ble_eq_true rfl⟩ hl.1 (Nat.le_of_ble_eq_true rfl) dX7_digestPlayers_34 ⟨Nat.le_of_ble_eq_true rfl, Nat.le_of_ble_eq_true rfl⟩) hS (fun ce9 q9 H locs hce hcv hcc hW hS => nx_out (fun x9 h9 => (ht x9 h9).elim) hlocks hce hcv hcc hW hS ⟨Nat.le_of_ble_eq_true rfl, Nat.le_of_ble_eq_true rfl⟩)
      refine nb_ci (nb_runV (As := [.int y5, .int y6]) (rest := [.long (y3 * 31)]) hx hb hml hown hSW hS hW (c_X7_ofPlayer l z ad N X u y5 y6 h15) mf_X7_ofPlayer lk_X7_453 kr_0 rfl rfl ⟨rfl, rfl⟩ ⟨Nat.le_of_ble_eq_true rfl, Nat.le_of_ble_eq_true rfl⟩ hl.1 (Nat.le_of_ble_eq_true rfl) dX7_digestPlayers_34 ⟨Nat.le_of_ble_eq_true rfl, Nat.le_of_ble_eq_true rfl⟩) hS (fun H locs (hW : GW z ad (GC z ad N X u16) H) hS => ?_)
      refine lv_i2l hx hb dX7_digestPlayers_37 rfl ?_
      refine lv_ladd hx hb dX7_digestPlayers_38 ?_
      refine lv_topl (fun v17 ev17 => ?_)
      replace h := nm_at ev17 h
      refine lv_lstore_n (lv' := [(3, .long v17), (6, .int y6), (5, .int y5), (0, .ref (ad 0 0))]) hx hb dX7_digestPlayers_39 rfl hl (by decide) rfl (fun ls hl => ?_)
      obtain ⟨v18, ev18, h⟩ := nm_s h
      refine lv_iinc (v := v18) (lv' := [(6, .int v18), (3, .long v17), (5, .int y5), (0, .ref (ad 0 0))]) hx hb dX7_digestPlayers_40 hl (k := 1) rfl (by rw [ev18]; rfl) (by decide) rfl (fun ls hl => ?_)
      refine lv_goto (tgt := 17) hx hb dX7_digestPlayers_43 (by decide) ?_
      exact hih17 _ _ _ _ _ _ _ (lv_sub hl [0, 2, 1, 3] rfl) hW hS h
  have hL17 : ∀ (ih5 : Int32 → Int64 → St → Option (Except String Int64 × St)) (hih5 : ∀ (y5 : Int32) (y3 : Int64) (u : St) (H : Heap) (locs : List Loc) (ls : Array Slot), lv_has ls 7 [(5, .int y5), (3, .long y3), (0, .ref (ad 0 0))] → GW z ad (GC z ad N X u) H → va_S (zA z) s.heap H locs → ih5 y5 y3 u = some (.error E9, u9) → WW H locs (F0 m 5 ls [])), ∀ (n : Nat), ∀ (y6 : Int32) (y5 : Int32) (y3 : Int64) (u : St) (H : Heap) (locs : List Loc) (ls : Array Slot), lv_has ls 7 [(6, .int y6), (5, .int y5), (3, .long y3), (0, .ref (ad 0 0))] → GW z ad (GC z ad N X u) H → va_S (zA z) s.heap H locs → f_X7_digestPlayers_L17 N ih5 n y6 y5 y3 u = some (.error E9, u9) → WW H locs (F0 m 17 ls []) := by
    intro ih5 hih5 n
    induction n with
    | zero => intro y6 y5 y3 u H locs ls hl hW hS h; exact absurd h (by intro q; cases q)
    | succ n ihn => intro y6 y5 y3 u H locs ls hl hW hS h; exact hL17b ih5 hih5 (f_X7_digestPlayers_L17 N ih5 n) ihn y6 y5 y3 u H locs ls hl hW hS h
  have hL5b : ∀ (ih5 : Int32 → Int64 → St → Option (Except String Int64 × St)) (hih5 : ∀ (y5 : Int32) (y3 : Int64) (u : St) (H : Heap) (locs : List Loc) (ls : Array Slot), lv_has ls 7 [(5, .int y5), (3, .long y3), (0, .ref (ad 0 0))] → GW z ad (GC z ad N X u) H → va_S (zA z) s.heap H locs → ih5 y5 y3 u = some (.error E9, u9) → WW H locs (F0 m 5 ls [])), ∀ (y5 : Int32) (y3 : Int64) (u : St) (H : Heap) (locs : List Loc) (ls : Array Slot), lv_has ls 7 [(5, .int y5), (3, .long y3), (0, .ref (ad 0 0))] → GW z ad (GC z ad N X u) H → va_S (zA z) s.heap H locs → f_X7_digestPlayers_L5b N ih5 y5 y3 u = some (.error E9, u9) → WW H locs (F0 m 5 ls []) := by
    intro ih5 hih5 y5 y3 u H locs ls hl hW hS h
    change W p l e _ s m _ below meth c H locs 0 0 _ (F0 m 5 ls [])
    unfold f_X7_digestPlayers_L5b at h
    refine lv_iload hx hb dX7_digestPlayers_5 (lv_at hl 0 rfl) ?_
    refine lv_aload_n hx hb dX7_digestPlayers_7 rfl (lv_at hl 2 rfl) ?_
    refine nb_get hx hb hT hK hown hW fl_X7_147 kr_0 (v := .int (u 2 0 0)) rfl dX7_digestPlayers_8 ?_
    refine lv_icmp_ge (tgt := 102) hx hb dX7_digestPlayers_11 (by decide) (fun c1 => ?_) (fun c1 => ?_)
    · replace h := ite_t h c1
      refine lv_lload_n hx hb dX7_digestPlayers_102 rfl (lv_at hl 1 rfl) ?_
      exact absurd h (by intro q; cases q)
    · replace h := ite_f h c1
      refine lv_iconst (v := 0) hx hb dX7_digestPlayers_14 (by decide) ?_
      refine lv_istore (lv' := [(6, .int 0), (5, .int y5), (3, .long y3), (0, .ref (ad 0 0))]) hx hb dX7_digestPlayers_15 hl (by decide) rfl (fun ls hl => ?_)
      exact hL17 ih5 hih5 1000000 _ _ _ _ _ _ _ (lv_sub hl [0, 1, 2, 3] rfl) hW hS h
  have hL5 : ∀ (n : Nat), ∀ (y5 : Int32) (y3 : Int64) (u : St) (H : Heap) (locs : List Loc) (ls : Array Slot), lv_has ls 7 [(5, .int y5), (3, .long y3), (0, .ref (ad 0 0))] → GW z ad (GC z ad N X u) H → va_S (zA z) s.heap H locs → f_X7_digestPlayers_L5 N n y5 y3 u = some (.error E9, u9) → WW H locs (F0 m 5 ls []) := by
    intro n
    induction n with
    | zero => intro y5 y3 u H locs ls hl hW hS h; exact absurd h (by intro q; cases q)
    | succ n ihn => intro y5 y3 u H locs ls hl hW hS h; exact hL5b (f_X7_digestPlayers_L5 N n) ihn y5 y3 u H locs ls hl hW hS h
  unfold f_X7_digestPlayers at h
  refine lv_lload_n hx hb dX7_digestPlayers_0 rfl (lv_at hl 1 rfl) ?_
  refine lv_lstore_n (lv' := [(3, .long x1), (0, .ref (ad 0 0)), (1, .long x1)]) hx hb dX7_digestPlayers_1 rfl hl (by decide) rfl (fun ls hl => ?_)
  refine lv_iconst (v := 0) hx hb dX7_digestPlayers_2 (by decide) ?_
  refine lv_istore (lv' := [(5, .int 0), (3, .long x1), (0, .ref (ad 0 0)), (1, .long x1)]) hx hb dX7_digestPlayers_3 hl (by decide) rfl (fun ls hl => ?_)
  exact hL5 1000000 _ _ _ _ _ _ (lv_sub hl [0, 1, 2] rfl) hW hS h
-- Panyard.digestPlacesAndMarks
set_option maxRecDepth 100000 in
set_option maxHeartbeats 4000000 in
theorem cx_X7_digestPlacesAndMarks (l : Launch) (z : Zt) (ad : Ad) (N : Nt) (X : Gt) (u : St) (x1 : Int64) (hfl : l.stackTraces = false) {E9 : String} {u9 : St} (h : f_X7_digestPlacesAndMarks N u x1 = some (.error E9, u9)) : MX l z yX7_digestPlacesAndMarks cX7_digestPlacesAndMarks 6 (some .long) { frames := 8, cells := 1, slots := 6, locals := 125 } [.ref (ad 0 0), .long x1] ad (GC z ad N X u) (QlF z) (GC z ad N X u9) E9 := by
  refine vx_ofW (cc := cX7_digestPlacesAndMarks) (maxL := 6) (ret := (some .long)) (by decide) rfl ?_
  intro p e s m args below meth c s₁ B hml ht hv
  obtain ⟨rfl, hSW, hW⟩ := hv
  have hx := B.exec; have hb := B.bytes; have hr := B.returns; have hlocks := B.notSynchronized
  have hown : s.vm.findClass RX7 = some m.cls := findClass_of_methodNamed B.named
  obtain ⟨hT, hK, hST, hB0⟩ := id hSW
  have hS : va_S (zA z) s.heap s.heap [] := va_S.rf
  have hl := lv_entry ([.ref (ad 0 0), .long x1]) (n := 6) (Nat.le_of_ble_eq_true rfl)
  rw [lg_entry_eq]
  generalize (lg_sl ([.ref (ad 0 0), .long x1]) ++ List.replicate (6 - (lg_sl ([.ref (ad 0 0), .long x1])).length) Slot.unset).toArray = ls at hl ⊢
  have hl : lv_has ls 6 [(0, .ref (ad 0 0)), (1, .long x1)] := hl
  let WW : Heap → List Loc → JFrame → Prop := fun H locs g => W p l e (headSpec [Cond.code yX7_digestPlacesAndMarks cX7_digestPlacesAndMarks 6 (some .long)] { frames := 8, cells := 1, slots := 6, locals := 125 }).room s m [.ref (ad 0 0), .long x1].toArray below meth c H locs 0 0 (vx_MQ below (QlF z) (XX z ad (GC z ad N X u9) E9) [.ref (ad 0 0), .long x1].toArray s 1 6 (zA z)) g
  have hL56b : ∀ (ih56 : Int32 → Int64 → St → Option (Except String Int64 × St)) (hih56 : ∀ (y5 : Int32) (y3 : Int64) (u : St) (H : Heap) (locs : List Loc) (ls : Array Slot), lv_has ls 6 [(5, .int y5), (3, .long y3), (0, .ref (ad 0 0))] → GW z ad (GC z ad N X u) H → va_S (zA z) s.heap H locs → ih56 y5 y3 u = some (.error E9, u9) → WW H locs (F0 m 56 ls [])), ∀ (y5 : Int32) (y3 : Int64) (u : St) (H : Heap) (locs : List Loc) (ls : Array Slot), lv_has ls 6 [(5, .int y5), (3, .long y3), (0, .ref (ad 0 0))] → GW z ad (GC z ad N X u) H → va_S (zA z) s.heap H locs → f_X7_digestPlacesAndMarks_L56b N ih56 y5 y3 u = some (.error E9, u9) → WW H locs (F0 m 56 ls []) := by
    intro ih56 hih56 y5 y3 u H locs ls hl hW hS h
    change W p l e _ s m _ below meth c H locs 0 0 _ (F0 m 56 ls [])
    unfold f_X7_digestPlacesAndMarks_L56b at h
    refine lv_iload hx hb dX7_digestPlacesAndMarks_56 (lv_at hl 0 rfl) ?_
    refine lv_iconst (v := 4) hx hb dX7_digestPlacesAndMarks_58 (by decide) ?_
    refine lv_icmp_ge (tgt := 82) hx hb dX7_digestPlacesAndMarks_59 (by decide) (fun c2 => ?_) (fun c2 => ?_)
    · replace h := ite_t h c2
      refine lv_lload_n hx hb dX7_digestPlacesAndMarks_82 rfl (lv_at hl 1 rfl) ?_
      exact absurd h (by intro q; cases q)
    · replace h := ite_f h c2
      refine lv_lload_n hx hb dX7_digestPlacesAndMarks_62 rfl (lv_at hl 1 rfl) ?_
      refine lv_ldc2 (v := 31) hx hb hown (hT.use (List.mem_of_getElem? (i := 283) (by decide +kernel)) rfl) dX7_digestPlacesAndMarks_63 ?_
      refine lv_lmul hx hb dX7_digestPlacesAndMarks_66 ?_
      refine lv_aload_n hx hb dX7_digestPlacesAndMarks_67 rfl (lv_at hl 2 rfl) ?_
      refine lv_iload hx hb dX7_digestPlacesAndMarks_68 (lv_at hl 0 rfl) ?_
      rcases xb_e h with ⟨r3, u5, h4, h⟩ | h
      rotate_left
      · exact nx_ci (nx_runV (As := [.int y5]) (rest := [.long (y3 * 31)]) hx hb hml hown hSW hS hW (cx_X7_mark l z ad N X u y5 hfl h) mf_X7_mark (List.mem_of_getElem? (i := 614) (by decide +kernel)) kr_0 rfl rfl ⟨rfl, rfl⟩ ⟨Nat.le_of_ble_eq_true rfl, Nat.le_of_ble_eq_true rfl⟩ hl.1 (Nat.le_of_ble_eq_true rfl) dX7_digestPlacesAndMarks_70 ⟨Nat.le_of_ble_eq_true rfl, Nat.le_of_ble_eq_true rfl⟩) hS (fun ce9 q9 H locs hce hcv hcc hW hS => nx_out (fun x9 h9 => (ht x9 h9).elim) hlocks hce hcv hcc hW hS ⟨Nat.le_of_ble_eq_true rfl, Nat.le_of_ble_eq_true rfl⟩)
      refine nb_ci (nb_runV (As := [.int y5]) (rest := [.long (y3 * 31)]) hx hb hml hown hSW hS hW (c_X7_mark l z ad N X u y5 h4) mf_X7_mark lk_X7_465 kr_0 rfl rfl ⟨rfl, rfl⟩ ⟨Nat.le_of_ble_eq_true rfl, Nat.le_of_ble_eq_true rfl⟩ hl.1 (Nat.le_of_ble_eq_true rfl) dX7_digestPlacesAndMarks_70 ⟨Nat.le_of_ble_eq_true rfl, Nat.le_of_ble_eq_true rfl⟩) hS (fun H locs (hW : GW z ad (GC z ad N X u5) H) hS => ?_)
      refine lv_i2l hx hb dX7_digestPlacesAndMarks_73 rfl ?_
      refine lv_ladd hx hb dX7_digestPlacesAndMarks_74 ?_
      refine lv_topl (fun v6 ev6 => ?_)
      replace h := nm_at ev6 h
      refine lv_lstore_n (lv' := [(3, .long v6), (5, .int y5), (0, .ref (ad 0 0))]) hx hb dX7_digestPlacesAndMarks_75 rfl hl (by decide) rfl (fun ls hl => ?_)
      obtain ⟨v7, ev7, h⟩ := nm_s h
      refine lv_iinc (v := v7) (lv' := [(5, .int v7), (3, .long v6), (0, .ref (ad 0 0))]) hx hb dX7_digestPlacesAndMarks_76 hl (k := 1) rfl (by rw [ev7]; rfl) (by decide) rfl (fun ls hl => ?_)
      refine lv_goto (tgt := 56) hx hb dX7_digestPlacesAndMarks_79 (by decide) ?_
      exact hih56 _ _ _ _ _ _ (lv_sub hl [0, 1, 2] rfl) hW hS h
  have hL56 : ∀ (n : Nat), ∀ (y5 : Int32) (y3 : Int64) (u : St) (H : Heap) (locs : List Loc) (ls : Array Slot), lv_has ls 6 [(5, .int y5), (3, .long y3), (0, .ref (ad 0 0))] → GW z ad (GC z ad N X u) H → va_S (zA z) s.heap H locs → f_X7_digestPlacesAndMarks_L56 N n y5 y3 u = some (.error E9, u9) → WW H locs (F0 m 56 ls []) := by
    intro n
    induction n with
    | zero => intro y5 y3 u H locs ls hl hW hS h; exact absurd h (by intro q; cases q)
    | succ n ihn => intro y5 y3 u H locs ls hl hW hS h; exact hL56b (f_X7_digestPlacesAndMarks_L56 N n) ihn y5 y3 u H locs ls hl hW hS h
  have hL5b : ∀ (ih5 : Int32 → Int64 → St → Option (Except String Int64 × St)) (hih5 : ∀ (y5 : Int32) (y3 : Int64) (u : St) (H : Heap) (locs : List Loc) (ls : Array Slot), lv_has ls 6 [(5, .int y5), (3, .long y3), (0, .ref (ad 0 0))] → GW z ad (GC z ad N X u) H → va_S (zA z) s.heap H locs → ih5 y5 y3 u = some (.error E9, u9) → WW H locs (F0 m 5 ls [])), ∀ (y5 : Int32) (y3 : Int64) (u : St) (H : Heap) (locs : List Loc) (ls : Array Slot), lv_has ls 6 [(5, .int y5), (3, .long y3), (0, .ref (ad 0 0))] → GW z ad (GC z ad N X u) H → va_S (zA z) s.heap H locs → f_X7_digestPlacesAndMarks_L5b N ih5 y5 y3 u = some (.error E9, u9) → WW H locs (F0 m 5 ls []) := by
    intro ih5 hih5 y5 y3 u H locs ls hl hW hS h
    change W p l e _ s m _ below meth c H locs 0 0 _ (F0 m 5 ls [])
    unfold f_X7_digestPlacesAndMarks_L5b at h
    refine lv_iload hx hb dX7_digestPlacesAndMarks_5 (lv_at hl 0 rfl) ?_
    refine lv_aload_n hx hb dX7_digestPlacesAndMarks_7 rfl (lv_at hl 2 rfl) ?_
    refine nb_get hx hb hT hK hown hW fl_X7_30 kr_0 (v := .ref (ad 8 0)) rfl dX7_digestPlacesAndMarks_8 ?_
    refine nb_get hx hb hT hK hown hW fl_X7_160 (kr_8 (by decide)) (v := .int (u 43 0 0)) rfl dX7_digestPlacesAndMarks_11 ?_
    refine lv_icmp_ge (tgt := 53) hx hb dX7_digestPlacesAndMarks_14 (by decide) (fun c1 => ?_) (fun c1 => ?_)
    · replace h := ite_t h c1
      refine lv_iconst (v := 0) hx hb dX7_digestPlacesAndMarks_53 (by decide) ?_
      refine lv_istore (lv' := [(5, .int 0), (3, .long y3), (0, .ref (ad 0 0))]) hx hb dX7_digestPlacesAndMarks_54 hl (by decide) rfl (fun ls hl => ?_)
      exact hL56 1000000 _ _ _ _ _ _ (lv_sub hl [0, 1, 2] rfl) hW hS h
    · replace h := ite_f h c1
      refine lv_lload_n hx hb dX7_digestPlacesAndMarks_17 rfl (lv_at hl 1 rfl) ?_
      refine lv_ldc2 (v := 31) hx hb hown (hT.use (List.mem_of_getElem? (i := 283) (by decide +kernel)) rfl) dX7_digestPlacesAndMarks_18 ?_
      refine lv_lmul hx hb dX7_digestPlacesAndMarks_21 ?_
      refine lv_aload_n hx hb dX7_digestPlacesAndMarks_22 rfl (lv_at hl 2 rfl) ?_
      refine lv_iload hx hb dX7_digestPlacesAndMarks_23 (lv_at hl 0 rfl) ?_
      refine lv_iconst (v := 0) hx hb dX7_digestPlacesAndMarks_25 (by decide) ?_
      rcases xb_e h with ⟨r8, u10, h09, h⟩ | h
      rotate_left
      · exact nx_ci (nx_runV (As := [.int y5, .int 0]) (rest := [.long (y3 * 31)]) hx hb hml hown hSW hS hW (cx_X7_ofPlace l z ad N X u y5 0 hfl h) mf_X7_ofPlace (List.mem_of_getElem? (i := 604) (by decide +kernel)) kr_0 rfl rfl ⟨rfl, rfl⟩ ⟨Nat.le_of_ble_eq_true rfl, Nat.le_of_ble_eq_true rfl⟩ hl.1 (Nat.le_of_ble_eq_true rfl) dX7_digestPlacesAndMarks_26 ⟨Nat.le_of_ble_eq_true rfl, Nat.le_of_ble_eq_true rfl⟩) hS (fun ce9 q9 H locs hce hcv hcc hW hS => nx_out (fun x9 h9 => (ht x9 h9).elim) hlocks hce hcv hcc hW hS ⟨Nat.le_of_ble_eq_true rfl, Nat.le_of_ble_eq_true rfl⟩)
      refine nb_ci (nb_runV (As := [.int y5, .int 0]) (rest := [.long (y3 * 31)]) hx hb hml hown hSW hS hW (c_X7_ofPlace l z ad N X u y5 0 h09) mf_X7_ofPlace lk_X7_462 kr_0 rfl rfl ⟨rfl, rfl⟩ ⟨Nat.le_of_ble_eq_true rfl, Nat.le_of_ble_eq_true rfl⟩ hl.1 (Nat.le_of_ble_eq_true rfl) dX7_digestPlacesAndMarks_26 ⟨Nat.le_of_ble_eq_true rfl, Nat.le_of_ble_eq_true rfl⟩) hS (fun H locs (hW : GW z ad (GC z ad N X u10) H) hS => ?_)
      refine lv_i2l hx hb dX7_digestPlacesAndMarks_29 rfl ?_
      refine lv_ladd hx hb dX7_digestPlacesAndMarks_30 ?_
      refine lv_topl (fun v11 ev11 => ?_)
      replace h := nm_at ev11 h
      refine lv_lstore_n (lv' := [(3, .long v11), (5, .int y5), (0, .ref (ad 0 0))]) hx hb dX7_digestPlacesAndMarks_31 rfl hl (by decide) rfl (fun ls hl => ?_)
      refine lv_lload_n hx hb dX7_digestPlacesAndMarks_32 rfl (lv_at hl 0 rfl) ?_
      refine lv_ldc2 (v := 31) hx hb hown (hT.use (List.mem_of_getElem? (i := 283) (by decide +kernel)) rfl) dX7_digestPlacesAndMarks_33 ?_
      refine lv_lmul hx hb dX7_digestPlacesAndMarks_36 ?_
      refine lv_aload_n hx hb dX7_digestPlacesAndMarks_37 rfl (lv_at hl 2 rfl) ?_
      refine lv_iload hx hb dX7_digestPlacesAndMarks_38 (lv_at hl 1 rfl) ?_
      refine lv_iconst (v := 1) hx hb dX7_digestPlacesAndMarks_40 (by decide) ?_
      rcases xb_e h with ⟨r12, u14, h13, h⟩ | h
      rotate_left
      · exact nx_ci (nx_runV (As := [.int y5, .int 1]) (rest := [.long (v11 * 31)]) hx hb hml hown hSW hS hW (cx_X7_ofPlace l z ad N X u10 y5 1 hfl h) mf_X7_ofPlace (List.mem_of_getElem? (i := 604) (by decide +kernel)) kr_0 rfl rfl ⟨rfl, rfl⟩ ⟨Nat.le_of_ble_eq_true rfl, Nat.le_of_ble_eq_true rfl⟩ hl.1 (Nat.le_of_ble_eq_true rfl) dX7_digestPlacesAndMarks_41 ⟨Nat.le_of_ble_eq_true rfl, Nat.le_of_ble_eq_true rfl⟩) hS (fun ce9 q9 H locs hce hcv hcc hW hS => nx_out (fun x9 h9 => (ht x9 h9).elim) hlocks hce hcv hcc hW hS ⟨Nat.le_of_ble_eq_true rfl, Nat.le_of_ble_eq_true rfl⟩)
      refine nb_ci (nb_runV (As := [.int y5, .int 1]) (rest := [.long (v11 * 31)]) hx hb hml hown hSW hS hW (c_X7_ofPlace l z ad N X u10 y5 1 h13) mf_X7_ofPlace lk_X7_462 kr_0 rfl rfl ⟨rfl, rfl⟩ ⟨Nat.le_of_ble_eq_true rfl, Nat.le_of_ble_eq_true rfl⟩ hl.1 (Nat.le_of_ble_eq_true rfl) dX7_digestPlacesAndMarks_41 ⟨Nat.le_of_ble_eq_true rfl, Nat.le_of_ble_eq_true rfl⟩) hS (fun H locs (hW : GW z ad (GC z ad N X u14) H) hS => ?_)
      refine lv_i2l hx hb dX7_digestPlacesAndMarks_44 rfl ?_
      refine lv_ladd hx hb dX7_digestPlacesAndMarks_45 ?_
      refine lv_topl (fun v15 ev15 => ?_)
      replace h := nm_at ev15 h
      refine lv_lstore_n (lv' := [(3, .long v15), (5, .int y5), (0, .ref (ad 0 0))]) hx hb dX7_digestPlacesAndMarks_46 rfl hl (by decide) rfl (fun ls hl => ?_)
      obtain ⟨v16, ev16, h⟩ := nm_s h
      refine lv_iinc (v := v16) (lv' := [(5, .int v16), (3, .long v15), (0, .ref (ad 0 0))]) hx hb dX7_digestPlacesAndMarks_47 hl (k := 1) rfl (by rw [ev16]; rfl) (by decide) rfl (fun ls hl => ?_)
      refine lv_goto (tgt := 5) hx hb dX7_digestPlacesAndMarks_50 (by decide) ?_
      exact hih5 _ _ _ _ _ _ (lv_sub hl [0, 1, 2] rfl) hW hS h
  have hL5 : ∀ (n : Nat), ∀ (y5 : Int32) (y3 : Int64) (u : St) (H : Heap) (locs : List Loc) (ls : Array Slot), lv_has ls 6 [(5, .int y5), (3, .long y3), (0, .ref (ad 0 0))] → GW z ad (GC z ad N X u) H → va_S (zA z) s.heap H locs → f_X7_digestPlacesAndMarks_L5 N n y5 y3 u = some (.error E9, u9) → WW H locs (F0 m 5 ls []) := by
    intro n
    induction n with
    | zero => intro y5 y3 u H locs ls hl hW hS h; exact absurd h (by intro q; cases q)
    | succ n ihn => intro y5 y3 u H locs ls hl hW hS h; exact hL5b (f_X7_digestPlacesAndMarks_L5 N n) ihn y5 y3 u H locs ls hl hW hS h
  unfold f_X7_digestPlacesAndMarks at h
  refine lv_lload_n hx hb dX7_digestPlacesAndMarks_0 rfl (lv_at hl 1 rfl) ?_
  refine lv_lstore_n (lv' := [(3, .long x1), (0, .ref (ad 0 0)), (1, .long x1)]) hx hb dX7_digestPlacesAndMarks_1 rfl hl (by decide) rfl (fun ls hl => ?_)
  refine lv_iconst (v := 0) hx hb dX7_digestPlacesAndMarks_2 (by decide) ?_
  refine lv_istore (lv' := [(5, .int 0), (3, .long x1), (0, .ref (ad 0 0)), (1, .long x1)]) hx hb dX7_digestPlacesAndMarks_3 hl (by decide) rfl (fun ls hl => ?_)
  exact hL5 1000000 _ _ _ _ _ _ (lv_sub hl [0, 1, 2] rfl) hW hS h
-- Panyard.digest
set_option maxRecDepth 100000 in
set_option maxHeartbeats 4000000 in
theorem cx_X7_digest (l : Launch) (z : Zt) (ad : Ad) (N : Nt) (X : Gt) (u : St) (hfl : l.stackTraces = false) {E9 : String} {u9 : St} (h : f_X7_digest N u = some (.error E9, u9)) : MX l z yX7_digest cX7_digest 4 (some .long) { frames := 9, cells := 1, slots := 6, locals := 165 } [.ref (ad 0 0)] ad (GC z ad N X u) (QlF z) (GC z ad N X u9) E9 := by
  refine vx_ofW (cc := cX7_digest) (maxL := 4) (ret := (some .long)) (by decide) rfl ?_
  intro p e s m args below meth c s₁ B hml ht hv
  obtain ⟨rfl, hSW, hW⟩ := hv
  have hx := B.exec; have hb := B.bytes; have hr := B.returns; have hlocks := B.notSynchronized
  have hown : s.vm.findClass RX7 = some m.cls := findClass_of_methodNamed B.named
  obtain ⟨hT, hK, hST, hB0⟩ := id hSW
  have hS : va_S (zA z) s.heap s.heap [] := va_S.rf
  have hl := lv_entry ([.ref (ad 0 0)]) (n := 4) (Nat.le_of_ble_eq_true rfl)
  rw [lg_entry_eq]
  generalize (lg_sl ([.ref (ad 0 0)]) ++ List.replicate (4 - (lg_sl ([.ref (ad 0 0)])).length) Slot.unset).toArray = ls at hl ⊢
  have hl : lv_has ls 4 [(0, .ref (ad 0 0))] := hl
  let WW : Heap → List Loc → JFrame → Prop := fun H locs g => W p l e (headSpec [Cond.code yX7_digest cX7_digest 4 (some .long)] { frames := 9, cells := 1, slots := 6, locals := 165 }).room s m [.ref (ad 0 0)].toArray below meth c H locs 0 0 (vx_MQ below (QlF z) (XX z ad (GC z ad N X u9) E9) [.ref (ad 0 0)].toArray s 1 6 (zA z)) g
  have hL57b : ∀ (ih57 : Int32 → Int64 → St → Option (Except String Int64 × St)) (hih57 : ∀ (y3 : Int32) (y1 : Int64) (u : St) (H : Heap) (locs : List Loc) (ls : Array Slot), lv_has ls 4 [(3, .int y3), (1, .long y1), (0, .ref (ad 0 0))] → GW z ad (GC z ad N X u) H → va_S (zA z) s.heap H locs → ih57 y3 y1 u = some (.error E9, u9) → WW H locs (F0 m 57 ls [])), ∀ (y3 : Int32) (y1 : Int64) (u : St) (H : Heap) (locs : List Loc) (ls : Array Slot), lv_has ls 4 [(3, .int y3), (1, .long y1), (0, .ref (ad 0 0))] → GW z ad (GC z ad N X u) H → va_S (zA z) s.heap H locs → f_X7_digest_L57b N ih57 y3 y1 u = some (.error E9, u9) → WW H locs (F0 m 57 ls []) := by
    intro ih57 hih57 y3 y1 u H locs ls hl hW hS h
    change W p l e _ s m _ below meth c H locs 0 0 _ (F0 m 57 ls [])
    unfold f_X7_digest_L57b at h
    refine lv_iload_n hx hb dX7_digest_57 rfl (lv_at hl 0 rfl) ?_
    refine lv_iconst (v := 3) hx hb dX7_digest_58 (by decide) ?_
    refine lv_icmp_ge (tgt := 96) hx hb dX7_digest_59 (by decide) (fun c14 => ?_) (fun c14 => ?_)
    · replace h := ite_t h c14
      refine lv_lload_n hx hb dX7_digest_96 rfl (lv_at hl 1 rfl) ?_
      refine lv_ldc2 (v := 31) hx hb hown (hT.use (List.mem_of_getElem? (i := 283) (by decide +kernel)) rfl) dX7_digest_97 ?_
      refine lv_lmul hx hb dX7_digest_100 ?_
      refine lv_aload_n hx hb dX7_digest_101 rfl (lv_at hl 2 rfl) ?_
      refine lv_iconst (v := 5) hx hb dX7_digest_102 (by decide) ?_
      rcases xb_e h with ⟨r15, u17, h16, h⟩ | h
      rotate_left
      · exact nx_ci (nx_runV (As := [.int 5]) (rest := [.long (y1 * 31)]) hx hb hml hown hSW hS hW (cx_X7_wouldTotal l z ad N X u 5 hfl h) mf_X7_wouldTotal (List.mem_of_getElem? (i := 624) (by decide +kernel)) kr_0 rfl rfl ⟨rfl, rfl⟩ ⟨Nat.le_of_ble_eq_true rfl, Nat.le_of_ble_eq_true rfl⟩ hl.1 (Nat.le_of_ble_eq_true rfl) dX7_digest_103 ⟨Nat.le_of_ble_eq_true rfl, Nat.le_of_ble_eq_true rfl⟩) hS (fun ce9 q9 H locs hce hcv hcc hW hS => nx_out (fun x9 h9 => (ht x9 h9).elim) hlocks hce hcv hcc hW hS ⟨Nat.le_of_ble_eq_true rfl, Nat.le_of_ble_eq_true rfl⟩)
      refine nb_ci (nb_runV (As := [.int 5]) (rest := [.long (y1 * 31)]) hx hb hml hown hSW hS hW (c_X7_wouldTotal l z ad N X u 5 h16) mf_X7_wouldTotal lk_X7_435 kr_0 rfl rfl ⟨rfl, rfl⟩ ⟨Nat.le_of_ble_eq_true rfl, Nat.le_of_ble_eq_true rfl⟩ hl.1 (Nat.le_of_ble_eq_true rfl) dX7_digest_103 ⟨Nat.le_of_ble_eq_true rfl, Nat.le_of_ble_eq_true rfl⟩) hS (fun H locs (hW : GW z ad (GC z ad N X u17) H) hS => ?_)
      refine lv_i2l hx hb dX7_digest_106 rfl ?_
      refine lv_ladd hx hb dX7_digest_107 ?_
      refine lv_topl (fun v18 ev18 => ?_)
      replace h := nm_at ev18 h
      refine lv_lstore_n (lv' := [(1, .long v18), (3, .int y3), (0, .ref (ad 0 0))]) hx hb dX7_digest_108 rfl hl (by decide) rfl (fun ls hl => ?_)
      refine lv_aload_n hx hb dX7_digest_109 rfl (lv_at hl 2 rfl) ?_
      refine nb_get hx hb hT hK hown hW fl_X7_30 kr_0 (v := .ref (ad 8 0)) rfl dX7_digest_110 ?_
      refine nb_get hx hb hT hK hown hW fl_X7_160 (kr_8 (by decide)) (v := .int (u17 43 0 0)) rfl dX7_digest_113 ?_
      refine lv_iconst (v := 5) hx hb dX7_digest_116 (by decide) ?_
      refine lv_icmp_gt (tgt := 132) hx hb dX7_digest_117 (by decide) (fun c19 => ?_) (fun c19 => ?_)
      · replace h := ite_t h c19
        refine lv_lload_n hx hb dX7_digest_132 rfl (lv_at hl 0 rfl) ?_
        exact absurd h (by intro q; cases q)
      · replace h := ite_f h c19
        refine lv_lload_n hx hb dX7_digest_120 rfl (lv_at hl 0 rfl) ?_
        refine lv_ldc2 (v := 31) hx hb hown (hT.use (List.mem_of_getElem? (i := 283) (by decide +kernel)) rfl) dX7_digest_121 ?_
        refine lv_lmul hx hb dX7_digest_124 ?_
        refine lv_aload_n hx hb dX7_digest_125 rfl (lv_at hl 2 rfl) ?_
        rcases xb_e h with ⟨r20, u22, h21, h⟩ | h
        rotate_left
        · exact nx_ci (nx_runV (As := []) (rest := [.long (v18 * 31)]) hx hb hml hown hSW hS hW (cx_X7_bestOrder l z ad N X u17 hfl h) mf_X7_bestOrder (List.mem_of_getElem? (i := 634) (by decide +kernel)) kr_0 rfl rfl ⟨rfl, rfl⟩ ⟨Nat.le_of_ble_eq_true rfl, Nat.le_of_ble_eq_true rfl⟩ hl.1 (Nat.le_of_ble_eq_true rfl) dX7_digest_126 ⟨Nat.le_of_ble_eq_true rfl, Nat.le_of_ble_eq_true rfl⟩) hS (fun ce9 q9 H locs hce hcv hcc hW hS => nx_out (fun x9 h9 => (ht x9 h9).elim) hlocks hce hcv hcc hW hS ⟨Nat.le_of_ble_eq_true rfl, Nat.le_of_ble_eq_true rfl⟩)
        refine nb_ci (nb_runV (As := []) (rest := [.long (v18 * 31)]) hx hb hml hown hSW hS hW (c_X7_bestOrder l z ad N X u17 h21) mf_X7_bestOrder lk_X7_438 kr_0 rfl rfl ⟨rfl, rfl⟩ ⟨Nat.le_of_ble_eq_true rfl, Nat.le_of_ble_eq_true rfl⟩ hl.1 (Nat.le_of_ble_eq_true rfl) dX7_digest_126 ⟨Nat.le_of_ble_eq_true rfl, Nat.le_of_ble_eq_true rfl⟩) hS (fun H locs (hW : GW z ad (GC z ad N X u22) H) hS => ?_)
        refine lv_i2l hx hb dX7_digest_129 rfl ?_
        refine lv_ladd hx hb dX7_digest_130 ?_
        refine lv_topl (fun v23 ev23 => ?_)
        replace h := nm_at ev23 h
        refine lv_lstore_n (lv' := [(1, .long v23), (3, .int y3), (0, .ref (ad 0 0))]) hx hb dX7_digest_131 rfl hl (by decide) rfl (fun ls hl => ?_)
        refine lv_lload_n hx hb dX7_digest_132 rfl (lv_at hl 0 rfl) ?_
        exact absurd h (by intro q; cases q)
    · replace h := ite_f h c14
      refine lv_lload_n hx hb dX7_digest_62 rfl (lv_at hl 1 rfl) ?_
      refine lv_ldc2 (v := 31) hx hb hown (hT.use (List.mem_of_getElem? (i := 283) (by decide +kernel)) rfl) dX7_digest_63 ?_
      refine lv_lmul hx hb dX7_digest_66 ?_
      refine lv_aload_n hx hb dX7_digest_67 rfl (lv_at hl 2 rfl) ?_
      refine lv_iload_n hx hb dX7_digest_68 rfl (lv_at hl 0 rfl) ?_
      refine lv_iconst (v := 0) hx hb dX7_digest_69 (by decide) ?_
      rcases xb_e h with ⟨r24, u26, h25, h⟩ | h
      rotate_left
      · exact nx_ci (nx_runV (As := [.int y3, .int 0]) (rest := [.long (y1 * 31)]) hx hb hml hown hSW hS hW (cx_X7_ofRound l z ad N X u y3 0 hfl h) mf_X7_ofRound (List.mem_of_getElem? (i := 619) (by decide +kernel)) kr_0 rfl rfl ⟨rfl, rfl⟩ ⟨Nat.le_of_ble_eq_true rfl, Nat.le_of_ble_eq_true rfl⟩ hl.1 (Nat.le_of_ble_eq_true rfl) dX7_digest_70 ⟨Nat.le_of_ble_eq_true rfl, Nat.le_of_ble_eq_true rfl⟩) hS (fun ce9 q9 H locs hce hcv hcc hW hS => nx_out (fun x9 h9 => (ht x9 h9).elim) hlocks hce hcv hcc hW hS ⟨Nat.le_of_ble_eq_true rfl, Nat.le_of_ble_eq_true rfl⟩)
      refine nb_ci (nb_runV (As := [.int y3, .int 0]) (rest := [.long (y1 * 31)]) hx hb hml hown hSW hS hW (c_X7_ofRound l z ad N X u y3 0 h25) mf_X7_ofRound lk_X7_432 kr_0 rfl rfl ⟨rfl, rfl⟩ ⟨Nat.le_of_ble_eq_true rfl, Nat.le_of_ble_eq_true rfl⟩ hl.1 (Nat.le_of_ble_eq_true rfl) dX7_digest_70 ⟨Nat.le_of_ble_eq_true rfl, Nat.le_of_ble_eq_true rfl⟩) hS (fun H locs (hW : GW z ad (GC z ad N X u26) H) hS => ?_)
      refine lv_i2l hx hb dX7_digest_73 rfl ?_
      refine lv_ladd hx hb dX7_digest_74 ?_
      refine lv_topl (fun v27 ev27 => ?_)
      replace h := nm_at ev27 h
      refine lv_lstore_n (lv' := [(1, .long v27), (3, .int y3), (0, .ref (ad 0 0))]) hx hb dX7_digest_75 rfl hl (by decide) rfl (fun ls hl => ?_)
      refine lv_lload_n hx hb dX7_digest_76 rfl (lv_at hl 0 rfl) ?_
      refine lv_ldc2 (v := 31) hx hb hown (hT.use (List.mem_of_getElem? (i := 283) (by decide +kernel)) rfl) dX7_digest_77 ?_
      refine lv_lmul hx hb dX7_digest_80 ?_
      refine lv_aload_n hx hb dX7_digest_81 rfl (lv_at hl 2 rfl) ?_
      refine lv_iload_n hx hb dX7_digest_82 rfl (lv_at hl 1 rfl) ?_
      refine lv_iconst (v := 1) hx hb dX7_digest_83 (by decide) ?_
      rcases xb_e h with ⟨r28, u30, h29, h⟩ | h
      rotate_left
      · exact nx_ci (nx_runV (As := [.int y3, .int 1]) (rest := [.long (v27 * 31)]) hx hb hml hown hSW hS hW (cx_X7_ofRound l z ad N X u26 y3 1 hfl h) mf_X7_ofRound (List.mem_of_getElem? (i := 619) (by decide +kernel)) kr_0 rfl rfl ⟨rfl, rfl⟩ ⟨Nat.le_of_ble_eq_true rfl, Nat.le_of_ble_eq_true rfl⟩ hl.1 (Nat.le_of_ble_eq_true rfl) dX7_digest_84 ⟨Nat.le_of_ble_eq_true rfl, Nat.le_of_ble_eq_true rfl⟩) hS (fun ce9 q9 H locs hce hcv hcc hW hS => nx_out (fun x9 h9 => (ht x9 h9).elim) hlocks hce hcv hcc hW hS ⟨Nat.le_of_ble_eq_true rfl, Nat.le_of_ble_eq_true rfl⟩)
      refine nb_ci (nb_runV (As := [.int y3, .int 1]) (rest := [.long (v27 * 31)]) hx hb hml hown hSW hS hW (c_X7_ofRound l z ad N X u26 y3 1 h29) mf_X7_ofRound lk_X7_432 kr_0 rfl rfl ⟨rfl, rfl⟩ ⟨Nat.le_of_ble_eq_true rfl, Nat.le_of_ble_eq_true rfl⟩ hl.1 (Nat.le_of_ble_eq_true rfl) dX7_digest_84 ⟨Nat.le_of_ble_eq_true rfl, Nat.le_of_ble_eq_true rfl⟩) hS (fun H locs (hW : GW z ad (GC z ad N X u30) H) hS => ?_)
      refine lv_i2l hx hb dX7_digest_87 rfl ?_
      refine lv_ladd hx hb dX7_digest_88 ?_
      refine lv_topl (fun v31 ev31 => ?_)
      replace h := nm_at ev31 h
      refine lv_lstore_n (lv' := [(1, .long v31), (3, .int y3), (0, .ref (ad 0 0))]) hx hb dX7_digest_89 rfl hl (by decide) rfl (fun ls hl => ?_)
      obtain ⟨v32, ev32, h⟩ := nm_s h
      refine lv_iinc (v := v32) (lv' := [(3, .int v32), (1, .long v31), (0, .ref (ad 0 0))]) hx hb dX7_digest_90 hl (k := 1) rfl (by rw [ev32]; rfl) (by decide) rfl (fun ls hl => ?_)
      refine lv_goto (tgt := 57) hx hb dX7_digest_93 (by decide) ?_
      exact hih57 _ _ _ _ _ _ (lv_sub hl [0, 1, 2] rfl) hW hS h
  have hL57 : ∀ (n : Nat), ∀ (y3 : Int32) (y1 : Int64) (u : St) (H : Heap) (locs : List Loc) (ls : Array Slot), lv_has ls 4 [(3, .int y3), (1, .long y1), (0, .ref (ad 0 0))] → GW z ad (GC z ad N X u) H → va_S (zA z) s.heap H locs → f_X7_digest_L57 N n y3 y1 u = some (.error E9, u9) → WW H locs (F0 m 57 ls []) := by
    intro n
    induction n with
    | zero => intro y3 y1 u H locs ls hl hW hS h; exact absurd h (by intro q; cases q)
    | succ n ihn => intro y3 y1 u H locs ls hl hW hS h; exact hL57b (f_X7_digest_L57 N n) ihn y3 y1 u H locs ls hl hW hS h
  have hL6b : ∀ (ih6 : Int32 → Int64 → St → Option (Except String Int64 × St)) (hih6 : ∀ (y3 : Int32) (y1 : Int64) (u : St) (H : Heap) (locs : List Loc) (ls : Array Slot), lv_has ls 4 [(3, .int y3), (1, .long y1), (0, .ref (ad 0 0))] → GW z ad (GC z ad N X u) H → va_S (zA z) s.heap H locs → ih6 y3 y1 u = some (.error E9, u9) → WW H locs (F0 m 6 ls [])), ∀ (y3 : Int32) (y1 : Int64) (u : St) (H : Heap) (locs : List Loc) (ls : Array Slot), lv_has ls 4 [(3, .int y3), (1, .long y1), (0, .ref (ad 0 0))] → GW z ad (GC z ad N X u) H → va_S (zA z) s.heap H locs → f_X7_digest_L6b N ih6 y3 y1 u = some (.error E9, u9) → WW H locs (F0 m 6 ls []) := by
    intro ih6 hih6 y3 y1 u H locs ls hl hW hS h
    change W p l e _ s m _ below meth c H locs 0 0 _ (F0 m 6 ls [])
    unfold f_X7_digest_L6b at h
    refine lv_iload_n hx hb dX7_digest_6 rfl (lv_at hl 0 rfl) ?_
    refine lv_bipush (v := 13) hx hb dX7_digest_7 (by decide) ?_
    refine lv_icmp_gt (tgt := 31) hx hb dX7_digest_9 (by decide) (fun c1 => ?_) (fun c1 => ?_)
    · replace h := ite_t h c1
      refine lv_aload_n hx hb dX7_digest_31 rfl (lv_at hl 2 rfl) ?_
      refine lv_lload_n hx hb dX7_digest_32 rfl (lv_at hl 1 rfl) ?_
      rcases xb_e h with ⟨r2, u4, h3, h⟩ | h
      rotate_left
      · exact nx_cl (nx_runV (As := [.long y1]) (rest := []) hx hb hml hown hSW hS hW (cx_X7_digestPans l z ad N X u y1 hfl h) mf_X7_digestPans (List.mem_of_getElem? (i := 460) (by decide +kernel)) kr_0 rfl rfl ⟨rfl, rfl⟩ ⟨Nat.le_of_ble_eq_true rfl, Nat.le_of_ble_eq_true rfl⟩ hl.1 (Nat.le_of_ble_eq_true rfl) dX7_digest_33 ⟨Nat.le_of_ble_eq_true rfl, Nat.le_of_ble_eq_true rfl⟩) hS (fun ce9 q9 H locs hce hcv hcc hW hS => nx_out (fun x9 h9 => (ht x9 h9).elim) hlocks hce hcv hcc hW hS ⟨Nat.le_of_ble_eq_true rfl, Nat.le_of_ble_eq_true rfl⟩)
      refine nb_cl (nb_runV (As := [.long y1]) (rest := []) hx hb hml hown hSW hS hW (c_X7_digestPans l z ad N X u y1 h3) mf_X7_digestPans lk_X7_419 kr_0 rfl rfl ⟨rfl, rfl⟩ ⟨Nat.le_of_ble_eq_true rfl, Nat.le_of_ble_eq_true rfl⟩ hl.1 (Nat.le_of_ble_eq_true rfl) dX7_digest_33 ⟨Nat.le_of_ble_eq_true rfl, Nat.le_of_ble_eq_true rfl⟩) hS (fun H locs (hW : GW z ad (GC z ad N X u4) H) hS => ?_)
      refine lv_lstore_n (lv' := [(1, .long r2), (3, .int y3), (0, .ref (ad 0 0))]) hx hb dX7_digest_36 rfl hl (by decide) rfl (fun ls hl => ?_)
      refine lv_aload_n hx hb dX7_digest_37 rfl (lv_at hl 2 rfl) ?_
      refine lv_lload_n hx hb dX7_digest_38 rfl (lv_at hl 0 rfl) ?_
      rcases xb_e h with ⟨r5, u7, h6, h⟩ | h
      rotate_left
      · exact nx_cl (nx_runV (As := [.long r2]) (rest := []) hx hb hml hown hSW hS hW (cx_X7_digestPhrases l z ad N X u4 r2 hfl h) mf_X7_digestPhrases (List.mem_of_getElem? (i := 534) (by decide +kernel)) kr_0 rfl rfl ⟨rfl, rfl⟩ ⟨Nat.le_of_ble_eq_true rfl, Nat.le_of_ble_eq_true rfl⟩ hl.1 (Nat.le_of_ble_eq_true rfl) dX7_digest_39 ⟨Nat.le_of_ble_eq_true rfl, Nat.le_of_ble_eq_true rfl⟩) hS (fun ce9 q9 H locs hce hcv hcc hW hS => nx_out (fun x9 h9 => (ht x9 h9).elim) hlocks hce hcv hcc hW hS ⟨Nat.le_of_ble_eq_true rfl, Nat.le_of_ble_eq_true rfl⟩)
      refine nb_cl (nb_runV (As := [.long r2]) (rest := []) hx hb hml hown hSW hS hW (c_X7_digestPhrases l z ad N X u4 r2 h6) mf_X7_digestPhrases lk_X7_423 kr_0 rfl rfl ⟨rfl, rfl⟩ ⟨Nat.le_of_ble_eq_true rfl, Nat.le_of_ble_eq_true rfl⟩ hl.1 (Nat.le_of_ble_eq_true rfl) dX7_digest_39 ⟨Nat.le_of_ble_eq_true rfl, Nat.le_of_ble_eq_true rfl⟩) hS (fun H locs (hW : GW z ad (GC z ad N X u7) H) hS => ?_)
      refine lv_lstore_n (lv' := [(1, .long r5), (3, .int y3), (0, .ref (ad 0 0))]) hx hb dX7_digest_42 rfl hl (by decide) rfl (fun ls hl => ?_)
      refine lv_aload_n hx hb dX7_digest_43 rfl (lv_at hl 2 rfl) ?_
      refine lv_lload_n hx hb dX7_digest_44 rfl (lv_at hl 0 rfl) ?_
      rcases xb_e h with ⟨r8, u10, h09, h⟩ | h
      rotate_left
      · exact nx_cl (nx_runV (As := [.long r5]) (rest := []) hx hb hml hown hSW hS hW (cx_X7_digestPlayers l z ad N X u7 r5 hfl h) mf_X7_digestPlayers (List.mem_of_getElem? (i := 547) (by decide +kernel)) kr_0 rfl rfl ⟨rfl, rfl⟩ ⟨Nat.le_of_ble_eq_true rfl, Nat.le_of_ble_eq_true rfl⟩ hl.1 (Nat.le_of_ble_eq_true rfl) dX7_digest_45 ⟨Nat.le_of_ble_eq_true rfl, Nat.le_of_ble_eq_true rfl⟩) hS (fun ce9 q9 H locs hce hcv hcc hW hS => nx_out (fun x9 h9 => (ht x9 h9).elim) hlocks hce hcv hcc hW hS ⟨Nat.le_of_ble_eq_true rfl, Nat.le_of_ble_eq_true rfl⟩)
      refine nb_cl (nb_runV (As := [.long r5]) (rest := []) hx hb hml hown hSW hS hW (c_X7_digestPlayers l z ad N X u7 r5 h09) mf_X7_digestPlayers lk_X7_426 kr_0 rfl rfl ⟨rfl, rfl⟩ ⟨Nat.le_of_ble_eq_true rfl, Nat.le_of_ble_eq_true rfl⟩ hl.1 (Nat.le_of_ble_eq_true rfl) dX7_digest_45 ⟨Nat.le_of_ble_eq_true rfl, Nat.le_of_ble_eq_true rfl⟩) hS (fun H locs (hW : GW z ad (GC z ad N X u10) H) hS => ?_)
      refine lv_lstore_n (lv' := [(1, .long r8), (3, .int y3), (0, .ref (ad 0 0))]) hx hb dX7_digest_48 rfl hl (by decide) rfl (fun ls hl => ?_)
      refine lv_aload_n hx hb dX7_digest_49 rfl (lv_at hl 2 rfl) ?_
      refine lv_lload_n hx hb dX7_digest_50 rfl (lv_at hl 0 rfl) ?_
      rcases xb_e h with ⟨r11, u13, h12, h⟩ | h
      rotate_left
      · exact nx_cl (nx_runV (As := [.long r8]) (rest := []) hx hb hml hown hSW hS hW (cx_X7_digestPlacesAndMarks l z ad N X u10 r8 hfl h) mf_X7_digestPlacesAndMarks (List.mem_of_getElem? (i := 600) (by decide +kernel)) kr_0 rfl rfl ⟨rfl, rfl⟩ ⟨Nat.le_of_ble_eq_true rfl, Nat.le_of_ble_eq_true rfl⟩ hl.1 (Nat.le_of_ble_eq_true rfl) dX7_digest_51 ⟨Nat.le_of_ble_eq_true rfl, Nat.le_of_ble_eq_true rfl⟩) hS (fun ce9 q9 H locs hce hcv hcc hW hS => nx_out (fun x9 h9 => (ht x9 h9).elim) hlocks hce hcv hcc hW hS ⟨Nat.le_of_ble_eq_true rfl, Nat.le_of_ble_eq_true rfl⟩)
      refine nb_cl (nb_runV (As := [.long r8]) (rest := []) hx hb hml hown hSW hS hW (c_X7_digestPlacesAndMarks l z ad N X u10 r8 h12) mf_X7_digestPlacesAndMarks lk_X7_429 kr_0 rfl rfl ⟨rfl, rfl⟩ ⟨Nat.le_of_ble_eq_true rfl, Nat.le_of_ble_eq_true rfl⟩ hl.1 (Nat.le_of_ble_eq_true rfl) dX7_digest_51 ⟨Nat.le_of_ble_eq_true rfl, Nat.le_of_ble_eq_true rfl⟩) hS (fun H locs (hW : GW z ad (GC z ad N X u13) H) hS => ?_)
      refine lv_lstore_n (lv' := [(1, .long r11), (3, .int y3), (0, .ref (ad 0 0))]) hx hb dX7_digest_54 rfl hl (by decide) rfl (fun ls hl => ?_)
      refine lv_iconst (v := 0) hx hb dX7_digest_55 (by decide) ?_
      refine lv_istore_n (lv' := [(3, .int 0), (1, .long r11), (0, .ref (ad 0 0))]) hx hb dX7_digest_56 rfl hl (by decide) rfl (fun ls hl => ?_)
      exact hL57 1000000 _ _ _ _ _ _ (lv_sub hl [0, 1, 2] rfl) hW hS h
    · replace h := ite_f h c1
      refine lv_lload_n hx hb dX7_digest_12 rfl (lv_at hl 1 rfl) ?_
      refine lv_ldc2 (v := 31) hx hb hown (hT.use (List.mem_of_getElem? (i := 283) (by decide +kernel)) rfl) dX7_digest_13 ?_
      refine lv_lmul hx hb dX7_digest_16 ?_
      refine lv_aload_n hx hb dX7_digest_17 rfl (lv_at hl 2 rfl) ?_
      refine lv_iload_n hx hb dX7_digest_18 rfl (lv_at hl 0 rfl) ?_
      rcases xb_e h with ⟨r33, u35, h34, h⟩ | h
      rotate_left
      · exact nx_ci (nx_runV (As := [.int y3]) (rest := [.long (y1 * 31)]) hx hb hml hown hSW hS hW (cx_X7_many l z ad N X u y3 hfl h) mf_X7_many (List.mem_of_getElem? (i := 284) (by decide +kernel)) kr_0 rfl rfl ⟨rfl, rfl⟩ ⟨Nat.le_of_ble_eq_true rfl, Nat.le_of_ble_eq_true rfl⟩ hl.1 (Nat.le_of_ble_eq_true rfl) dX7_digest_19 ⟨Nat.le_of_ble_eq_true rfl, Nat.le_of_ble_eq_true rfl⟩) hS (fun ce9 q9 H locs hce hcv hcc hW hS => nx_out (fun x9 h9 => (ht x9 h9).elim) hlocks hce hcv hcc hW hS ⟨Nat.le_of_ble_eq_true rfl, Nat.le_of_ble_eq_true rfl⟩)
      refine nb_ci (nb_runV (As := [.int y3]) (rest := [.long (y1 * 31)]) hx hb hml hown hSW hS hW (c_X7_many l z ad N X u y3 h34) mf_X7_many lk_X7_416 kr_0 rfl rfl ⟨rfl, rfl⟩ ⟨Nat.le_of_ble_eq_true rfl, Nat.le_of_ble_eq_true rfl⟩ hl.1 (Nat.le_of_ble_eq_true rfl) dX7_digest_19 ⟨Nat.le_of_ble_eq_true rfl, Nat.le_of_ble_eq_true rfl⟩) hS (fun H locs (hW : GW z ad (GC z ad N X u35) H) hS => ?_)
      refine lv_i2l hx hb dX7_digest_22 rfl ?_
      refine lv_ladd hx hb dX7_digest_23 ?_
      refine lv_topl (fun v36 ev36 => ?_)
      replace h := nm_at ev36 h
      refine lv_lstore_n (lv' := [(1, .long v36), (3, .int y3), (0, .ref (ad 0 0))]) hx hb dX7_digest_24 rfl hl (by decide) rfl (fun ls hl => ?_)
      obtain ⟨v37, ev37, h⟩ := nm_s h
      refine lv_iinc (v := v37) (lv' := [(3, .int v37), (1, .long v36), (0, .ref (ad 0 0))]) hx hb dX7_digest_25 hl (k := 1) rfl (by rw [ev37]; rfl) (by decide) rfl (fun ls hl => ?_)
      refine lv_goto (tgt := 6) hx hb dX7_digest_28 (by decide) ?_
      exact hih6 _ _ _ _ _ _ (lv_sub hl [0, 1, 2] rfl) hW hS h
  have hL6 : ∀ (n : Nat), ∀ (y3 : Int32) (y1 : Int64) (u : St) (H : Heap) (locs : List Loc) (ls : Array Slot), lv_has ls 4 [(3, .int y3), (1, .long y1), (0, .ref (ad 0 0))] → GW z ad (GC z ad N X u) H → va_S (zA z) s.heap H locs → f_X7_digest_L6 N n y3 y1 u = some (.error E9, u9) → WW H locs (F0 m 6 ls []) := by
    intro n
    induction n with
    | zero => intro y3 y1 u H locs ls hl hW hS h; exact absurd h (by intro q; cases q)
    | succ n ihn => intro y3 y1 u H locs ls hl hW hS h; exact hL6b (f_X7_digest_L6 N n) ihn y3 y1 u H locs ls hl hW hS h
  unfold f_X7_digest at h
  refine lv_ldc2 (v := 58218) hx hb hown (hT.use (List.mem_of_getElem? (i := 282) (by decide +kernel)) rfl) dX7_digest_0 ?_
  refine lv_lstore_n (lv' := [(1, .long 58218), (0, .ref (ad 0 0))]) hx hb dX7_digest_3 rfl hl (by decide) rfl (fun ls hl => ?_)
  refine lv_iconst (v := 0) hx hb dX7_digest_4 (by decide) ?_
  refine lv_istore_n (lv' := [(3, .int 0), (1, .long 58218), (0, .ref (ad 0 0))]) hx hb dX7_digest_5 rfl hl (by decide) rfl (fun ls hl => ?_)
  exact hL6 1000000 _ _ _ _ _ _ (lv_sub hl [0, 1, 2] rfl) hW hS h
