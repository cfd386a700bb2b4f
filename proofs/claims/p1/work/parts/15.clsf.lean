/-- Panyard$Contest.prizeOf -/
def f_X1_prizeOf (N : Nt) (u : St) (x0 : Int32) (x1 : Int32) : Option (Int32 × St) :=
  if x0 = 2 then
    sb (f_X7_isWithin N u x1 1 3) fun r3 u5 =>
    if r3 = 0 then
      some (0, u5)
    else
      gd (inb (x1 - 1) 3) <|
      some ((([300, 200, 100] : List Int32).getD (ix (x1 - 1)) 0), u5)
  else
    some (0, u)
set_option maxRecDepth 100000 in
set_option maxHeartbeats 4000000 in
theorem c_X1_prizeOf (l : Launch) (z : Zt) (ad : Ad) (N : Nt) (X : Gt) (u : St) (x0 : Int32) (x1 : Int32) {r9 : Int32} {u9 : St} (h : f_X1_prizeOf N u x0 x1 = some (r9, u9)) : MC l z yX1_prizeOf cX1_prizeOf 2 (some .int) { frames := 1, cells := 0, slots := 0, locals := 22 } 0 0 [.int x0, .int x1] ad (GC z ad N X u) (QI z ad (GC z ad N X u9) r9) := by
  refine Met.ofW (cc := cX1_prizeOf) (maxL := 2) (ret := (some .int)) (by decide) rfl ?_
  intro p e s m args below meth c s₁ B hml hv
  obtain ⟨rfl, hSW, hW⟩ := hv
  have hx := B.exec; have hb := B.bytes; have hr := B.returns; have hlocks := B.notSynchronized
  have hown : s.vm.findClass RX1 = some m.cls := findClass_of_methodNamed B.named
  obtain ⟨hT, hK, hST, hB0⟩ := id hSW
  have hS : va_S (zA z) s.heap s.heap [] := va_S.rf
  have hl := lv_entry ([.int x0, .int x1]) (n := 2) (Nat.le_of_ble_eq_true rfl)
  rw [lg_entry_eq]
  generalize (lg_sl ([.int x0, .int x1]) ++ List.replicate (2 - (lg_sl ([.int x0, .int x1])).length) Slot.unset).toArray = ls at hl ⊢
  have hl : lv_has ls 2 [(0, .int x0), (1, .int x1)] := hl
  unfold f_X1_prizeOf at h
  refine lv_iload_n hx hb dX1_prizeOf_0 rfl (lv_at hl 0 rfl) ?_
  refine lv_iconst (v := 2) hx hb dX1_prizeOf_1 (by decide) ?_
  refine lv_icmp_ne (tgt := 27) hx hb dX1_prizeOf_2 (by decide) (fun c1 => ?_) (fun c1 => ?_)
  · replace h := ite_f h c1
    refine lv_iconst (v := 0) hx hb dX1_prizeOf_27 (by decide) ?_
    exact ne_iret hx hb hr rfl hlocks hW hS dX1_prizeOf_28 h
  · replace h := ite_t h c1
    refine lv_iload_n hx hb dX1_prizeOf_5 rfl (lv_at hl 1 rfl) ?_
    refine lv_iconst (v := 1) hx hb dX1_prizeOf_6 (by decide) ?_
    obtain ⟨t2, hZt2, hAt2⟩ := hST.2.2.2 _ (List.mem_of_getElem? (i := 0) rfl)
    refine va_getsN (host := "Panyard") hx hb hZt2 hS hown (hT.use (List.mem_of_getElem? (i := 936) (by decide +kernel)) rfl) (fun _ h9 => h9) dX1_prizeOf_7 ?_
    refine va_tlen hx hb hAt2 hS (v := 3) rfl dX1_prizeOf_10 ?_
    obtain ⟨r3, u5, h4, h⟩ := sb_s h
    refine nb_ci (nb_runS (As := [.int x1, .int 1, .int 3]) (rest := []) hx hb hml hown hSW hS hW (c_X7_isWithin l z ad N X u x1 1 3 h4) mf_X7_isWithin lk_X1_53 rfl ⟨rfl, rfl⟩ ⟨Nat.le_of_ble_eq_true rfl, Nat.le_of_ble_eq_true rfl⟩ hl.1 (Nat.le_of_ble_eq_true rfl) dX1_prizeOf_11 ⟨Nat.le_of_ble_eq_true rfl, Nat.le_of_ble_eq_true rfl⟩) hS (fun H locs (hW : GW z ad (GC z ad N X u5) H) hS => ?_)
    refine lv_if_eq (tgt := 27) hx hb dX1_prizeOf_14 (by decide) (fun c6 => ?_) (fun c6 => ?_)
    · replace h := ite_t h c6
      refine lv_iconst (v := 0) hx hb dX1_prizeOf_27 (by decide) ?_
      exact ne_iret hx hb hr rfl hlocks hW hS dX1_prizeOf_28 h
    · replace h := ite_f h c6
      obtain ⟨t7, hZt7, hAt7⟩ := hST.2.2.2 _ (List.mem_of_getElem? (i := 0) rfl)
      refine va_getsN (host := "Panyard") hx hb hZt7 hS hown (hT.use (List.mem_of_getElem? (i := 936) (by decide +kernel)) rfl) (fun _ h9 => h9) dX1_prizeOf_17 ?_
      refine lv_iload_n hx hb dX1_prizeOf_20 rfl (lv_at hl 1 rfl) ?_
      refine lv_iconst (v := 1) hx hb dX1_prizeOf_21 (by decide) ?_
      refine lv_isub hx hb dX1_prizeOf_22 ?_
      obtain ⟨g8, h⟩ := gd_s h
      refine va_ti hx hb hAt7 hS (inb_in g8) (v := .int (([300, 200, 100] : List Int32).getD (ix (x1 - 1)) 0)) rfl dX1_prizeOf_23 ?_
      refine lv_goto (tgt := 28) hx hb dX1_prizeOf_24 (by decide) ?_
      exact ne_iret hx hb hr rfl hlocks hW hS dX1_prizeOf_28 h
/-- Panyard.play -/
def f_X7_play (N : Nt) (u : St) : Option (Except String Int32 × St) :=
  sb (f_X1_isOver N u) fun r1 u3 =>
  if r1 = 0 then
    if (u3 53 0 0) = 0 then
      sb (f_X7_soundingCount N u3) fun r6 u8 =>
      if r6 = 0 then
        some (.error "java/lang/IllegalStateException", u8)
      else
        if (u8 43 0 0) = 0 then
          some (.error "java/lang/IllegalStateException", u8)
        else
          nm (u8 65 0 0) fun v11 =>
          sb (f_X7_totalNow N u8) fun r12 u14 =>
          sb (f_X1_scoreOf N u14 r12) fun r15 u17 =>
          sb (f_X1_enter N u17 r15) fun r18 u20 =>
          sb (f_X1_prizeOf N u20 v11 r18) fun r21 u23 =>
          nm (sset u23 3 0 0 ((u20 3 0 0) + (50 + r21))) fun u24 =>
          nm (sset u24 53 0 0 1) fun u25 =>
          some (.ok r18, u25)
    else
      some (.error "java/lang/IllegalStateException", u3)
  else
    some (.error "java/lang/IllegalStateException", u3)
set_option maxRecDepth 100000 in
set_option maxHeartbeats 4000000 in
theorem c_X7_play (l : Launch) (z : Zt) (ad : Ad) (N : Nt) (X : Gt) (u : St) {r9 : Int32} {u9 : St} (h : f_X7_play N u = some (.ok r9, u9)) : MC l z yX7_play cX7_play 3 (some .int) { frames := 5, cells := 0, slots := 0, locals := 114 } 0 0 [.ref (ad 0 0)] ad (GC z ad N X u) (QI z ad (GC z ad N X u9) r9) := by
  refine Met.ofW (cc := cX7_play) (maxL := 3) (ret := (some .int)) (by decide) rfl ?_
  intro p e s m args below meth c s₁ B hml hv
  obtain ⟨rfl, hSW, hW⟩ := hv
  have hx := B.exec; have hb := B.bytes; have hr := B.returns; have hlocks := B.notSynchronized
  have hown : s.vm.findClass RX7 = some m.cls := findClass_of_methodNamed B.named
  obtain ⟨hT, hK, hST, hB0⟩ := id hSW
  have hS : va_S (zA z) s.heap s.heap [] := va_S.rf
  have hl := lv_entry ([.ref (ad 0 0)]) (n := 3) (Nat.le_of_ble_eq_true rfl)
  rw [lg_entry_eq]
  generalize (lg_sl ([.ref (ad 0 0)]) ++ List.replicate (3 - (lg_sl ([.ref (ad 0 0)])).length) Slot.unset).toArray = ls at hl ⊢
  have hl : lv_has ls 3 [(0, .ref (ad 0 0))] := hl
  unfold f_X7_play at h
  refine lv_aload_n hx hb dX7_play_0 rfl (lv_at hl 0 rfl) ?_
  refine nb_get hx hb hT hK hown hW fl_X7_51 kr_0 (v := .ref (ad 6 0)) rfl dX7_play_1 ?_
  obtain ⟨r1, u3, h2, h⟩ := sb_s h
  refine nb_ci (nb_runV (As := []) (rest := []) hx hb hml hown hSW hS hW (c_X1_isOver l z ad N X u h2) mf_X1_isOver lk_X7_286 kr_6 rfl rfl ⟨rfl, rfl⟩ ⟨Nat.le_of_ble_eq_true rfl, Nat.le_of_ble_eq_true rfl⟩ hl.1 (Nat.le_of_ble_eq_true rfl) dX7_play_4 ⟨Nat.le_of_ble_eq_true rfl, Nat.le_of_ble_eq_true rfl⟩) hS (fun H locs (hW : GW z ad (GC z ad N X u3) H) hS => ?_)
  refine lv_if_eq (tgt := 21) hx hb dX7_play_7 (by decide) (fun c4 => ?_) (fun c4 => ?_)
  · replace h := ite_t h c4
    refine lv_aload_n hx hb dX7_play_21 rfl (lv_at hl 0 rfl) ?_
    refine nb_get hx hb hT hK hown hW fl_X7_44 kr_0 (v := .ref (ad 5 0)) rfl dX7_play_22 ?_
    refine nb_get hx hb hT hK hown hW fl_X7_292 kr_5 (v := .int (u3 53 0 0)) rfl dX7_play_25 ?_
    refine lv_if_eq (tgt := 42) hx hb dX7_play_28 (by decide) (fun c5 => ?_) (fun c5 => ?_)
    · replace h := ite_t h c5
      refine lv_aload_n hx hb dX7_play_42 rfl (lv_at hl 0 rfl) ?_
      obtain ⟨r6, u8, h7, h⟩ := sb_s h
      refine nb_ci (nb_runV (As := []) (rest := []) hx hb hml hown hSW hS hW (c_X7_soundingCount l z ad N X u3 h7) mf_X7_soundingCount lk_X7_244 kr_0 rfl rfl ⟨rfl, rfl⟩ ⟨Nat.le_of_ble_eq_true rfl, Nat.le_of_ble_eq_true rfl⟩ hl.1 (Nat.le_of_ble_eq_true rfl) dX7_play_43 ⟨Nat.le_of_ble_eq_true rfl, Nat.le_of_ble_eq_true rfl⟩) hS (fun H locs (hW : GW z ad (GC z ad N X u8) H) hS => ?_)
      refine lv_if_eq (tgt := 59) hx hb dX7_play_46 (by decide) (fun c09 => ?_) (fun c09 => ?_)
      · replace h := ite_t h c09
        exact absurd h (by intro q; cases q)
      · replace h := ite_f h c09
        refine lv_aload_n hx hb dX7_play_49 rfl (lv_at hl 0 rfl) ?_
        refine nb_get hx hb hT hK hown hW fl_X7_30 kr_0 (v := .ref (ad 8 0)) rfl dX7_play_50 ?_
        refine nb_get hx hb hT hK hown hW fl_X7_160 (kr_8 (by decide)) (v := .int (u8 43 0 0)) rfl dX7_play_53 ?_
        refine lv_if_ne (tgt := 70) hx hb dX7_play_56 (by decide) (fun c10 => ?_) (fun c10 => ?_)
        · replace h := ite_f h c10
          refine lv_aload_n hx hb dX7_play_70 rfl (lv_at hl 0 rfl) ?_
          refine nb_get hx hb hT hK hown hW fl_X7_51 kr_0 (v := .ref (ad 6 0)) rfl dX7_play_71 ?_
          refine nb_get hx hb hT hK hown hW fl_X7_299 kr_6 (v := .int (u8 65 0 0)) rfl dX7_play_74 ?_
          refine lv_topi (fun v11 ev11 => ?_)
          replace h := nm_at ev11 h
          refine lv_istore_n (lv' := [(1, .int v11), (0, .ref (ad 0 0))]) hx hb dX7_play_77 rfl hl (by decide) rfl (fun ls hl => ?_)
          refine lv_aload_n hx hb dX7_play_78 rfl (lv_at hl 1 rfl) ?_
          refine nb_get hx hb hT hK hown hW fl_X7_51 kr_0 (v := .ref (ad 6 0)) rfl dX7_play_79 ?_
          refine lv_aload_n hx hb dX7_play_82 rfl (lv_at hl 1 rfl) ?_
          refine nb_get hx hb hT hK hown hW fl_X7_51 kr_0 (v := .ref (ad 6 0)) rfl dX7_play_83 ?_
          refine lv_aload_n hx hb dX7_play_86 rfl (lv_at hl 1 rfl) ?_
          obtain ⟨r12, u14, h13, h⟩ := sb_s h
          refine nb_ci (nb_runV (As := []) (rest := [.ref (ad 6 0), .ref (ad 6 0)]) hx hb hml hown hSW hS hW (c_X7_totalNow l z ad N X u8 h13) mf_X7_totalNow lk_X7_302 kr_0 rfl rfl ⟨rfl, rfl⟩ ⟨Nat.le_of_ble_eq_true rfl, Nat.le_of_ble_eq_true rfl⟩ hl.1 (Nat.le_of_ble_eq_true rfl) dX7_play_87 ⟨Nat.le_of_ble_eq_true rfl, Nat.le_of_ble_eq_true rfl⟩) hS (fun H locs (hW : GW z ad (GC z ad N X u14) H) hS => ?_)
          obtain ⟨r15, u17, h16, h⟩ := sb_s h
          refine nb_ci (nb_runV (As := [.int r12]) (rest := [.ref (ad 6 0)]) hx hb hml hown hSW hS hW (c_X1_scoreOf l z ad N X u14 r12 h16) mf_X1_scoreOf lk_X7_305 kr_6 rfl rfl ⟨rfl, rfl⟩ ⟨Nat.le_of_ble_eq_true rfl, Nat.le_of_ble_eq_true rfl⟩ hl.1 (Nat.le_of_ble_eq_true rfl) dX7_play_90 ⟨Nat.le_of_ble_eq_true rfl, Nat.le_of_ble_eq_true rfl⟩) hS (fun H locs (hW : GW z ad (GC z ad N X u17) H) hS => ?_)
          obtain ⟨r18, u20, h19, h⟩ := sb_s h
          refine nb_ci (nb_runV (As := [.int r15]) (rest := []) hx hb hml hown hSW hS hW (c_X1_enter l z ad N X u17 r15 h19) mf_X1_enter lk_X7_308 kr_6 rfl rfl ⟨rfl, rfl⟩ ⟨Nat.le_of_ble_eq_true rfl, Nat.le_of_ble_eq_true rfl⟩ hl.1 (Nat.le_of_ble_eq_true rfl) dX7_play_93 ⟨Nat.le_of_ble_eq_true rfl, Nat.le_of_ble_eq_true rfl⟩) hS (fun H locs (hW : GW z ad (GC z ad N X u20) H) hS => ?_)
          refine lv_istore_n (lv' := [(2, .int r18), (1, .int v11), (0, .ref (ad 0 0))]) hx hb dX7_play_96 rfl hl (by decide) rfl (fun ls hl => ?_)
          refine lv_aload_n hx hb dX7_play_97 rfl (lv_at hl 2 rfl) ?_
          refine lv_dup hx hb dX7_play_98 rfl ?_
          refine nb_get hx hb hT hK hown hW fl_X7_55 kr_0 (v := .int (u20 3 0 0)) rfl dX7_play_99 ?_
          refine lv_bipush (v := 50) hx hb dX7_play_102 (by decide) ?_
          refine lv_iload_n hx hb dX7_play_104 rfl (lv_at hl 1 rfl) ?_
          refine lv_iload_n hx hb dX7_play_105 rfl (lv_at hl 0 rfl) ?_
          obtain ⟨r21, u23, h22, h⟩ := sb_s h
          refine nb_ci (nb_runS (As := [.int v11, .int r18]) (rest := [.int 50, .int (u20 3 0 0), .ref (ad 0 0)]) hx hb hml hown hSW hS hW (c_X1_prizeOf l z ad N X u20 v11 r18 h22) mf_X1_prizeOf lk_X7_311 rfl ⟨rfl, rfl⟩ ⟨Nat.le_of_ble_eq_true rfl, Nat.le_of_ble_eq_true rfl⟩ hl.1 (Nat.le_of_ble_eq_true rfl) dX7_play_106 ⟨Nat.le_of_ble_eq_true rfl, Nat.le_of_ble_eq_true rfl⟩) hS (fun H locs (hW : GW z ad (GC z ad N X u23) H) hS => ?_)
          refine lv_iadd hx hb dX7_play_109 ?_
          refine lv_iadd hx hb dX7_play_110 ?_
          obtain ⟨u24, eu24, h⟩ := nm_s h
          refine nb_put hx hb hT hK hown hW hS fl_X7_55 tyX7 tyX7_ok nmX7 kr_0 (v := .int ((u20 3 0 0) + (50 + r21))) rfl rfl rfl (Nat.le_of_ble_eq_true rfl) ((gp_3).trans (congrArg (GC z ad N X) eu24.symm)) dX7_play_111 (fun H locs hW hS => ?_)
          refine lv_aload_n hx hb dX7_play_114 rfl (lv_at hl 2 rfl) ?_
          refine nb_get hx hb hT hK hown hW fl_X7_44 kr_0 (v := .ref (ad 5 0)) rfl dX7_play_115 ?_
          refine lv_iconst (v := 1) hx hb dX7_play_118 (by decide) ?_
          obtain ⟨u25, eu25, h⟩ := nm_s h
          refine nb_put hx hb hT hK hown hW hS fl_X7_292 tyX6 tyX6_ok nmX6 kr_5 (v := .int 1) rfl rfl rfl (Nat.le_of_ble_eq_true rfl) ((gp_53).trans (congrArg (GC z ad N X) eu25.symm)) dX7_play_119 (fun H locs hW hS => ?_)
          refine lv_iload_n hx hb dX7_play_122 rfl (lv_at hl 0 rfl) ?_
          exact ne_iretX hx hb hr rfl hlocks hW hS dX7_play_123 h
        · replace h := ite_t h c10
          exact absurd h (by intro q; cases q)
    · replace h := ite_f h c5
      exact absurd h (by intro q; cases q)
  · replace h := ite_f h c4
    exact absurd h (by intro q; cases q)
/-- Panyard.ofPan -/
def f_X7_ofPan (N : Nt) (u : St) (x1 : Int32) (x2 : Int32) : Option (Except String Int32 × St) :=
  xb (f_X7_requirePan N u x1) fun r1 u3 =>
  gd (inb x1 6) <|
  gd ((ix x1) < N 12) <|
  if x2 = 0 then
    some (.ok (u3 11 (ix x1) 0), u3)
  else
  if x2 = 1 then
    some (.ok (u3 12 (ix x1) 0), u3)
  else
  if x2 = 2 then
    sb (f_X3_isCracked N u3 (ix x1)) fun r09 u11 =>
    if r09 = 0 then
      some (.ok 0, u11)
    else
      some (.ok 1, u11)
  else
  if x2 = 3 then
    sb (f_X3_grade N u3 (ix x1)) fun r14 u16 =>
    some (.ok r14, u16)
  else
  if x2 = 4 then
    some (.ok (u3 13 (ix x1) 0), u3)
  else
  some (.error "java/lang/IllegalArgumentException", u3)
set_option maxRecDepth 100000 in
set_option maxHeartbeats 4000000 in
theorem c_X7_ofPan (l : Launch) (z : Zt) (ad : Ad) (N : Nt) (X : Gt) (u : St) (x1 : Int32) (x2 : Int32) {r9 : Int32} {u9 : St} (h : f_X7_ofPan N u x1 x2 = some (.ok r9, u9)) : MC l z yX7_ofPan cX7_ofPan 4 (some .int) { frames := 3, cells := 0, slots := 0, locals := 64 } 0 0 [.ref (ad 0 0), .int x1, .int x2] ad (GC z ad N X u) (QI z ad (GC z ad N X u9) r9) := by
  refine Met.ofW (cc := cX7_ofPan) (maxL := 4) (ret := (some .int)) (by decide) rfl ?_
  intro p e s m args below meth c s₁ B hml hv
  obtain ⟨rfl, hSW, hW⟩ := hv
  have hx := B.exec; have hb := B.bytes; have hr := B.returns; have hlocks := B.notSynchronized
  have hown : s.vm.findClass RX7 = some m.cls := findClass_of_methodNamed B.named
  obtain ⟨hT, hK, hST, hB0⟩ := id hSW
  have hS : va_S (zA z) s.heap s.heap [] := va_S.rf
  have hl := lv_entry ([.ref (ad 0 0), .int x1, .int x2]) (n := 4) (Nat.le_of_ble_eq_true rfl)
  rw [lg_entry_eq]
  generalize (lg_sl ([.ref (ad 0 0), .int x1, .int x2]) ++ List.replicate (4 - (lg_sl ([.ref (ad 0 0), .int x1, .int x2])).length) Slot.unset).toArray = ls at hl ⊢
  have hl : lv_has ls 4 [(0, .ref (ad 0 0)), (1, .int x1), (2, .int x2)] := hl
  unfold f_X7_ofPan at h
  refine lv_aload_n hx hb dX7_ofPan_0 rfl (lv_at hl 0 rfl) ?_
  refine lv_iload_n hx hb dX7_ofPan_1 rfl (lv_at hl 1 rfl) ?_
  obtain ⟨r1, u3, h2, h⟩ := xb_s h
  refine nb_cv (nb_runV (As := [.int x1]) (rest := []) hx hb hml hown hSW hS hW (c_X7_requirePan l z ad N X u x1 h2) mf_X7_requirePan lk_X7_90 kr_0 rfl rfl ⟨rfl, rfl⟩ ⟨Nat.le_of_ble_eq_true rfl, Nat.le_of_ble_eq_true rfl⟩ hl.1 (Nat.le_of_ble_eq_true rfl) dX7_ofPan_2 ⟨Nat.le_of_ble_eq_true rfl, Nat.le_of_ble_eq_true rfl⟩) hS (fun H locs (hW : GW z ad (GC z ad N X u3) H) hS => ?_)
  refine lv_aload_n hx hb dX7_ofPan_5 rfl (lv_at hl 0 rfl) ?_
  refine nb_get hx hb hT hK hown hW fl_X7_11 kr_0 (v := .ref (ad 1 0)) rfl dX7_ofPan_6 ?_
  refine lv_iload_n hx hb dX7_ofPan_9 rfl (lv_at hl 1 rfl) ?_
  obtain ⟨g4, h⟩ := gd_s h
  obtain ⟨g5, h⟩ := gd_s h
  refine nb_aald hx hb hK hW 2 kr_1 rfl rfl (inb_in g4) (a := ad 12 (ix x1)) (qrow_at g5) dX7_ofPan_10 ?_
  refine lv_astore_n (lv' := [(3, .ref (ad 12 (ix x1))), (0, .ref (ad 0 0)), (1, .int x1), (2, .int x2)]) hx hb dX7_ofPan_11 rfl hl (by decide) rfl (fun ls hl => ?_)
  refine lv_iload_n hx hb dX7_ofPan_12 rfl (lv_at hl 3 rfl) ?_
  by_cases c6 : x2 = 0
  · replace h := ite_t h c6
    refine lv_tableIn (off := 35) (tgt := 48) hx hb dX7_ofPan_13 (by rw [c6]; decide) (by rw [c6]; decide) (by rw [c6]; rfl) (by decide) ?_
    refine lv_aload_n hx hb dX7_ofPan_48 rfl (lv_at hl 0 rfl) ?_
    refine nb_get hx hb hT hK hown hW fl_X7_187 (kr_12 (Or.inl g5)) (v := .int (u3 11 (ix x1) 0)) rfl dX7_ofPan_49 ?_
    exact ne_iretX hx hb hr rfl hlocks hW hS dX7_ofPan_52 h
  replace h := ite_f h c6
  by_cases c7 : x2 = 1
  · replace h := ite_t h c7
    refine lv_tableIn (off := 40) (tgt := 53) hx hb dX7_ofPan_13 (by rw [c7]; decide) (by rw [c7]; decide) (by rw [c7]; rfl) (by decide) ?_
    refine lv_aload_n hx hb dX7_ofPan_53 rfl (lv_at hl 0 rfl) ?_
    refine nb_get hx hb hT hK hown hW fl_X7_117 (kr_12 (Or.inl g5)) (v := .int (u3 12 (ix x1) 0)) rfl dX7_ofPan_54 ?_
    exact ne_iretX hx hb hr rfl hlocks hW hS dX7_ofPan_57 h
  replace h := ite_f h c7
  by_cases c8 : x2 = 2
  · replace h := ite_t h c8
    refine lv_tableIn (off := 45) (tgt := 58) hx hb dX7_ofPan_13 (by rw [c8]; decide) (by rw [c8]; decide) (by rw [c8]; rfl) (by decide) ?_
    refine lv_aload_n hx hb dX7_ofPan_58 rfl (lv_at hl 0 rfl) ?_
    obtain ⟨r09, u11, h10, h⟩ := sb_s h
    refine nb_ci (nb_runV (As := []) (rest := []) hx hb hml hown hSW hS hW (c_X3_isCracked l z ad N X u3 (ix x1) (Or.inl g5) h10) mf_X3_isCracked lk_X7_315 (kr_12 (Or.inl g5)) rfl rfl ⟨rfl, rfl⟩ ⟨Nat.le_of_ble_eq_true rfl, Nat.le_of_ble_eq_true rfl⟩ hl.1 (Nat.le_of_ble_eq_true rfl) dX7_ofPan_59 ⟨Nat.le_of_ble_eq_true rfl, Nat.le_of_ble_eq_true rfl⟩) hS (fun H locs (hW : GW z ad (GC z ad N X u11) H) hS => ?_)
    refine lv_if_eq (tgt := 69) hx hb dX7_ofPan_62 (by decide) (fun c12 => ?_) (fun c12 => ?_)
    · replace h := ite_t h c12
      refine lv_iconst (v := 0) hx hb dX7_ofPan_69 (by decide) ?_
      exact ne_iretX hx hb hr rfl hlocks hW hS dX7_ofPan_70 h
    · replace h := ite_f h c12
      refine lv_iconst (v := 1) hx hb dX7_ofPan_65 (by decide) ?_
      refine lv_goto (tgt := 70) hx hb dX7_ofPan_66 (by decide) ?_
      exact ne_iretX hx hb hr rfl hlocks hW hS dX7_ofPan_70 h
  replace h := ite_f h c8
  by_cases c13 : x2 = 3
  · replace h := ite_t h c13
    refine lv_tableIn (off := 58) (tgt := 71) hx hb dX7_ofPan_13 (by rw [c13]; decide) (by rw [c13]; decide) (by rw [c13]; rfl) (by decide) ?_
    refine lv_aload_n hx hb dX7_ofPan_71 rfl (lv_at hl 0 rfl) ?_
    obtain ⟨r14, u16, h15, h⟩ := sb_s h
    refine nb_ci (nb_runV (As := []) (rest := []) hx hb hml hown hSW hS hW (c_X3_grade l z ad N X u3 (ix x1) (Or.inl g5) h15) mf_X3_grade lk_X7_318 (kr_12 (Or.inl g5)) rfl rfl ⟨rfl, rfl⟩ ⟨Nat.le_of_ble_eq_true rfl, Nat.le_of_ble_eq_true rfl⟩ hl.1 (Nat.le_of_ble_eq_true rfl) dX7_ofPan_72 ⟨Nat.le_of_ble_eq_true rfl, Nat.le_of_ble_eq_true rfl⟩) hS (fun H locs (hW : GW z ad (GC z ad N X u16) H) hS => ?_)
    exact ne_iretX hx hb hr rfl hlocks hW hS dX7_ofPan_75 h
  replace h := ite_f h c13
  by_cases c17 : x2 = 4
  · replace h := ite_t h c17
    refine lv_tableIn (off := 63) (tgt := 76) hx hb dX7_ofPan_13 (by rw [c17]; decide) (by rw [c17]; decide) (by rw [c17]; rfl) (by decide) ?_
    refine lv_aload_n hx hb dX7_ofPan_76 rfl (lv_at hl 0 rfl) ?_
    refine nb_get hx hb hT hK hown hW fl_X7_321 (kr_12 (Or.inl g5)) (v := .int (u3 13 (ix x1) 0)) rfl dX7_ofPan_77 ?_
    exact ne_iretX hx hb hr rfl hlocks hW hS dX7_ofPan_80 h
  replace h := ite_f h c17
  refine lv_tableOut (tgt := 81) hx hb dX7_ofPan_13 (by have tc6 := lv_neT (a := 0) c6 rfl; have tc7 := lv_neT (a := 1) c7 rfl; have tc8 := lv_neT (a := 2) c8 rfl; have tc13 := lv_neT (a := 3) c13 rfl; have tc17 := lv_neT (a := 4) c17 rfl; omega) (by decide) ?_
  exact absurd h (by intro q; cases q)
/-- Panyard.off -/
def f_X7_off (N : Nt) (u : St) (x1 : Int32) (x2 : Int32) : Option (Except String Int32 × St) :=
  xb (f_X7_requirePan N u x1) fun r1 u3 =>
  xb (f_X7_requireNote N u3 x2) fun r4 u6 =>
  gd (inb x1 6) <|
  gd ((ix x1) < N 12) <|
  gd (inb x2 8) <|
  some (.ok (u6 14 (ix x1) (ix x2)), u6)
set_option maxRecDepth 100000 in
set_option maxHeartbeats 4000000 in
theorem c_X7_off (l : Launch) (z : Zt) (ad : Ad) (N : Nt) (X : Gt) (u : St) (x1 : Int32) (x2 : Int32) {r9 : Int32} {u9 : St} (h : f_X7_off N u x1 x2 = some (.ok r9, u9)) : MC l z yX7_off cX7_off 3 (some .int) { frames := 2, cells := 0, slots := 0, locals := 43 } 0 0 [.ref (ad 0 0), .int x1, .int x2] ad (GC z ad N X u) (QI z ad (GC z ad N X u9) r9) := by
  refine Met.ofW (cc := cX7_off) (maxL := 3) (ret := (some .int)) (by decide) rfl ?_
  intro p e s m args below meth c s₁ B hml hv
  obtain ⟨rfl, hSW, hW⟩ := hv
  have hx := B.exec; have hb := B.bytes; have hr := B.returns; have hlocks := B.notSynchronized
  have hown : s.vm.findClass RX7 = some m.cls := findClass_of_methodNamed B.named
  obtain ⟨hT, hK, hST, hB0⟩ := id hSW
  have hS : va_S (zA z) s.heap s.heap [] := va_S.rf
  have hl := lv_entry ([.ref (ad 0 0), .int x1, .int x2]) (n := 3) (Nat.le_of_ble_eq_true rfl)
  rw [lg_entry_eq]
  generalize (lg_sl ([.ref (ad 0 0), .int x1, .int x2]) ++ List.replicate (3 - (lg_sl ([.ref (ad 0 0), .int x1, .int x2])).length) Slot.unset).toArray = ls at hl ⊢
  have hl : lv_has ls 3 [(0, .ref (ad 0 0)), (1, .int x1), (2, .int x2)] := hl
  unfold f_X7_off at h
  refine lv_aload_n hx hb dX7_off_0 rfl (lv_at hl 0 rfl) ?_
  refine lv_iload_n hx hb dX7_off_1 rfl (lv_at hl 1 rfl) ?_
  obtain ⟨r1, u3, h2, h⟩ := xb_s h
  refine nb_cv (nb_runV (As := [.int x1]) (rest := []) hx hb hml hown hSW hS hW (c_X7_requirePan l z ad N X u x1 h2) mf_X7_requirePan lk_X7_90 kr_0 rfl rfl ⟨rfl, rfl⟩ ⟨Nat.le_of_ble_eq_true rfl, Nat.le_of_ble_eq_true rfl⟩ hl.1 (Nat.le_of_ble_eq_true rfl) dX7_off_2 ⟨Nat.le_of_ble_eq_true rfl, Nat.le_of_ble_eq_true rfl⟩) hS (fun H locs (hW : GW z ad (GC z ad N X u3) H) hS => ?_)
  refine lv_iload_n hx hb dX7_off_5 rfl (lv_at hl 2 rfl) ?_
  obtain ⟨r4, u6, h5, h⟩ := xb_s h
  refine nb_cv (nb_runS (As := [.int x2]) (rest := []) hx hb hml hown hSW hS hW (c_X7_requireNote l z ad N X u3 x2 h5) mf_X7_requireNote lk_X7_93 rfl ⟨rfl, rfl⟩ ⟨Nat.le_of_ble_eq_true rfl, Nat.le_of_ble_eq_true rfl⟩ hl.1 (Nat.le_of_ble_eq_true rfl) dX7_off_6 ⟨Nat.le_of_ble_eq_true rfl, Nat.le_of_ble_eq_true rfl⟩) hS (fun H locs (hW : GW z ad (GC z ad N X u6) H) hS => ?_)
  refine lv_aload_n hx hb dX7_off_9 rfl (lv_at hl 0 rfl) ?_
  refine nb_get hx hb hT hK hown hW fl_X7_11 kr_0 (v := .ref (ad 1 0)) rfl dX7_off_10 ?_
  refine lv_iload_n hx hb dX7_off_13 rfl (lv_at hl 1 rfl) ?_
  obtain ⟨g7, h⟩ := gd_s h
  obtain ⟨g8, h⟩ := gd_s h
  refine nb_aald hx hb hK hW 2 kr_1 rfl rfl (inb_in g7) (a := ad 12 (ix x1)) (qrow_at g8) dX7_off_14 ?_
  refine nb_get hx hb hT hK hown hW fl_X7_111 (kr_12 (Or.inl g8)) (v := .ref (ad 13 (ix x1))) rfl dX7_off_15 ?_
  refine lv_iload_n hx hb dX7_off_18 rfl (lv_at hl 2 rfl) ?_
  obtain ⟨g09, h⟩ := gd_s h
  refine nb_iald hx hb hK hW 0 (kr_13 (Or.inl g8)) rfl (inb_in g09) dX7_off_19 ?_
  exact ne_iretX hx hb hr rfl hlocks hW hS dX7_off_20 h
/-- Panyard.ofPhrase -/
def f_X7_ofPhrase (N : Nt) (u : St) (x1 : Int32) (x2 : Int32) : Option (Except String Int32 × St) :=
  xb (f_X7_requirePhrase N u x1) fun r1 u3 =>
  gd (inb x1 8) <|
  gd ((ix x1) < N 14) <|
  if x2 = 0 then
    some (.ok (u3 20 (ix x1) 0), u3)
  else
  if x2 = 1 then
    some (.ok (u3 21 (ix x1) 0), u3)
  else
  if x2 = 2 then
    some (.ok (u3 22 (ix x1) 0), u3)
  else
  if x2 = 3 then
    some (.ok (u3 23 (ix x1) 0), u3)
  else
  if x2 = 4 then
    sb (f_X0_placesOf N u3 0 x1) fun r11 u13 =>
    some (.ok r11, u13)
  else
  some (.error "java/lang/IllegalArgumentException", u3)
set_option maxRecDepth 100000 in
set_option maxHeartbeats 4000000 in
theorem c_X7_ofPhrase (l : Launch) (z : Zt) (ad : Ad) (N : Nt) (X : Gt) (u : St) (x1 : Int32) (x2 : Int32) {r9 : Int32} {u9 : St} (h : f_X7_ofPhrase N u x1 x2 = some (.ok r9, u9)) : MC l z yX7_ofPhrase cX7_ofPhrase 4 (some .int) { frames := 2, cells := 0, slots := 0, locals := 43 } 0 0 [.ref (ad 0 0), .int x1, .int x2] ad (GC z ad N X u) (QI z ad (GC z ad N X u9) r9) := by
  refine Met.ofW (cc := cX7_ofPhrase) (maxL := 4) (ret := (some .int)) (by decide) rfl ?_
  intro p e s m args below meth c s₁ B hml hv
  obtain ⟨rfl, hSW, hW⟩ := hv
  have hx := B.exec; have hb := B.bytes; have hr := B.returns; have hlocks := B.notSynchronized
  have hown : s.vm.findClass RX7 = some m.cls := findClass_of_methodNamed B.named
  obtain ⟨hT, hK, hST, hB0⟩ := id hSW
  have hS : va_S (zA z) s.heap s.heap [] := va_S.rf
  have hl := lv_entry ([.ref (ad 0 0), .int x1, .int x2]) (n := 4) (Nat.le_of_ble_eq_true rfl)
  rw [lg_entry_eq]
  generalize (lg_sl ([.ref (ad 0 0), .int x1, .int x2]) ++ List.replicate (4 - (lg_sl ([.ref (ad 0 0), .int x1, .int x2])).length) Slot.unset).toArray = ls at hl ⊢
  have hl : lv_has ls 4 [(0, .ref (ad 0 0)), (1, .int x1), (2, .int x2)] := hl
  unfold f_X7_ofPhrase at h
  refine lv_aload_n hx hb dX7_ofPhrase_0 rfl (lv_at hl 0 rfl) ?_
  refine lv_iload_n hx hb dX7_ofPhrase_1 rfl (lv_at hl 1 rfl) ?_
  obtain ⟨r1, u3, h2, h⟩ := xb_s h
  refine nb_cv (nb_runV (As := [.int x1]) (rest := []) hx hb hml hown hSW hS hW (c_X7_requirePhrase l z ad N X u x1 h2) mf_X7_requirePhrase lk_X7_141 kr_0 rfl rfl ⟨rfl, rfl⟩ ⟨Nat.le_of_ble_eq_true rfl, Nat.le_of_ble_eq_true rfl⟩ hl.1 (Nat.le_of_ble_eq_true rfl) dX7_ofPhrase_2 ⟨Nat.le_of_ble_eq_true rfl, Nat.le_of_ble_eq_true rfl⟩) hS (fun H locs (hW : GW z ad (GC z ad N X u3) H) hS => ?_)
  refine lv_aload_n hx hb dX7_ofPhrase_5 rfl (lv_at hl 0 rfl) ?_
  refine nb_get hx hb hT hK hown hW fl_X7_17 kr_0 (v := .ref (ad 2 0)) rfl dX7_ofPhrase_6 ?_
  refine lv_iload_n hx hb dX7_ofPhrase_9 rfl (lv_at hl 1 rfl) ?_
  obtain ⟨g4, h⟩ := gd_s h
  obtain ⟨g5, h⟩ := gd_s h
  refine nb_aald hx hb hK hW 3 kr_2 rfl rfl (inb_in g4) (a := ad 14 (ix x1)) (qrow_at g5) dX7_ofPhrase_10 ?_
  refine lv_astore_n (lv' := [(3, .ref (ad 14 (ix x1))), (0, .ref (ad 0 0)), (1, .int x1), (2, .int x2)]) hx hb dX7_ofPhrase_11 rfl hl (by decide) rfl (fun ls hl => ?_)
  refine lv_iload_n hx hb dX7_ofPhrase_12 rfl (lv_at hl 3 rfl) ?_
  by_cases c6 : x2 = 0
  · replace h := ite_t h c6
    refine lv_tableIn (off := 35) (tgt := 48) hx hb dX7_ofPhrase_13 (by rw [c6]; decide) (by rw [c6]; decide) (by rw [c6]; rfl) (by decide) ?_
    refine lv_aload_n hx hb dX7_ofPhrase_48 rfl (lv_at hl 0 rfl) ?_
    refine nb_get hx hb hT hK hown hW fl_X7_208 (kr_14 g5) (v := .int (u3 20 (ix x1) 0)) rfl dX7_ofPhrase_49 ?_
    exact ne_iretX hx hb hr rfl hlocks hW hS dX7_ofPhrase_52 h
  replace h := ite_f h c6
  by_cases c7 : x2 = 1
  · replace h := ite_t h c7
    refine lv_tableIn (off := 40) (tgt := 53) hx hb dX7_ofPhrase_13 (by rw [c7]; decide) (by rw [c7]; decide) (by rw [c7]; rfl) (by decide) ?_
    refine lv_aload_n hx hb dX7_ofPhrase_53 rfl (lv_at hl 0 rfl) ?_
    refine nb_get hx hb hT hK hown hW fl_X7_326 (kr_14 g5) (v := .int (u3 21 (ix x1) 0)) rfl dX7_ofPhrase_54 ?_
    exact ne_iretX hx hb hr rfl hlocks hW hS dX7_ofPhrase_57 h
  replace h := ite_f h c7
  by_cases c8 : x2 = 2
  · replace h := ite_t h c8
    refine lv_tableIn (off := 45) (tgt := 58) hx hb dX7_ofPhrase_13 (by rw [c8]; decide) (by rw [c8]; decide) (by rw [c8]; rfl) (by decide) ?_
    refine lv_aload_n hx hb dX7_ofPhrase_58 rfl (lv_at hl 0 rfl) ?_
    refine nb_get hx hb hT hK hown hW fl_X7_329 (kr_14 g5) (v := .int (u3 22 (ix x1) 0)) rfl dX7_ofPhrase_59 ?_
    exact ne_iretX hx hb hr rfl hlocks hW hS dX7_ofPhrase_62 h
  replace h := ite_f h c8
  by_cases c09 : x2 = 3
  · replace h := ite_t h c09
    refine lv_tableIn (off := 50) (tgt := 63) hx hb dX7_ofPhrase_13 (by rw [c09]; decide) (by rw [c09]; decide) (by rw [c09]; rfl) (by decide) ?_
    refine lv_aload_n hx hb dX7_ofPhrase_63 rfl (lv_at hl 0 rfl) ?_
    refine nb_get hx hb hT hK hown hW fl_X7_157 (kr_14 g5) (v := .int (u3 23 (ix x1) 0)) rfl dX7_ofPhrase_64 ?_
    exact ne_iretX hx hb hr rfl hlocks hW hS dX7_ofPhrase_67 h
  replace h := ite_f h c09
  by_cases c10 : x2 = 4
  · replace h := ite_t h c10
    refine lv_tableIn (off := 55) (tgt := 68) hx hb dX7_ofPhrase_13 (by rw [c10]; decide) (by rw [c10]; decide) (by rw [c10]; rfl) (by decide) ?_
    refine lv_aload_n hx hb dX7_ofPhrase_68 rfl (lv_at hl 1 rfl) ?_
    refine nb_get hx hb hT hK hown hW fl_X7_30 kr_0 (v := .ref (ad 8 0)) rfl dX7_ofPhrase_69 ?_
    refine lv_iload_n hx hb dX7_ofPhrase_72 rfl (lv_at hl 2 rfl) ?_
    obtain ⟨r11, u13, h12, h⟩ := sb_s h
    refine nb_ci (nb_runV (As := [.int x1]) (rest := []) hx hb hml hown hSW hS hW (c_X0_placesOf l z ad N X u3 0 x1 (by decide) h12) mf_X0_placesOf lk_X7_332 (kr_8 (by decide)) rfl rfl ⟨rfl, rfl⟩ ⟨Nat.le_of_ble_eq_true rfl, Nat.le_of_ble_eq_true rfl⟩ hl.1 (Nat.le_of_ble_eq_true rfl) dX7_ofPhrase_73 ⟨Nat.le_of_ble_eq_true rfl, Nat.le_of_ble_eq_true rfl⟩) hS (fun H locs (hW : GW z ad (GC z ad N X u13) H) hS => ?_)
    exact ne_iretX hx hb hr rfl hlocks hW hS dX7_ofPhrase_76 h
  replace h := ite_f h c10
  refine lv_tableOut (tgt := 77) hx hb dX7_ofPhrase_13 (by have tc6 := lv_neT (a := 0) c6 rfl; have tc7 := lv_neT (a := 1) c7 rfl; have tc8 := lv_neT (a := 2) c8 rfl; have tc09 := lv_neT (a := 3) c09 rfl; have tc10 := lv_neT (a := 4) c10 rfl; omega) (by decide) ?_
  exact absurd h (by intro q; cases q)
/-- Panyard.ofPlayer -/
def f_X7_ofPlayer (N : Nt) (u : St) (x1 : Int32) (x2 : Int32) : Option (Except String Int32 × St) :=
  xb (f_X7_requirePlayer N u x1) fun r1 u3 =>
  gd (inb x1 8) <|
  gd ((ix x1) < N 15) <|
  if x2 = 0 then
    some (.ok (u3 30 (ix x1) 0), u3)
  else
  if x2 = 1 then
    some (.ok (u3 31 (ix x1) 0), u3)
  else
  if x2 = 2 then
    some (.ok (u3 32 (ix x1) 0), u3)
  else
  if x2 = 3 then
    sb (f_X5_panNumber N u3 (ix x1)) fun r10 u12 =>
    some (.ok r10, u12)
  else
  if x2 = 4 then
    if (u3 34 (ix x1) 0) = 0 then
      some (.ok 0, u3)
    else
      some (.ok 1, u3)
  else
  if x2 = 5 then
    sb (f_X5_soundingPan N u3 (ix x1)) fun r16 u18 =>
    oc r16
      (
        some (.ok 0, u18)
      )
      fun q19 =>
      gd (vPan N q19) <|
      some (.ok 1, u18)
  else
  if x2 = 6 then
    some (.ok (u3 35 (ix x1) 0), u3)
  else
  some (.error "java/lang/IllegalArgumentException", u3)
set_option maxRecDepth 100000 in
set_option maxHeartbeats 4000000 in
theorem c_X7_ofPlayer (l : Launch) (z : Zt) (ad : Ad) (N : Nt) (X : Gt) (u : St) (x1 : Int32) (x2 : Int32) {r9 : Int32} {u9 : St} (h : f_X7_ofPlayer N u x1 x2 = some (.ok r9, u9)) : MC l z yX7_ofPlayer cX7_ofPlayer 4 (some .int) { frames := 2, cells := 0, slots := 0, locals := 43 } 0 0 [.ref (ad 0 0), .int x1, .int x2] ad (GC z ad N X u) (QI z ad (GC z ad N X u9) r9) := by
  refine Met.ofW (cc := cX7_ofPlayer) (maxL := 4) (ret := (some .int)) (by decide) rfl ?_
  intro p e s m args below meth c s₁ B hml hv
  obtain ⟨rfl, hSW, hW⟩ := hv
  have hx := B.exec; have hb := B.bytes; have hr := B.returns; have hlocks := B.notSynchronized
  have hown : s.vm.findClass RX7 = some m.cls := findClass_of_methodNamed B.named
  obtain ⟨hT, hK, hST, hB0⟩ := id hSW
  have hS : va_S (zA z) s.heap s.heap [] := va_S.rf
  have hl := lv_entry ([.ref (ad 0 0), .int x1, .int x2]) (n := 4) (Nat.le_of_ble_eq_true rfl)
  rw [lg_entry_eq]
  generalize (lg_sl ([.ref (ad 0 0), .int x1, .int x2]) ++ List.replicate (4 - (lg_sl ([.ref (ad 0 0), .int x1, .int x2])).length) Slot.unset).toArray = ls at hl ⊢
  have hl : lv_has ls 4 [(0, .ref (ad 0 0)), (1, .int x1), (2, .int x2)] := hl
  unfold f_X7_ofPlayer at h
  refine lv_aload_n hx hb dX7_ofPlayer_0 rfl (lv_at hl 0 rfl) ?_
  refine lv_iload_n hx hb dX7_ofPlayer_1 rfl (lv_at hl 1 rfl) ?_
  obtain ⟨r1, u3, h2, h⟩ := xb_s h
  refine nb_cv (nb_runV (As := [.int x1]) (rest := []) hx hb hml hown hSW hS hW (c_X7_requirePlayer l z ad N X u x1 h2) mf_X7_requirePlayer lk_X7_184 kr_0 rfl rfl ⟨rfl, rfl⟩ ⟨Nat.le_of_ble_eq_true rfl, Nat.le_of_ble_eq_true rfl⟩ hl.1 (Nat.le_of_ble_eq_true rfl) dX7_ofPlayer_2 ⟨Nat.le_of_ble_eq_true rfl, Nat.le_of_ble_eq_true rfl⟩) hS (fun H locs (hW : GW z ad (GC z ad N X u3) H) hS => ?_)
  refine lv_aload_n hx hb dX7_ofPlayer_5 rfl (lv_at hl 0 rfl) ?_
  refine nb_get hx hb hT hK hown hW fl_X7_23 kr_0 (v := .ref (ad 3 0)) rfl dX7_ofPlayer_6 ?_
  refine lv_iload_n hx hb dX7_ofPlayer_9 rfl (lv_at hl 1 rfl) ?_
  obtain ⟨g4, h⟩ := gd_s h
  obtain ⟨g5, h⟩ := gd_s h
  refine nb_aald hx hb hK hW 4 kr_3 rfl rfl (inb_in g4) (a := ad 15 (ix x1)) (qrow_at g5) dX7_ofPlayer_10 ?_
  refine lv_astore_n (lv' := [(3, .ref (ad 15 (ix x1))), (0, .ref (ad 0 0)), (1, .int x1), (2, .int x2)]) hx hb dX7_ofPlayer_11 rfl hl (by decide) rfl (fun ls hl => ?_)
  refine lv_iload_n hx hb dX7_ofPlayer_12 rfl (lv_at hl 3 rfl) ?_
  by_cases c6 : x2 = 0
  · replace h := ite_t h c6
    refine lv_tableIn (off := 43) (tgt := 56) hx hb dX7_ofPlayer_13 (by rw [c6]; decide) (by rw [c6]; decide) (by rw [c6]; rfl) (by decide) ?_
    refine lv_aload_n hx hb dX7_ofPlayer_56 rfl (lv_at hl 0 rfl) ?_
    refine nb_get hx hb hT hK hown hW fl_X7_190 (kr_15 g5) (v := .int (u3 30 (ix x1) 0)) rfl dX7_ofPlayer_57 ?_
    exact ne_iretX hx hb hr rfl hlocks hW hS dX7_ofPlayer_60 h
  replace h := ite_f h c6
  by_cases c7 : x2 = 1
  · replace h := ite_t h c7
    refine lv_tableIn (off := 48) (tgt := 61) hx hb dX7_ofPlayer_13 (by rw [c7]; decide) (by rw [c7]; decide) (by rw [c7]; rfl) (by decide) ?_
    refine lv_aload_n hx hb dX7_ofPlayer_61 rfl (lv_at hl 0 rfl) ?_
    refine nb_get hx hb hT hK hown hW fl_X7_335 (kr_15 g5) (v := .int (u3 31 (ix x1) 0)) rfl dX7_ofPlayer_62 ?_
    exact ne_iretX hx hb hr rfl hlocks hW hS dX7_ofPlayer_65 h
  replace h := ite_f h c7
  by_cases c8 : x2 = 2
  · replace h := ite_t h c8
    refine lv_tableIn (off := 53) (tgt := 66) hx hb dX7_ofPlayer_13 (by rw [c8]; decide) (by rw [c8]; decide) (by rw [c8]; rfl) (by decide) ?_
    refine lv_aload_n hx hb dX7_ofPlayer_66 rfl (lv_at hl 0 rfl) ?_
    refine nb_get hx hb hT hK hown hW fl_X7_338 (kr_15 g5) (v := .int (u3 32 (ix x1) 0)) rfl dX7_ofPlayer_67 ?_
    exact ne_iretX hx hb hr rfl hlocks hW hS dX7_ofPlayer_70 h
  replace h := ite_f h c8
  by_cases c09 : x2 = 3
  · replace h := ite_t h c09
    refine lv_tableIn (off := 58) (tgt := 71) hx hb dX7_ofPlayer_13 (by rw [c09]; decide) (by rw [c09]; decide) (by rw [c09]; rfl) (by decide) ?_
    refine lv_aload_n hx hb dX7_ofPlayer_71 rfl (lv_at hl 0 rfl) ?_
    obtain ⟨r10, u12, h11, h⟩ := sb_s h
    refine nb_ci (nb_runV (As := []) (rest := []) hx hb hml hown hSW hS hW (c_X5_panNumber l z ad N X u3 (ix x1) g5 h11) mf_X5_panNumber lk_X7_195 (kr_15 g5) rfl rfl ⟨rfl, rfl⟩ ⟨Nat.le_of_ble_eq_true rfl, Nat.le_of_ble_eq_true rfl⟩ hl.1 (Nat.le_of_ble_eq_true rfl) dX7_ofPlayer_72 ⟨Nat.le_of_ble_eq_true rfl, Nat.le_of_ble_eq_true rfl⟩) hS (fun H locs (hW : GW z ad (GC z ad N X u12) H) hS => ?_)
    exact ne_iretX hx hb hr rfl hlocks hW hS dX7_ofPlayer_75 h
  replace h := ite_f h c09
  by_cases c13 : x2 = 4
  · replace h := ite_t h c13
    refine lv_tableIn (off := 63) (tgt := 76) hx hb dX7_ofPlayer_13 (by rw [c13]; decide) (by rw [c13]; decide) (by rw [c13]; rfl) (by decide) ?_
    refine lv_aload_n hx hb dX7_ofPlayer_76 rfl (lv_at hl 0 rfl) ?_
    refine nb_get hx hb hT hK hown hW fl_X7_202 (kr_15 g5) (v := .int (u3 34 (ix x1) 0)) rfl dX7_ofPlayer_77 ?_
    refine lv_if_eq (tgt := 87) hx hb dX7_ofPlayer_80 (by decide) (fun c14 => ?_) (fun c14 => ?_)
    · replace h := ite_t h c14
      refine lv_iconst (v := 0) hx hb dX7_ofPlayer_87 (by decide) ?_
      exact ne_iretX hx hb hr rfl hlocks hW hS dX7_ofPlayer_88 h
    · replace h := ite_f h c14
      refine lv_iconst (v := 1) hx hb dX7_ofPlayer_83 (by decide) ?_
      refine lv_goto (tgt := 88) hx hb dX7_ofPlayer_84 (by decide) ?_
      exact ne_iretX hx hb hr rfl hlocks hW hS dX7_ofPlayer_88 h
  replace h := ite_f h c13
  by_cases c15 : x2 = 5
  · replace h := ite_t h c15
    refine lv_tableIn (off := 76) (tgt := 89) hx hb dX7_ofPlayer_13 (by rw [c15]; decide) (by rw [c15]; decide) (by rw [c15]; rfl) (by decide) ?_
    refine lv_aload_n hx hb dX7_ofPlayer_89 rfl (lv_at hl 0 rfl) ?_
    obtain ⟨r16, u18, h17, h⟩ := sb_s h
    refine nb_cq (nb_runV (As := []) (rest := []) hx hb hml hown hSW hS hW (c_X5_soundingPan l z ad N X u3 (ix x1) g5 h17) mf_X5_soundingPan lk_X7_236 (kr_15 g5) rfl rfl ⟨rfl, rfl⟩ ⟨Nat.le_of_ble_eq_true rfl, Nat.le_of_ble_eq_true rfl⟩ hl.1 (Nat.le_of_ble_eq_true rfl) dX7_ofPlayer_90 ⟨Nat.le_of_ble_eq_true rfl, Nat.le_of_ble_eq_true rfl⟩) hS (fun H locs (hW : GW z ad (GC z ad N X u18) H) hS => ?_)
    refine nb_oc (fun o20 => ?_) (fun q19 o20 => ?_)
    · replace h := oc_n o20 h
      refine lv_ifnullN (tgt := 100) hx hb dX7_ofPlayer_93 (by decide) ?_
      refine lv_iconst (v := 0) hx hb dX7_ofPlayer_100 (by decide) ?_
      exact ne_iretX hx hb hr rfl hlocks hW hS dX7_ofPlayer_101 h
    · replace h := oc_q o20 h
      obtain ⟨g21, h⟩ := gd_s h
      refine lv_ifnull hx hb dX7_ofPlayer_93 ?_
      refine lv_iconst (v := 1) hx hb dX7_ofPlayer_96 (by decide) ?_
      refine lv_goto (tgt := 101) hx hb dX7_ofPlayer_97 (by decide) ?_
      exact ne_iretX hx hb hr rfl hlocks hW hS dX7_ofPlayer_101 h
  replace h := ite_f h c15
  by_cases c22 : x2 = 6
  · replace h := ite_t h c22
    refine lv_tableIn (off := 89) (tgt := 102) hx hb dX7_ofPlayer_13 (by rw [c22]; decide) (by rw [c22]; decide) (by rw [c22]; rfl) (by decide) ?_
    refine lv_aload_n hx hb dX7_ofPlayer_102 rfl (lv_at hl 0 rfl) ?_
    refine nb_get hx hb hT hK hown hW fl_X7_218 (kr_15 g5) (v := .int (u3 35 (ix x1) 0)) rfl dX7_ofPlayer_103 ?_
    exact ne_iretX hx hb hr rfl hlocks hW hS dX7_ofPlayer_106 h
  replace h := ite_f h c22
  refine lv_tableOut (tgt := 107) hx hb dX7_ofPlayer_13 (by have tc6 := lv_neT (a := 0) c6 rfl; have tc7 := lv_neT (a := 1) c7 rfl; have tc8 := lv_neT (a := 2) c8 rfl; have tc09 := lv_neT (a := 3) c09 rfl; have tc13 := lv_neT (a := 4) c13 rfl; have tc15 := lv_neT (a := 5) c15 rfl; have tc22 := lv_neT (a := 6) c22 rfl; omega) (by decide) ?_
  exact absurd h (by intro q; cases q)
/-- Panyard.memory -/
def f_X7_memory (N : Nt) (u : St) (x1 : Int32) (x2 : Int32) : Option (Except String Int32 × St) :=
  xb (f_X7_requirePlayer N u x1) fun r1 u3 =>
  xb (f_X7_requirePhrase N u3 x2) fun r4 u6 =>
  gd (inb x1 8) <|
  gd (inb x2 8) <|
  some (.ok (u6 40 (8 * 0 + (ix x1)) (ix x2)), u6)
set_option maxRecDepth 100000 in
set_option maxHeartbeats 4000000 in
theorem c_X7_memory (l : Launch) (z : Zt) (ad : Ad) (N : Nt) (X : Gt) (u : St) (x1 : Int32) (x2 : Int32) {r9 : Int32} {u9 : St} (h : f_X7_memory N u x1 x2 = some (.ok r9, u9)) : MC l z yX7_memory cX7_memory 3 (some .int) { frames := 2, cells := 0, slots := 0, locals := 43 } 0 0 [.ref (ad 0 0), .int x1, .int x2] ad (GC z ad N X u) (QI z ad (GC z ad N X u9) r9) := by
  refine Met.ofW (cc := cX7_memory) (maxL := 3) (ret := (some .int)) (by decide) rfl ?_
  intro p e s m args below meth c s₁ B hml hv
  obtain ⟨rfl, hSW, hW⟩ := hv
  have hx := B.exec; have hb := B.bytes; have hr := B.returns; have hlocks := B.notSynchronized
  have hown : s.vm.findClass RX7 = some m.cls := findClass_of_methodNamed B.named
  obtain ⟨hT, hK, hST, hB0⟩ := id hSW
  have hS : va_S (zA z) s.heap s.heap [] := va_S.rf
  have hl := lv_entry ([.ref (ad 0 0), .int x1, .int x2]) (n := 3) (Nat.le_of_ble_eq_true rfl)
  rw [lg_entry_eq]
  generalize (lg_sl ([.ref (ad 0 0), .int x1, .int x2]) ++ List.replicate (3 - (lg_sl ([.ref (ad 0 0), .int x1, .int x2])).length) Slot.unset).toArray = ls at hl ⊢
  have hl : lv_has ls 3 [(0, .ref (ad 0 0)), (1, .int x1), (2, .int x2)] := hl
  unfold f_X7_memory at h
  refine lv_aload_n hx hb dX7_memory_0 rfl (lv_at hl 0 rfl) ?_
  refine lv_iload_n hx hb dX7_memory_1 rfl (lv_at hl 1 rfl) ?_
  obtain ⟨r1, u3, h2, h⟩ := xb_s h
  refine nb_cv (nb_runV (As := [.int x1]) (rest := []) hx hb hml hown hSW hS hW (c_X7_requirePlayer l z ad N X u x1 h2) mf_X7_requirePlayer lk_X7_184 kr_0 rfl rfl ⟨rfl, rfl⟩ ⟨Nat.le_of_ble_eq_true rfl, Nat.le_of_ble_eq_true rfl⟩ hl.1 (Nat.le_of_ble_eq_true rfl) dX7_memory_2 ⟨Nat.le_of_ble_eq_true rfl, Nat.le_of_ble_eq_true rfl⟩) hS (fun H locs (hW : GW z ad (GC z ad N X u3) H) hS => ?_)
  refine lv_aload_n hx hb dX7_memory_5 rfl (lv_at hl 0 rfl) ?_
  refine lv_iload_n hx hb dX7_memory_6 rfl (lv_at hl 2 rfl) ?_
  obtain ⟨r4, u6, h5, h⟩ := xb_s h
  refine nb_cv (nb_runV (As := [.int x2]) (rest := []) hx hb hml hown hSW hS hW (c_X7_requirePhrase l z ad N X u3 x2 h5) mf_X7_requirePhrase lk_X7_141 kr_0 rfl rfl ⟨rfl, rfl⟩ ⟨Nat.le_of_ble_eq_true rfl, Nat.le_of_ble_eq_true rfl⟩ hl.1 (Nat.le_of_ble_eq_true rfl) dX7_memory_7 ⟨Nat.le_of_ble_eq_true rfl, Nat.le_of_ble_eq_true rfl⟩) hS (fun H locs (hW : GW z ad (GC z ad N X u6) H) hS => ?_)
  refine lv_aload_n hx hb dX7_memory_10 rfl (lv_at hl 0 rfl) ?_
  refine nb_get hx hb hT hK hown hW fl_X7_37 kr_0 (v := .ref (ad 10 0)) rfl dX7_memory_11 ?_
  refine nb_get hx hb hT hK hown hW fl_X7_225 (kr_10 (by decide)) (v := .ref (ad 11 0)) rfl dX7_memory_14 ?_
  refine lv_iload_n hx hb dX7_memory_17 rfl (lv_at hl 1 rfl) ?_
  obtain ⟨g7, h⟩ := gd_s h
  refine nb_aald hx hb hK hW 1 (kr_11 (by decide)) rfl rfl (inb_in g7) (a := ad 20 (8 * 0 + (ix x1))) (qrow_at (inb_lt g7)) dX7_memory_18 ?_
  refine lv_iload_n hx hb dX7_memory_19 rfl (lv_at hl 2 rfl) ?_
  obtain ⟨g8, h⟩ := gd_s h
  refine nb_iald hx hb hK hW 0 (kr_20 (row_lt (by decide) (inb_lt g7))) rfl (inb_in g8) dX7_memory_20 ?_
  exact ne_iretX hx hb hr rfl hlocks hW hS dX7_memory_21 h
/-- Panyard.ofPlace -/
def f_X7_ofPlace (N : Nt) (u : St) (x1 : Int32) (x2 : Int32) : Option (Except String Int32 × St) :=
  xb (f_X7_requirePlace N u x1) fun r1 u3 =>
  sb (f_X7_isWithin N u3 x2 0 1) fun r4 u6 =>
  if r4 = 0 then
    some (.error "java/lang/IllegalArgumentException", u6)
  else
    if x2 = 0 then
      gd (inb x1 10) <|
      some (.ok (u6 42 0 (ix x1)), u6)
    else
      sb (f_X7_weigh N u6 0) fun r09 u11 =>
      sb (f_X7_soundAt N u11 0 x1) fun r12 u14 =>
      some (.ok r12, u14)
set_option maxRecDepth 100000 in
set_option maxHeartbeats 4000000 in
theorem c_X7_ofPlace (l : Launch) (z : Zt) (ad : Ad) (N : Nt) (X : Gt) (u : St) (x1 : Int32) (x2 : Int32) {r9 : Int32} {u9 : St} (h : f_X7_ofPlace N u x1 x2 = some (.ok r9, u9)) : MC l z yX7_ofPlace cX7_ofPlace 3 (some .int) { frames := 4, cells := 0, slots := 0, locals := 94 } 0 0 [.ref (ad 0 0), .int x1, .int x2] ad (GC z ad N X u) (QI z ad (GC z ad N X u9) r9) := by
  refine Met.ofW (cc := cX7_ofPlace) (maxL := 3) (ret := (some .int)) (by decide) rfl ?_
  intro p e s m args below meth c s₁ B hml hv
  obtain ⟨rfl, hSW, hW⟩ := hv
  have hx := B.exec; have hb := B.bytes; have hr := B.returns; have hlocks := B.notSynchronized
  have hown : s.vm.findClass RX7 = some m.cls := findClass_of_methodNamed B.named
  obtain ⟨hT, hK, hST, hB0⟩ := id hSW
  have hS : va_S (zA z) s.heap s.heap [] := va_S.rf
  have hl := lv_entry ([.ref (ad 0 0), .int x1, .int x2]) (n := 3) (Nat.le_of_ble_eq_true rfl)
  rw [lg_entry_eq]
  generalize (lg_sl ([.ref (ad 0 0), .int x1, .int x2]) ++ List.replicate (3 - (lg_sl ([.ref (ad 0 0), .int x1, .int x2])).length) Slot.unset).toArray = ls at hl ⊢
  have hl : lv_has ls 3 [(0, .ref (ad 0 0)), (1, .int x1), (2, .int x2)] := hl
  unfold f_X7_ofPlace at h
  refine lv_aload_n hx hb dX7_ofPlace_0 rfl (lv_at hl 0 rfl) ?_
  refine lv_iload_n hx hb dX7_ofPlace_1 rfl (lv_at hl 1 rfl) ?_
  obtain ⟨r1, u3, h2, h⟩ := xb_s h
  refine nb_cv (nb_runV (As := [.int x1]) (rest := []) hx hb hml hown hSW hS hW (c_X7_requirePlace l z ad N X u x1 h2) mf_X7_requirePlace lk_X7_168 kr_0 rfl rfl ⟨rfl, rfl⟩ ⟨Nat.le_of_ble_eq_true rfl, Nat.le_of_ble_eq_true rfl⟩ hl.1 (Nat.le_of_ble_eq_true rfl) dX7_ofPlace_2 ⟨Nat.le_of_ble_eq_true rfl, Nat.le_of_ble_eq_true rfl⟩) hS (fun H locs (hW : GW z ad (GC z ad N X u3) H) hS => ?_)
  refine lv_iload_n hx hb dX7_ofPlace_5 rfl (lv_at hl 2 rfl) ?_
  refine lv_iconst (v := 0) hx hb dX7_ofPlace_6 (by decide) ?_
  refine lv_iconst (v := 1) hx hb dX7_ofPlace_7 (by decide) ?_
  obtain ⟨r4, u6, h5, h⟩ := sb_s h
  refine nb_ci (nb_runS (As := [.int x2, .int 0, .int 1]) (rest := []) hx hb hml hown hSW hS hW (c_X7_isWithin l z ad N X u3 x2 0 1 h5) mf_X7_isWithin lk_X7_96 rfl ⟨rfl, rfl⟩ ⟨Nat.le_of_ble_eq_true rfl, Nat.le_of_ble_eq_true rfl⟩ hl.1 (Nat.le_of_ble_eq_true rfl) dX7_ofPlace_8 ⟨Nat.le_of_ble_eq_true rfl, Nat.le_of_ble_eq_true rfl⟩) hS (fun H locs (hW : GW z ad (GC z ad N X u6) H) hS => ?_)
  refine lv_if_ne (tgt := 25) hx hb dX7_ofPlace_11 (by decide) (fun c7 => ?_) (fun c7 => ?_)
  · replace h := ite_f h c7
    refine lv_iload_n hx hb dX7_ofPlace_25 rfl (lv_at hl 2 rfl) ?_
    refine lv_if_ne (tgt := 39) hx hb dX7_ofPlace_26 (by decide) (fun c8 => ?_) (fun c8 => ?_)
    · replace h := ite_f h c8
      refine lv_aload_n hx hb dX7_ofPlace_39 rfl (lv_at hl 0 rfl) ?_
      refine lv_aload_n hx hb dX7_ofPlace_40 rfl (lv_at hl 0 rfl) ?_
      refine nb_get hx hb hT hK hown hW fl_X7_37 kr_0 (v := .ref (ad 10 0)) rfl dX7_ofPlace_41 ?_
      obtain ⟨r09, u11, h10, h⟩ := sb_s h
      refine nb_cv (nb_runV (As := [.ref (ad 10 0)]) (rest := []) hx hb hml hown hSW hS hW (c_X7_weigh l z ad N X u6 0 (by decide) h10) mf_X7_weigh lk_X7_345 kr_0 rfl rfl ⟨rfl, rfl⟩ ⟨Nat.le_of_ble_eq_true rfl, Nat.le_of_ble_eq_true rfl⟩ hl.1 (Nat.le_of_ble_eq_true rfl) dX7_ofPlace_44 ⟨Nat.le_of_ble_eq_true rfl, Nat.le_of_ble_eq_true rfl⟩) hS (fun H locs (hW : GW z ad (GC z ad N X u11) H) hS => ?_)
      refine lv_aload_n hx hb dX7_ofPlace_47 rfl (lv_at hl 0 rfl) ?_
      refine lv_aload_n hx hb dX7_ofPlace_48 rfl (lv_at hl 0 rfl) ?_
      refine nb_get hx hb hT hK hown hW fl_X7_30 kr_0 (v := .ref (ad 8 0)) rfl dX7_ofPlace_49 ?_
      refine lv_iload_n hx hb dX7_ofPlace_52 rfl (lv_at hl 1 rfl) ?_
      obtain ⟨r12, u14, h13, h⟩ := sb_s h
      refine nb_ci (nb_runV (As := [.ref (ad 8 0), .int x1]) (rest := []) hx hb hml hown hSW hS hW (c_X7_soundAt l z ad N X u11 0 x1 (by decide) h13) mf_X7_soundAt lk_X7_349 kr_0 rfl rfl ⟨rfl, rfl⟩ ⟨Nat.le_of_ble_eq_true rfl, Nat.le_of_ble_eq_true rfl⟩ hl.1 (Nat.le_of_ble_eq_true rfl) dX7_ofPlace_53 ⟨Nat.le_of_ble_eq_true rfl, Nat.le_of_ble_eq_true rfl⟩) hS (fun H locs (hW : GW z ad (GC z ad N X u14) H) hS => ?_)
      exact ne_iretX hx hb hr rfl hlocks hW hS dX7_ofPlace_56 h
    · replace h := ite_t h c8
      refine lv_aload_n hx hb dX7_ofPlace_29 rfl (lv_at hl 0 rfl) ?_
      refine nb_get hx hb hT hK hown hW fl_X7_30 kr_0 (v := .ref (ad 8 0)) rfl dX7_ofPlace_30 ?_
      refine nb_get hx hb hT hK hown hW fl_X7_171 (kr_8 (by decide)) (v := .ref (ad 9 0)) rfl dX7_ofPlace_33 ?_
      refine lv_iload_n hx hb dX7_ofPlace_36 rfl (lv_at hl 1 rfl) ?_
      obtain ⟨g15, h⟩ := gd_s h
      refine nb_iald hx hb hK hW 0 (kr_9 (by decide)) rfl (inb_in g15) dX7_ofPlace_37 ?_
      exact ne_iretX hx hb hr rfl hlocks hW hS dX7_ofPlace_38 h
  · replace h := ite_t h c7
    exact absurd h (by intro q; cases q)
/-- Panyard.mark -/
def f_X7_mark (N : Nt) (u : St) (x1 : Int32) : Option (Except String Int32 × St) :=
  sb (f_X7_isWithin N u x1 0 3) fun r1 u3 =>
  if r1 = 0 then
    some (.error "java/lang/IndexOutOfBoundsException", u3)
  else
    sb (f_X7_weigh N u3 0) fun r5 u7 =>
    if x1 = 0 then
      sb (f_X7_meanSound N u7 0) fun r09 u11 =>
      some (.ok r09, u11)
    else
    if x1 = 1 then
      sb (f_X7_tone N u7) fun r13 u15 =>
      some (.ok r13, u15)
    else
    if x1 = 2 then
      sb (f_X7_variety N u7 0) fun r17 u19 =>
      some (.ok r17, u19)
    else
    sb (f_X7_leastSound N u7 0) fun r20 u22 =>
    some (.ok r20, u22)
set_option maxRecDepth 100000 in
set_option maxHeartbeats 4000000 in
theorem c_X7_mark (l : Launch) (z : Zt) (ad : Ad) (N : Nt) (X : Gt) (u : St) (x1 : Int32) {r9 : Int32} {u9 : St} (h : f_X7_mark N u x1 = some (.ok r9, u9)) : MC l z yX7_mark cX7_mark 2 (some .int) { frames := 4, cells := 0, slots := 0, locals := 94 } 0 0 [.ref (ad 0 0), .int x1] ad (GC z ad N X u) (QI z ad (GC z ad N X u9) r9) := by
  refine Met.ofW (cc := cX7_mark) (maxL := 2) (ret := (some .int)) (by decide) rfl ?_
  intro p e s m args below meth c s₁ B hml hv
  obtain ⟨rfl, hSW, hW⟩ := hv
  have hx := B.exec; have hb := B.bytes; have hr := B.returns; have hlocks := B.notSynchronized
  have hown : s.vm.findClass RX7 = some m.cls := findClass_of_methodNamed B.named
  obtain ⟨hT, hK, hST, hB0⟩ := id hSW
  have hS : va_S (zA z) s.heap s.heap [] := va_S.rf
  have hl := lv_entry ([.ref (ad 0 0), .int x1]) (n := 2) (Nat.le_of_ble_eq_true rfl)
  rw [lg_entry_eq]
  generalize (lg_sl ([.ref (ad 0 0), .int x1]) ++ List.replicate (2 - (lg_sl ([.ref (ad 0 0), .int x1])).length) Slot.unset).toArray = ls at hl ⊢
  have hl : lv_has ls 2 [(0, .ref (ad 0 0)), (1, .int x1)] := hl
  unfold f_X7_mark at h
  refine lv_iload_n hx hb dX7_mark_0 rfl (lv_at hl 1 rfl) ?_
  refine lv_iconst (v := 0) hx hb dX7_mark_1 (by decide) ?_
  refine lv_iconst (v := 3) hx hb dX7_mark_2 (by decide) ?_
  obtain ⟨r1, u3, h2, h⟩ := sb_s h
  refine nb_ci (nb_runS (As := [.int x1, .int 0, .int 3]) (rest := []) hx hb hml hown hSW hS hW (c_X7_isWithin l z ad N X u x1 0 3 h2) mf_X7_isWithin lk_X7_96 rfl ⟨rfl, rfl⟩ ⟨Nat.le_of_ble_eq_true rfl, Nat.le_of_ble_eq_true rfl⟩ hl.1 (Nat.le_of_ble_eq_true rfl) dX7_mark_3 ⟨Nat.le_of_ble_eq_true rfl, Nat.le_of_ble_eq_true rfl⟩) hS (fun H locs (hW : GW z ad (GC z ad N X u3) H) hS => ?_)
  refine lv_if_ne (tgt := 20) hx hb dX7_mark_6 (by decide) (fun c4 => ?_) (fun c4 => ?_)
  · replace h := ite_f h c4
    refine lv_aload_n hx hb dX7_mark_20 rfl (lv_at hl 0 rfl) ?_
    refine lv_aload_n hx hb dX7_mark_21 rfl (lv_at hl 0 rfl) ?_
    refine nb_get hx hb hT hK hown hW fl_X7_37 kr_0 (v := .ref (ad 10 0)) rfl dX7_mark_22 ?_
    obtain ⟨r5, u7, h6, h⟩ := sb_s h
    refine nb_cv (nb_runV (As := [.ref (ad 10 0)]) (rest := []) hx hb hml hown hSW hS hW (c_X7_weigh l z ad N X u3 0 (by decide) h6) mf_X7_weigh lk_X7_345 kr_0 rfl rfl ⟨rfl, rfl⟩ ⟨Nat.le_of_ble_eq_true rfl, Nat.le_of_ble_eq_true rfl⟩ hl.1 (Nat.le_of_ble_eq_true rfl) dX7_mark_25 ⟨Nat.le_of_ble_eq_true rfl, Nat.le_of_ble_eq_true rfl⟩) hS (fun H locs (hW : GW z ad (GC z ad N X u7) H) hS => ?_)
    refine lv_iload_n hx hb dX7_mark_28 rfl (lv_at hl 1 rfl) ?_
    by_cases c8 : x1 = 0
    · replace h := ite_t h c8
      refine lv_tableIn (off := 27) (tgt := 56) hx hb dX7_mark_29 (by rw [c8]; decide) (by rw [c8]; decide) (by rw [c8]; rfl) (by decide) ?_
      refine lv_aload_n hx hb dX7_mark_56 rfl (lv_at hl 0 rfl) ?_
      refine lv_aload_n hx hb dX7_mark_57 rfl (lv_at hl 0 rfl) ?_
      refine nb_get hx hb hT hK hown hW fl_X7_30 kr_0 (v := .ref (ad 8 0)) rfl dX7_mark_58 ?_
      obtain ⟨r09, u11, h10, h⟩ := sb_s h
      refine nb_ci (nb_runV (As := [.ref (ad 8 0)]) (rest := []) hx hb hml hown hSW hS hW (c_X7_meanSound l z ad N X u7 0 (by decide) h10) mf_X7_meanSound lk_X7_355 kr_0 rfl rfl ⟨rfl, rfl⟩ ⟨Nat.le_of_ble_eq_true rfl, Nat.le_of_ble_eq_true rfl⟩ hl.1 (Nat.le_of_ble_eq_true rfl) dX7_mark_61 ⟨Nat.le_of_ble_eq_true rfl, Nat.le_of_ble_eq_true rfl⟩) hS (fun H locs (hW : GW z ad (GC z ad N X u11) H) hS => ?_)
      exact ne_iretX hx hb hr rfl hlocks hW hS dX7_mark_64 h
    replace h := ite_f h c8
    by_cases c12 : x1 = 1
    · replace h := ite_t h c12
      refine lv_tableIn (off := 36) (tgt := 65) hx hb dX7_mark_29 (by rw [c12]; decide) (by rw [c12]; decide) (by rw [c12]; rfl) (by decide) ?_
      refine lv_aload_n hx hb dX7_mark_65 rfl (lv_at hl 0 rfl) ?_
      obtain ⟨r13, u15, h14, h⟩ := sb_s h
      refine nb_ci (nb_runV (As := []) (rest := []) hx hb hml hown hSW hS hW (c_X7_tone l z ad N X u7 h14) mf_X7_tone lk_X7_359 kr_0 rfl rfl ⟨rfl, rfl⟩ ⟨Nat.le_of_ble_eq_true rfl, Nat.le_of_ble_eq_true rfl⟩ hl.1 (Nat.le_of_ble_eq_true rfl) dX7_mark_66 ⟨Nat.le_of_ble_eq_true rfl, Nat.le_of_ble_eq_true rfl⟩) hS (fun H locs (hW : GW z ad (GC z ad N X u15) H) hS => ?_)
      exact ne_iretX hx hb hr rfl hlocks hW hS dX7_mark_69 h
    replace h := ite_f h c12
    by_cases c16 : x1 = 2
    · replace h := ite_t h c16
      refine lv_tableIn (off := 41) (tgt := 70) hx hb dX7_mark_29 (by rw [c16]; decide) (by rw [c16]; decide) (by rw [c16]; rfl) (by decide) ?_
      refine lv_aload_n hx hb dX7_mark_70 rfl (lv_at hl 0 rfl) ?_
      refine lv_aload_n hx hb dX7_mark_71 rfl (lv_at hl 0 rfl) ?_
      refine nb_get hx hb hT hK hown hW fl_X7_30 kr_0 (v := .ref (ad 8 0)) rfl dX7_mark_72 ?_
      obtain ⟨r17, u19, h18, h⟩ := sb_s h
      refine nb_ci (nb_runV (As := [.ref (ad 8 0)]) (rest := []) hx hb hml hown hSW hS hW (c_X7_variety l z ad N X u7 0 (by decide) h18) mf_X7_variety lk_X7_362 kr_0 rfl rfl ⟨rfl, rfl⟩ ⟨Nat.le_of_ble_eq_true rfl, Nat.le_of_ble_eq_true rfl⟩ hl.1 (Nat.le_of_ble_eq_true rfl) dX7_mark_75 ⟨Nat.le_of_ble_eq_true rfl, Nat.le_of_ble_eq_true rfl⟩) hS (fun H locs (hW : GW z ad (GC z ad N X u19) H) hS => ?_)
      exact ne_iretX hx hb hr rfl hlocks hW hS dX7_mark_78 h
    replace h := ite_f h c16
    refine lv_tableOut (tgt := 79) hx hb dX7_mark_29 (by have tc8 := lv_neT (a := 0) c8 rfl; have tc12 := lv_neT (a := 1) c12 rfl; have tc16 := lv_neT (a := 2) c16 rfl; omega) (by decide) ?_
    refine lv_aload_n hx hb dX7_mark_79 rfl (lv_at hl 0 rfl) ?_
    refine lv_aload_n hx hb dX7_mark_80 rfl (lv_at hl 0 rfl) ?_
    refine nb_get hx hb hT hK hown hW fl_X7_30 kr_0 (v := .ref (ad 8 0)) rfl dX7_mark_81 ?_
    obtain ⟨r20, u22, h21, h⟩ := sb_s h
    refine nb_ci (nb_runV (As := [.ref (ad 8 0)]) (rest := []) hx hb hml hown hSW hS hW (c_X7_leastSound l z ad N X u7 0 (by decide) h21) mf_X7_leastSound lk_X7_365 kr_0 rfl rfl ⟨rfl, rfl⟩ ⟨Nat.le_of_ble_eq_true rfl, Nat.le_of_ble_eq_true rfl⟩ hl.1 (Nat.le_of_ble_eq_true rfl) dX7_mark_84 ⟨Nat.le_of_ble_eq_true rfl, Nat.le_of_ble_eq_true rfl⟩) hS (fun H locs (hW : GW z ad (GC z ad N X u22) H) hS => ?_)
    exact ne_iretX hx hb hr rfl hlocks hW hS dX7_mark_87 h
  · replace h := ite_t h c4
    exact absurd h (by intro q; cases q)
/-- Panyard.ofRound -/
def f_X7_ofRound (N : Nt) (u : St) (x1 : Int32) (x2 : Int32) : Option (Except String Int32 × St) :=
  sb (f_X7_isWithin N u x1 0 2) fun r1 u3 =>
  if r1 = 0 then
    some (.error "java/lang/IndexOutOfBoundsException", u3)
  else
    sb (f_X7_isWithin N u3 x2 0 1) fun r5 u7 =>
    if r5 = 0 then
      some (.error "java/lang/IllegalArgumentException", u7)
    else
      if x1 < (u7 65 0 0) then
        if x2 = 0 then
          gd (inb x1 3) <|
          some (.ok (u7 62 0 (ix x1)), u7)
        else
          gd (inb x1 3) <|
          some (.ok (u7 63 0 (ix x1)), u7)
      else
        some (.ok (-1), u7)
set_option maxRecDepth 100000 in
set_option maxHeartbeats 4000000 in
theorem c_X7_ofRound (l : Launch) (z : Zt) (ad : Ad) (N : Nt) (X : Gt) (u : St) (x1 : Int32) (x2 : Int32) {r9 : Int32} {u9 : St} (h : f_X7_ofRound N u x1 x2 = some (.ok r9, u9)) : MC l z yX7_ofRound cX7_ofRound 3 (some .int) { frames := 1, cells := 0, slots := 0, locals := 22 } 0 0 [.ref (ad 0 0), .int x1, .int x2] ad (GC z ad N X u) (QI z ad (GC z ad N X u9) r9) := by
  refine Met.ofW (cc := cX7_ofRound) (maxL := 3) (ret := (some .int)) (by decide) rfl ?_
  intro p e s m args below meth c s₁ B hml hv
  obtain ⟨rfl, hSW, hW⟩ := hv
  have hx := B.exec; have hb := B.bytes; have hr := B.returns; have hlocks := B.notSynchronized
  have hown : s.vm.findClass RX7 = some m.cls := findClass_of_methodNamed B.named
  obtain ⟨hT, hK, hST, hB0⟩ := id hSW
  have hS : va_S (zA z) s.heap s.heap [] := va_S.rf
  have hl := lv_entry ([.ref (ad 0 0), .int x1, .int x2]) (n := 3) (Nat.le_of_ble_eq_true rfl)
  rw [lg_entry_eq]
  generalize (lg_sl ([.ref (ad 0 0), .int x1, .int x2]) ++ List.replicate (3 - (lg_sl ([.ref (ad 0 0), .int x1, .int x2])).length) Slot.unset).toArray = ls at hl ⊢
  have hl : lv_has ls 3 [(0, .ref (ad 0 0)), (1, .int x1), (2, .int x2)] := hl
  unfold f_X7_ofRound at h
  refine lv_iload_n hx hb dX7_ofRound_0 rfl (lv_at hl 1 rfl) ?_
  refine lv_iconst (v := 0) hx hb dX7_ofRound_1 (by decide) ?_
  refine lv_iconst (v := 2) hx hb dX7_ofRound_2 (by decide) ?_
  obtain ⟨r1, u3, h2, h⟩ := sb_s h
  refine nb_ci (nb_runS (As := [.int x1, .int 0, .int 2]) (rest := []) hx hb hml hown hSW hS hW (c_X7_isWithin l z ad N X u x1 0 2 h2) mf_X7_isWithin lk_X7_96 rfl ⟨rfl, rfl⟩ ⟨Nat.le_of_ble_eq_true rfl, Nat.le_of_ble_eq_true rfl⟩ hl.1 (Nat.le_of_ble_eq_true rfl) dX7_ofRound_3 ⟨Nat.le_of_ble_eq_true rfl, Nat.le_of_ble_eq_true rfl⟩) hS (fun H locs (hW : GW z ad (GC z ad N X u3) H) hS => ?_)
  refine lv_if_ne (tgt := 20) hx hb dX7_ofRound_6 (by decide) (fun c4 => ?_) (fun c4 => ?_)
  · replace h := ite_f h c4
    refine lv_iload_n hx hb dX7_ofRound_20 rfl (lv_at hl 2 rfl) ?_
    refine lv_iconst (v := 0) hx hb dX7_ofRound_21 (by decide) ?_
    refine lv_iconst (v := 1) hx hb dX7_ofRound_22 (by decide) ?_
    obtain ⟨r5, u7, h6, h⟩ := sb_s h
    refine nb_ci (nb_runS (As := [.int x2, .int 0, .int 1]) (rest := []) hx hb hml hown hSW hS hW (c_X7_isWithin l z ad N X u3 x2 0 1 h6) mf_X7_isWithin lk_X7_96 rfl ⟨rfl, rfl⟩ ⟨Nat.le_of_ble_eq_true rfl, Nat.le_of_ble_eq_true rfl⟩ hl.1 (Nat.le_of_ble_eq_true rfl) dX7_ofRound_23 ⟨Nat.le_of_ble_eq_true rfl, Nat.le_of_ble_eq_true rfl⟩) hS (fun H locs (hW : GW z ad (GC z ad N X u7) H) hS => ?_)
    refine lv_if_ne (tgt := 40) hx hb dX7_ofRound_26 (by decide) (fun c8 => ?_) (fun c8 => ?_)
    · replace h := ite_f h c8
      refine lv_iload_n hx hb dX7_ofRound_40 rfl (lv_at hl 1 rfl) ?_
      refine lv_aload_n hx hb dX7_ofRound_41 rfl (lv_at hl 0 rfl) ?_
      refine nb_get hx hb hT hK hown hW fl_X7_51 kr_0 (v := .ref (ad 6 0)) rfl dX7_ofRound_42 ?_
      refine nb_get hx hb hT hK hown hW fl_X7_299 kr_6 (v := .int (u7 65 0 0)) rfl dX7_ofRound_45 ?_
      refine lv_icmp_lt (tgt := 53) hx hb dX7_ofRound_48 (by decide) (fun c09 => ?_) (fun c09 => ?_)
      · replace h := ite_t h c09
        refine lv_iload_n hx hb dX7_ofRound_53 rfl (lv_at hl 2 rfl) ?_
        refine lv_if_ne (tgt := 69) hx hb dX7_ofRound_54 (by decide) (fun c10 => ?_) (fun c10 => ?_)
        · replace h := ite_f h c10
          refine lv_aload_n hx hb dX7_ofRound_69 rfl (lv_at hl 0 rfl) ?_
          refine nb_get hx hb hT hK hown hW fl_X7_51 kr_0 (v := .ref (ad 6 0)) rfl dX7_ofRound_70 ?_
          refine nb_get hx hb hT hK hown hW fl_X7_373 kr_6 (v := .ref (ad 19 0)) rfl dX7_ofRound_73 ?_
          refine lv_iload_n hx hb dX7_ofRound_76 rfl (lv_at hl 1 rfl) ?_
          obtain ⟨g11, h⟩ := gd_s h
          refine nb_iald hx hb hK hW 0 kr_19 rfl (inb_in g11) dX7_ofRound_77 ?_
          exact ne_iretX hx hb hr rfl hlocks hW hS dX7_ofRound_78 h
        · replace h := ite_t h c10
          refine lv_aload_n hx hb dX7_ofRound_57 rfl (lv_at hl 0 rfl) ?_
          refine nb_get hx hb hT hK hown hW fl_X7_51 kr_0 (v := .ref (ad 6 0)) rfl dX7_ofRound_58 ?_
          refine nb_get hx hb hT hK hown hW fl_X7_370 kr_6 (v := .ref (ad 18 0)) rfl dX7_ofRound_61 ?_
          refine lv_iload_n hx hb dX7_ofRound_64 rfl (lv_at hl 1 rfl) ?_
          obtain ⟨g12, h⟩ := gd_s h
          refine nb_iald hx hb hK hW 0 kr_18 rfl (inb_in g12) dX7_ofRound_65 ?_
          refine lv_goto (tgt := 78) hx hb dX7_ofRound_66 (by decide) ?_
          exact ne_iretX hx hb hr rfl hlocks hW hS dX7_ofRound_78 h
      · replace h := ite_f h c09
        refine lv_iconst (v := (-1)) hx hb dX7_ofRound_51 (by decide) ?_
        exact ne_iretX hx hb hr rfl hlocks hW hS dX7_ofRound_52 h
    · replace h := ite_t h c8
      exact absurd h (by intro q; cases q)
  · replace h := ite_t h c4
    exact absurd h (by intro q; cases q)
/-- Panyard.blowsEver -/
def f_X7_blowsEver_L4b (N : Nt) (ih4 : Int32 → Int32 → St → Option (Int32 × St)) (y2 : Int32) (y1 : Int32) (u : St) : Option (Int32 × St) :=
  if (u 0 0 0) ≤ y2 then
    some (y1, u)
  else
    gd (inb y2 6) <|
    gd ((ix y2) < N 12) <|
    nm (y1 + (u 13 (ix y2) 0)) fun v4 =>
    nm (y2 + 1) fun v5 =>
    ih4 v5 v4 u
def f_X7_blowsEver_L4 (N : Nt) : Nat → Int32 → Int32 → St → Option (Int32 × St) := lp (fun _ _ _ => none) (f_X7_blowsEver_L4b N)
def f_X7_blowsEver (N : Nt) (u : St) : Option (Int32 × St) :=
  f_X7_blowsEver_L4 N 1000000 0 0 u
set_option maxRecDepth 100000 in
set_option maxHeartbeats 4000000 in
theorem c_X7_blowsEver (l : Launch) (z : Zt) (ad : Ad) (N : Nt) (X : Gt) (u : St) {r9 : Int32} {u9 : St} (h : f_X7_blowsEver N u = some (r9, u9)) : MC l z yX7_blowsEver cX7_blowsEver 3 (some .int) { frames := 0, cells := 0, slots := 0, locals := 0 } 0 0 [.ref (ad 0 0)] ad (GC z ad N X u) (QI z ad (GC z ad N X u9) r9) := by
  refine Met.ofW (cc := cX7_blowsEver) (maxL := 3) (ret := (some .int)) (by decide) rfl ?_
  intro p e s m args below meth c s₁ B hml hv
  obtain ⟨rfl, hSW, hW⟩ := hv
  have hx := B.exec; have hb := B.bytes; have hr := B.returns; have hlocks := B.notSynchronized
  have hown : s.vm.findClass RX7 = some m.cls := findClass_of_methodNamed B.named
  obtain ⟨hT, hK, hST, hB0⟩ := id hSW
  have hS : va_S (zA z) s.heap s.heap [] := va_S.rf
  have hl := lv_entry ([.ref (ad 0 0)]) (n := 3) (Nat.le_of_ble_eq_true rfl)
  rw [lg_entry_eq]
  generalize (lg_sl ([.ref (ad 0 0)]) ++ List.replicate (3 - (lg_sl ([.ref (ad 0 0)])).length) Slot.unset).toArray = ls at hl ⊢
  have hl : lv_has ls 3 [(0, .ref (ad 0 0))] := hl
  let WW : Heap → List Loc → JFrame → Prop := fun H locs g => W p l e (headSpec [Cond.code yX7_blowsEver cX7_blowsEver 3 (some .int)] { frames := 0, cells := 0, slots := 0, locals := 0 }).room s m [.ref (ad 0 0)].toArray below meth c H locs 0 0 (MQ below (QI z ad (GC z ad N X u9) r9) [.ref (ad 0 0)].toArray s 0 0 (zA z)) g
  have hL4b : ∀ (ih4 : Int32 → Int32 → St → Option (Int32 × St)) (hih4 : ∀ (y2 : Int32) (y1 : Int32) (u : St) (H : Heap) (locs : List Loc) (ls : Array Slot), lv_has ls 3 [(2, .int y2), (1, .int y1), (0, .ref (ad 0 0))] → GW z ad (GC z ad N X u) H → va_S (zA z) s.heap H locs → ih4 y2 y1 u = some (r9, u9) → WW H locs (F0 m 4 ls [])), ∀ (y2 : Int32) (y1 : Int32) (u : St) (H : Heap) (locs : List Loc) (ls : Array Slot), lv_has ls 3 [(2, .int y2), (1, .int y1), (0, .ref (ad 0 0))] → GW z ad (GC z ad N X u) H → va_S (zA z) s.heap H locs → f_X7_blowsEver_L4b N ih4 y2 y1 u = some (r9, u9) → WW H locs (F0 m 4 ls []) := by
    intro ih4 hih4 y2 y1 u H locs ls hl hW hS h
    change W p l e _ s m _ below meth c H locs 0 0 _ (F0 m 4 ls [])
    unfold f_X7_blowsEver_L4b at h
    refine lv_iload_n hx hb dX7_blowsEver_4 rfl (lv_at hl 0 rfl) ?_
    refine lv_aload_n hx hb dX7_blowsEver_5 rfl (lv_at hl 2 rfl) ?_
    refine nb_get hx hb hT hK hown hW fl_X7_80 kr_0 (v := .int (u 0 0 0)) rfl dX7_blowsEver_6 ?_
    refine lv_icmp_ge (tgt := 30) hx hb dX7_blowsEver_9 (by decide) (fun c1 => ?_) (fun c1 => ?_)
    · replace h := ite_t h c1
      refine lv_iload_n hx hb dX7_blowsEver_30 rfl (lv_at hl 1 rfl) ?_
      exact ne_iret hx hb hr rfl hlocks hW hS dX7_blowsEver_31 h
    · replace h := ite_f h c1
      refine lv_iload_n hx hb dX7_blowsEver_12 rfl (lv_at hl 1 rfl) ?_
      refine lv_aload_n hx hb dX7_blowsEver_13 rfl (lv_at hl 2 rfl) ?_
      refine nb_get hx hb hT hK hown hW fl_X7_11 kr_0 (v := .ref (ad 1 0)) rfl dX7_blowsEver_14 ?_
      refine lv_iload_n hx hb dX7_blowsEver_17 rfl (lv_at hl 0 rfl) ?_
      obtain ⟨g2, h⟩ := gd_s h
      obtain ⟨g3, h⟩ := gd_s h
      refine nb_aald hx hb hK hW 2 kr_1 rfl rfl (inb_in g2) (a := ad 12 (ix y2)) (qrow_at g3) dX7_blowsEver_18 ?_
      refine nb_get hx hb hT hK hown hW fl_X7_321 (kr_12 (Or.inl g3)) (v := .int (u 13 (ix y2) 0)) rfl dX7_blowsEver_19 ?_
      refine lv_iadd hx hb dX7_blowsEver_22 ?_
      refine lv_topi (fun v4 ev4 => ?_)
      replace h := nm_at ev4 h
      refine lv_istore_n (lv' := [(1, .int v4), (2, .int y2), (0, .ref (ad 0 0))]) hx hb dX7_blowsEver_23 rfl hl (by decide) rfl (fun ls hl => ?_)
      obtain ⟨v5, ev5, h⟩ := nm_s h
      refine lv_iinc (v := v5) (lv' := [(2, .int v5), (1, .int v4), (0, .ref (ad 0 0))]) hx hb dX7_blowsEver_24 hl (k := 1) rfl (by rw [ev5]; rfl) (by decide) rfl (fun ls hl => ?_)
      refine lv_goto (tgt := 4) hx hb dX7_blowsEver_27 (by decide) ?_
      exact hih4 _ _ _ _ _ _ (lv_sub hl [0, 1, 2] rfl) hW hS h
  have hL4 : ∀ (n : Nat), ∀ (y2 : Int32) (y1 : Int32) (u : St) (H : Heap) (locs : List Loc) (ls : Array Slot), lv_has ls 3 [(2, .int y2), (1, .int y1), (0, .ref (ad 0 0))] → GW z ad (GC z ad N X u) H → va_S (zA z) s.heap H locs → f_X7_blowsEver_L4 N n y2 y1 u = some (r9, u9) → WW H locs (F0 m 4 ls []) := by
    intro n
    induction n with
    | zero => intro y2 y1 u H locs ls hl hW hS h; exact absurd h (by intro q; cases q)
    | succ n ihn => intro y2 y1 u H locs ls hl hW hS h; exact hL4b (f_X7_blowsEver_L4 N n) ihn y2 y1 u H locs ls hl hW hS h
  unfold f_X7_blowsEver at h
  refine lv_iconst (v := 0) hx hb dX7_blowsEver_0 (by decide) ?_
  refine lv_istore_n (lv' := [(1, .int 0), (0, .ref (ad 0 0))]) hx hb dX7_blowsEver_1 rfl hl (by decide) rfl (fun ls hl => ?_)
  refine lv_iconst (v := 0) hx hb dX7_blowsEver_2 (by decide) ?_
  refine lv_istore_n (lv' := [(2, .int 0), (1, .int 0), (0, .ref (ad 0 0))]) hx hb dX7_blowsEver_3 rfl hl (by decide) rfl (fun ls hl => ?_)
  exact hL4 1000000 _ _ _ _ _ _ (lv_sub hl [0, 1, 2] rfl) hW hS h
