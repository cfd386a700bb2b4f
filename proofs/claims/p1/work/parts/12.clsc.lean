/-- Panyard.requirePlayer -/
def f_X7_requirePlayer (N : Nt) (u : St) (x1 : Int32) : Option (Except String Unit × St) :=
  sb (f_X7_isWithin N u x1 0 ((u 2 0 0) - 1)) fun r1 u3 =>
  if r1 = 0 then
    some (.error "java/lang/IndexOutOfBoundsException", u3)
  else
    some (.ok (), u3)
set_option maxRecDepth 100000 in
set_option maxHeartbeats 4000000 in
theorem c_X7_requirePlayer (l : Launch) (z : Zt) (ad : Ad) (N : Nt) (X : Gt) (u : St) (x1 : Int32) {r9 : Unit} {u9 : St} (h : f_X7_requirePlayer N u x1 = some (.ok r9, u9)) : MC l z yX7_requirePlayer cX7_requirePlayer 2 none { frames := 1, cells := 0, slots := 0, locals := 22 } 0 0 [.ref (ad 0 0), .int x1] ad (GC z ad N X u) (QV z ad (GC z ad N X u9)) := by
  refine Met.ofW (cc := cX7_requirePlayer) (maxL := 2) (ret := none) (by decide) rfl ?_
  intro p e s m args below meth c s₁ B hml hv
  obtain ⟨rfl, hSW, hW⟩ := hv
  have hx := B.exec; have hb := B.bytes; have hr := B.returns; have hlocks := B.notSynchronized
  have hown : s.vm.findClass RX7 = some m.cls := findClass_of_methodNamed B.named
  obtain ⟨hT, hK, hST, hB0⟩ := id hSW
  have hS : va_S (zA z) s.heap s.heap [] := va_S.rf
  have hl := lv_entry ([.ref (ad 0 0), .int x1]) (n := 2) (Nat.le_of_ble_eq_true rfl)
  rw [lg_entry_eq]
  generalize (lg_sl ([.ref (ad 0 0), .int x1]) ++ List.replicate (2 - (lg_sl ([.ref (ad 0 0), .int x1])).length) Slot.unset).toArray = ls at hl ⊢
  have hl : lv_has ls 2 [(0, .ref (ad 0 0)), (1, .int x1)] := hl
  unfold f_X7_requirePlayer at h
  refine lv_iload_n hx hb dX7_requirePlayer_0 rfl (lv_at hl 1 rfl) ?_
  refine lv_iconst (v := 0) hx hb dX7_requirePlayer_1 (by decide) ?_
  refine lv_aload_n hx hb dX7_requirePlayer_2 rfl (lv_at hl 0 rfl) ?_
  refine nb_get hx hb hT hK hown hW fl_X7_147 kr_0 (v := .int (u 2 0 0)) rfl dX7_requirePlayer_3 ?_
  refine lv_iconst (v := 1) hx hb dX7_requirePlayer_6 (by decide) ?_
  refine lv_isub hx hb dX7_requirePlayer_7 ?_
  obtain ⟨r1, u3, h2, h⟩ := sb_s h
  refine nb_ci (nb_runS (As := [.int x1, .int 0, .int ((u 2 0 0) - 1)]) (rest := []) hx hb hml hown hSW hS hW (c_X7_isWithin l z ad N X u x1 0 ((u 2 0 0) - 1) h2) mf_X7_isWithin lk_X7_96 rfl ⟨rfl, rfl⟩ ⟨Nat.le_of_ble_eq_true rfl, Nat.le_of_ble_eq_true rfl⟩ hl.1 (Nat.le_of_ble_eq_true rfl) dX7_requirePlayer_8 ⟨Nat.le_of_ble_eq_true rfl, Nat.le_of_ble_eq_true rfl⟩) hS (fun H locs (hW : GW z ad (GC z ad N X u3) H) hS => ?_)
  refine lv_if_ne (tgt := 25) hx hb dX7_requirePlayer_11 (by decide) (fun c4 => ?_) (fun c4 => ?_)
  · replace h := ite_f h c4
    exact ne_vretX hx hb hr hlocks hW hS dX7_requirePlayer_25 h
  · replace h := ite_t h c4
    exact absurd h (by intro q; cases q)
/-- Panyard$Player.panNumber -/
def f_X5_panNumber (N : Nt) (u : St) (k0 : Nat) : Option (Int32 × St) :=
  oc (ppan N u k0)
    (
      some ((-1), u)
    )
    fun q1 =>
    some ((u 10 q1 0), u)
set_option maxRecDepth 100000 in
set_option maxHeartbeats 4000000 in
theorem c_X5_panNumber (l : Launch) (z : Zt) (ad : Ad) (N : Nt) (X : Gt) (u : St) (k0 : Nat) (hk0 : k0 < N 15) {r9 : Int32} {u9 : St} (h : f_X5_panNumber N u k0 = some (r9, u9)) : MC l z yX5_panNumber cX5_panNumber 1 (some .int) { frames := 0, cells := 0, slots := 0, locals := 0 } 0 0 [.ref (ad 15 k0)] ad (GC z ad N X u) (QI z ad (GC z ad N X u9) r9) := by
  refine Met.ofW (cc := cX5_panNumber) (maxL := 1) (ret := (some .int)) (by decide) rfl ?_
  intro p e s m args below meth c s₁ B hml hv
  obtain ⟨rfl, hSW, hW⟩ := hv
  have hx := B.exec; have hb := B.bytes; have hr := B.returns; have hlocks := B.notSynchronized
  have hown : s.vm.findClass RX5 = some m.cls := findClass_of_methodNamed B.named
  obtain ⟨hT, hK, hST, hB0⟩ := id hSW
  have hS : va_S (zA z) s.heap s.heap [] := va_S.rf
  have hl := lv_entry ([.ref (ad 15 k0)]) (n := 1) (Nat.le_of_ble_eq_true rfl)
  rw [lg_entry_eq]
  generalize (lg_sl ([.ref (ad 15 k0)]) ++ List.replicate (1 - (lg_sl ([.ref (ad 15 k0)])).length) Slot.unset).toArray = ls at hl ⊢
  have hl : lv_has ls 1 [(0, .ref (ad 15 k0))] := hl
  unfold f_X5_panNumber at h
  refine lv_aload_n hx hb dX5_panNumber_0 rfl (lv_at hl 0 rfl) ?_
  refine nb_get hx hb hT hK hown hW fl_X5_21 (kr_15 hk0) (v := va_rf ((ppan N u k0).map (ad 12))) rfl dX5_panNumber_1 ?_
  refine nb_oc (fun o2 => ?_) (fun q1 o2 => ?_)
  · replace h := oc_n o2 h
    refine lv_ifnonnullN hx hb dX5_panNumber_4 ?_
    refine lv_iconst (v := (-1)) hx hb dX5_panNumber_7 (by decide) ?_
    refine lv_goto (tgt := 18) hx hb dX5_panNumber_8 (by decide) ?_
    exact ne_iret hx hb hr rfl hlocks hW hS dX5_panNumber_18 h
  · replace h := oc_q o2 h
    refine lv_ifnonnull (tgt := 11) hx hb dX5_panNumber_4 (by decide) ?_
    refine lv_aload_n hx hb dX5_panNumber_11 rfl (lv_at hl 0 rfl) ?_
    refine nb_get hx hb hT hK hown hW fl_X5_21 (kr_15 hk0) (v := va_rf ((ppan N u k0).map (ad 12))) rfl dX5_panNumber_12 ?_
    refine nb_ocq o2 ?_
    refine nb_get hx hb hT hK hown hW fl_X5_25 (kr_12 (Or.inl (ppan_lt o2))) (v := .int (u 10 q1 0)) rfl dX5_panNumber_15 ?_
    exact ne_iret hx hb hr rfl hlocks hW hS dX5_panNumber_18 h
/-- Panyard.give -/
def f_X7_give_B15 (N : Nt) (y1 : Int32) (y2 : Int32) (u : St) : Option (Except String Int32 × St) :=
  gd (inb y1 8) <|
  gd ((ix y1) < N 15) <|
  if y2 = (-1) then
    sb (f_X5_panNumber N u (ix y1)) fun r16 u18 =>
    nm (sset u18 33 (ix y1) 0 (penc none)) fun u19 =>
    some (.ok r16, u19)
  else
    gd (inb y2 6) <|
    gd ((ix y2) < N 12) <|
    if (u 11 (ix y2) 0) = (u 30 (ix y1) 0) then
      sb (f_X5_panNumber N u (ix y1)) fun r11 u13 =>
      gd ((ix y2) < N 12 ∧ (ix y2) < 2 ^ 31) <|
      nm (sset u13 33 (ix y1) 0 (penc (some (ix y2)))) fun u14 =>
      some (.ok r11, u14)
    else
      some (.error "java/lang/IllegalArgumentException", u)
def f_X7_give (N : Nt) (u : St) (x1 : Int32) (x2 : Int32) : Option (Except String Int32 × St) :=
  xb (f_X7_requirePlayer N u x1) fun r1 u3 =>
  if x2 = (-1) then
    f_X7_give_B15 N x1 x2 u3
  else
    xb (f_X7_requirePan N u3 x2) fun r20 u22 =>
    f_X7_give_B15 N x1 x2 u22
set_option maxRecDepth 100000 in
set_option maxHeartbeats 4000000 in
theorem c_X7_give (l : Launch) (z : Zt) (ad : Ad) (N : Nt) (X : Gt) (u : St) (x1 : Int32) (x2 : Int32) {r9 : Int32} {u9 : St} (h : f_X7_give N u x1 x2 = some (.ok r9, u9)) : MC l z yX7_give cX7_give 6 (some .int) { frames := 2, cells := 0, slots := 0, locals := 43 } 0 0 [.ref (ad 0 0), .int x1, .int x2] ad (GC z ad N X u) (QI z ad (GC z ad N X u9) r9) := by
  refine Met.ofW (cc := cX7_give) (maxL := 6) (ret := (some .int)) (by decide) rfl ?_
  intro p e s m args below meth c s₁ B hml hv
  obtain ⟨rfl, hSW, hW⟩ := hv
  have hx := B.exec; have hb := B.bytes; have hr := B.returns; have hlocks := B.notSynchronized
  have hown : s.vm.findClass RX7 = some m.cls := findClass_of_methodNamed B.named
  obtain ⟨hT, hK, hST, hB0⟩ := id hSW
  have hS : va_S (zA z) s.heap s.heap [] := va_S.rf
  have hl := lv_entry ([.ref (ad 0 0), .int x1, .int x2]) (n := 6) (Nat.le_of_ble_eq_true rfl)
  rw [lg_entry_eq]
  generalize (lg_sl ([.ref (ad 0 0), .int x1, .int x2]) ++ List.replicate (6 - (lg_sl ([.ref (ad 0 0), .int x1, .int x2])).length) Slot.unset).toArray = ls at hl ⊢
  have hl : lv_has ls 6 [(0, .ref (ad 0 0)), (1, .int x1), (2, .int x2)] := hl
  let WW : Heap → List Loc → JFrame → Prop := fun H locs g => W p l e (headSpec [Cond.code yX7_give cX7_give 6 (some .int)] { frames := 2, cells := 0, slots := 0, locals := 43 }).room s m [.ref (ad 0 0), .int x1, .int x2].toArray below meth c H locs 0 0 (MQ below (QI z ad (GC z ad N X u9) r9) [.ref (ad 0 0), .int x1, .int x2].toArray s 0 0 (zA z)) g
  have hB15 : ∀ (y1 : Int32) (y2 : Int32) (u : St) (H : Heap) (locs : List Loc) (ls : Array Slot), lv_has ls 6 [(0, .ref (ad 0 0)), (1, .int y1), (2, .int y2)] → GW z ad (GC z ad N X u) H → va_S (zA z) s.heap H locs → f_X7_give_B15 N y1 y2 u = some (.ok r9, u9) → WW H locs (F0 m 15 ls []) := by
    intro y1 y2 u H locs ls hl hW hS h
    change W p l e _ s m _ below meth c H locs 0 0 _ (F0 m 15 ls [])
    unfold f_X7_give_B15 at h
    refine lv_aload_n hx hb dX7_give_15 rfl (lv_at hl 0 rfl) ?_
    refine nb_get hx hb hT hK hown hW fl_X7_23 kr_0 (v := .ref (ad 3 0)) rfl dX7_give_16 ?_
    refine lv_iload_n hx hb dX7_give_19 rfl (lv_at hl 1 rfl) ?_
    obtain ⟨g5, h⟩ := gd_s h
    obtain ⟨g6, h⟩ := gd_s h
    refine nb_aald hx hb hK hW 4 kr_3 rfl rfl (inb_in g5) (a := ad 15 (ix y1)) (qrow_at g6) dX7_give_20 ?_
    refine lv_astore_n (lv' := [(3, .ref (ad 15 (ix y1))), (0, .ref (ad 0 0)), (1, .int y1), (2, .int y2)]) hx hb dX7_give_21 rfl hl (by decide) rfl (fun ls hl => ?_)
    refine lv_iload_n hx hb dX7_give_22 rfl (lv_at hl 3 rfl) ?_
    refine lv_iconst (v := (-1)) hx hb dX7_give_23 (by decide) ?_
    refine lv_icmp_ne (tgt := 31) hx hb dX7_give_24 (by decide) (fun c7 => ?_) (fun c7 => ?_)
    · replace h := ite_f h c7
      refine lv_aload_n hx hb dX7_give_31 rfl (lv_at hl 1 rfl) ?_
      refine nb_get hx hb hT hK hown hW fl_X7_11 kr_0 (v := .ref (ad 1 0)) rfl dX7_give_32 ?_
      refine lv_iload_n hx hb dX7_give_35 rfl (lv_at hl 3 rfl) ?_
      obtain ⟨g8, h⟩ := gd_s h
      obtain ⟨g09, h⟩ := gd_s h
      refine nb_aald hx hb hK hW 2 kr_1 rfl rfl (inb_in g8) (a := ad 12 (ix y2)) (qrow_at g09) dX7_give_36 ?_
      refine lv_astore (lv' := [(4, .ref (ad 12 (ix y2))), (3, .ref (ad 15 (ix y1))), (0, .ref (ad 0 0)), (1, .int y1), (2, .int y2)]) hx hb dX7_give_37 hl (by decide) rfl (fun ls hl => ?_)
      refine lv_aload hx hb dX7_give_39 (lv_at hl 0 rfl) ?_
      refine lv_ifnull hx hb dX7_give_41 ?_
      refine lv_aload hx hb dX7_give_44 (lv_at hl 0 rfl) ?_
      refine nb_get hx hb hT hK hown hW fl_X7_187 (kr_12 (Or.inl g09)) (v := .int (u 11 (ix y2) 0)) rfl dX7_give_46 ?_
      refine lv_aload_n hx hb dX7_give_49 rfl (lv_at hl 1 rfl) ?_
      refine nb_get hx hb hT hK hown hW fl_X7_190 (kr_15 g6) (v := .int (u 30 (ix y1) 0)) rfl dX7_give_50 ?_
      refine lv_icmp_eq (tgt := 66) hx hb dX7_give_53 (by decide) (fun c10 => ?_) (fun c10 => ?_)
      · replace h := ite_t h c10
        refine lv_aload_n hx hb dX7_give_66 rfl (lv_at hl 1 rfl) ?_
        obtain ⟨r11, u13, h12, h⟩ := sb_s h
        refine nb_ci (nb_runV (As := []) (rest := []) hx hb hml hown hSW hS hW (c_X5_panNumber l z ad N X u (ix y1) g6 h12) mf_X5_panNumber lk_X7_195 (kr_15 g6) rfl rfl ⟨rfl, rfl⟩ ⟨Nat.le_of_ble_eq_true rfl, Nat.le_of_ble_eq_true rfl⟩ hl.1 (Nat.le_of_ble_eq_true rfl) dX7_give_67 ⟨Nat.le_of_ble_eq_true rfl, Nat.le_of_ble_eq_true rfl⟩) hS (fun H locs (hW : GW z ad (GC z ad N X u13) H) hS => ?_)
        refine lv_istore (lv' := [(5, .int r11), (4, .ref (ad 12 (ix y2))), (3, .ref (ad 15 (ix y1))), (0, .ref (ad 0 0)), (1, .int y1), (2, .int y2)]) hx hb dX7_give_70 hl (by decide) rfl (fun ls hl => ?_)
        refine lv_aload_n hx hb dX7_give_72 rfl (lv_at hl 2 rfl) ?_
        refine lv_aload hx hb dX7_give_73 (lv_at hl 1 rfl) ?_
        obtain ⟨g15, h⟩ := gd_s h
        obtain ⟨u14, eu14, h⟩ := nm_s h
        refine nb_put hx hb hT hK hown hW hS fl_X7_199 tyX5 tyX5_ok nmX5 (kr_15 g6) (v := .ref (ad 12 (ix y2))) rfl rfl rfl (Nat.le_of_ble_eq_true rfl) ((gp_33 (r := (some (ix y2))) g6 (fun q hq => by cases hq; exact g15)).trans (congrArg (GC z ad N X) eu14.symm)) dX7_give_75 (fun H locs hW hS => ?_)
        refine lv_iload hx hb dX7_give_78 (lv_at hl 0 rfl) ?_
        exact ne_iretX hx hb hr rfl hlocks hW hS dX7_give_80 h
      · replace h := ite_f h c10
        exact absurd h (by intro q; cases q)
    · replace h := ite_t h c7
      refine lv_null hx hb dX7_give_27 ?_
      refine lv_goto (tgt := 37) hx hb dX7_give_28 (by decide) ?_
      refine lv_astoreN (lv' := [(4, .null), (3, .ref (ad 15 (ix y1))), (0, .ref (ad 0 0)), (1, .int y1), (2, .int y2)]) hx hb dX7_give_37 hl (by decide) rfl (fun ls hl => ?_)
      refine lv_aloadN hx hb dX7_give_39 (lv_at hl 0 rfl) ?_
      refine lv_ifnullN (tgt := 66) hx hb dX7_give_41 (by decide) ?_
      refine lv_aload_n hx hb dX7_give_66 rfl (lv_at hl 1 rfl) ?_
      obtain ⟨r16, u18, h17, h⟩ := sb_s h
      refine nb_ci (nb_runV (As := []) (rest := []) hx hb hml hown hSW hS hW (c_X5_panNumber l z ad N X u (ix y1) g6 h17) mf_X5_panNumber lk_X7_195 (kr_15 g6) rfl rfl ⟨rfl, rfl⟩ ⟨Nat.le_of_ble_eq_true rfl, Nat.le_of_ble_eq_true rfl⟩ hl.1 (Nat.le_of_ble_eq_true rfl) dX7_give_67 ⟨Nat.le_of_ble_eq_true rfl, Nat.le_of_ble_eq_true rfl⟩) hS (fun H locs (hW : GW z ad (GC z ad N X u18) H) hS => ?_)
      refine lv_istore (lv' := [(5, .int r16), (4, .null), (3, .ref (ad 15 (ix y1))), (0, .ref (ad 0 0)), (1, .int y1), (2, .int y2)]) hx hb dX7_give_70 hl (by decide) rfl (fun ls hl => ?_)
      refine lv_aload_n hx hb dX7_give_72 rfl (lv_at hl 2 rfl) ?_
      refine lv_aloadN hx hb dX7_give_73 (lv_at hl 1 rfl) ?_
      obtain ⟨u19, eu19, h⟩ := nm_s h
      refine nb_put hx hb hT hK hown hW hS fl_X7_199 tyX5 tyX5_ok nmX5 (kr_15 g6) (v := .null) rfl rfl rfl (Nat.le_of_ble_eq_true rfl) ((gp_33 (r := none) g6 (fun q hq => by cases hq)).trans (congrArg (GC z ad N X) eu19.symm)) dX7_give_75 (fun H locs hW hS => ?_)
      refine lv_iload hx hb dX7_give_78 (lv_at hl 0 rfl) ?_
      exact ne_iretX hx hb hr rfl hlocks hW hS dX7_give_80 h
  unfold f_X7_give at h
  refine lv_aload_n hx hb dX7_give_0 rfl (lv_at hl 0 rfl) ?_
  refine lv_iload_n hx hb dX7_give_1 rfl (lv_at hl 1 rfl) ?_
  obtain ⟨r1, u3, h2, h⟩ := xb_s h
  refine nb_cv (nb_runV (As := [.int x1]) (rest := []) hx hb hml hown hSW hS hW (c_X7_requirePlayer l z ad N X u x1 h2) mf_X7_requirePlayer lk_X7_184 kr_0 rfl rfl ⟨rfl, rfl⟩ ⟨Nat.le_of_ble_eq_true rfl, Nat.le_of_ble_eq_true rfl⟩ hl.1 (Nat.le_of_ble_eq_true rfl) dX7_give_2 ⟨Nat.le_of_ble_eq_true rfl, Nat.le_of_ble_eq_true rfl⟩) hS (fun H locs (hW : GW z ad (GC z ad N X u3) H) hS => ?_)
  refine lv_iload_n hx hb dX7_give_5 rfl (lv_at hl 2 rfl) ?_
  refine lv_iconst (v := (-1)) hx hb dX7_give_6 (by decide) ?_
  refine lv_icmp_eq (tgt := 15) hx hb dX7_give_7 (by decide) (fun c4 => ?_) (fun c4 => ?_)
  · replace h := ite_t h c4
    exact hB15 _ _ _ _ _ _ (lv_sub hl [0, 1, 2] rfl) hW hS h
  · replace h := ite_f h c4
    refine lv_aload_n hx hb dX7_give_10 rfl (lv_at hl 0 rfl) ?_
    refine lv_iload_n hx hb dX7_give_11 rfl (lv_at hl 2 rfl) ?_
    obtain ⟨r20, u22, h21, h⟩ := xb_s h
    refine nb_cv (nb_runV (As := [.int x2]) (rest := []) hx hb hml hown hSW hS hW (c_X7_requirePan l z ad N X u3 x2 h21) mf_X7_requirePan lk_X7_90 kr_0 rfl rfl ⟨rfl, rfl⟩ ⟨Nat.le_of_ble_eq_true rfl, Nat.le_of_ble_eq_true rfl⟩ hl.1 (Nat.le_of_ble_eq_true rfl) dX7_give_12 ⟨Nat.le_of_ble_eq_true rfl, Nat.le_of_ble_eq_true rfl⟩) hS (fun H locs (hW : GW z ad (GC z ad N X u22) H) hS => ?_)
    exact hB15 _ _ _ _ _ _ (lv_sub hl [0, 1, 2] rfl) hW hS h
/-- Panyard.absent -/
def f_X7_absent (N : Nt) (u : St) (x1 : Int32) (x2 : Int32) : Option (Except String Int32 × St) :=
  xb (f_X7_requirePlayer N u x1) fun r1 u3 =>
  gd (inb x1 8) <|
  gd ((ix x1) < N 15) <|
  nm (u3 34 (ix x1) 0) fun v6 =>
  gd (x2 = 0 ∨ x2 = 1) <|
  nm (sset u3 34 (ix x1) 0 x2) fun u7 =>
  gd (v6 = 0 ∨ v6 = 1) <|
  some (.ok v6, u7)
set_option maxRecDepth 100000 in
set_option maxHeartbeats 4000000 in
theorem c_X7_absent (l : Launch) (z : Zt) (ad : Ad) (N : Nt) (X : Gt) (u : St) (x1 : Int32) (x2 : Int32) {r9 : Int32} {u9 : St} (h : f_X7_absent N u x1 x2 = some (.ok r9, u9)) : MC l z yX7_absent cX7_absent 4 (some .boolean) { frames := 2, cells := 0, slots := 0, locals := 43 } 0 0 [.ref (ad 0 0), .int x1, .int x2] ad (GC z ad N X u) (QI z ad (GC z ad N X u9) r9) := by
  refine Met.ofW (cc := cX7_absent) (maxL := 4) (ret := (some .boolean)) (by decide) rfl ?_
  intro p e s m args below meth c s₁ B hml hv
  obtain ⟨rfl, hSW, hW⟩ := hv
  have hx := B.exec; have hb := B.bytes; have hr := B.returns; have hlocks := B.notSynchronized
  have hown : s.vm.findClass RX7 = some m.cls := findClass_of_methodNamed B.named
  obtain ⟨hT, hK, hST, hB0⟩ := id hSW
  have hS : va_S (zA z) s.heap s.heap [] := va_S.rf
  have hl := lv_entry ([.ref (ad 0 0), .int x1, .int x2]) (n := 4) (Nat.le_of_ble_eq_true rfl)
  rw [lg_entry_eq]
  generalize (lg_sl ([.ref (ad 0 0), .int x1, .int x2]) ++ List.replicate (4 - (lg_sl ([.ref (ad 0 0), .int x1, .int x2])).length) Slot.unset).toArray = ls at hl ⊢
  have hl : lv_has ls 4 [(0, .ref (ad 0 0)), (1, .int x1), (2, .int x2)] := hl
  unfold f_X7_absent at h
  refine lv_aload_n hx hb dX7_absent_0 rfl (lv_at hl 0 rfl) ?_
  refine lv_iload_n hx hb dX7_absent_1 rfl (lv_at hl 1 rfl) ?_
  obtain ⟨r1, u3, h2, h⟩ := xb_s h
  refine nb_cv (nb_runV (As := [.int x1]) (rest := []) hx hb hml hown hSW hS hW (c_X7_requirePlayer l z ad N X u x1 h2) mf_X7_requirePlayer lk_X7_184 kr_0 rfl rfl ⟨rfl, rfl⟩ ⟨Nat.le_of_ble_eq_true rfl, Nat.le_of_ble_eq_true rfl⟩ hl.1 (Nat.le_of_ble_eq_true rfl) dX7_absent_2 ⟨Nat.le_of_ble_eq_true rfl, Nat.le_of_ble_eq_true rfl⟩) hS (fun H locs (hW : GW z ad (GC z ad N X u3) H) hS => ?_)
  refine lv_aload_n hx hb dX7_absent_5 rfl (lv_at hl 0 rfl) ?_
  refine nb_get hx hb hT hK hown hW fl_X7_23 kr_0 (v := .ref (ad 3 0)) rfl dX7_absent_6 ?_
  refine lv_iload_n hx hb dX7_absent_9 rfl (lv_at hl 1 rfl) ?_
  obtain ⟨g4, h⟩ := gd_s h
  obtain ⟨g5, h⟩ := gd_s h
  refine nb_aald hx hb hK hW 4 kr_3 rfl rfl (inb_in g4) (a := ad 15 (ix x1)) (qrow_at g5) dX7_absent_10 ?_
  refine nb_get hx hb hT hK hown hW fl_X7_202 (kr_15 g5) (v := .int (u3 34 (ix x1) 0)) rfl dX7_absent_11 ?_
  refine lv_topi (fun v6 ev6 => ?_)
  replace h := nm_at ev6 h
  refine lv_istore_n (lv' := [(3, .int v6), (0, .ref (ad 0 0)), (1, .int x1), (2, .int x2)]) hx hb dX7_absent_14 rfl hl (by decide) rfl (fun ls hl => ?_)
  refine lv_aload_n hx hb dX7_absent_15 rfl (lv_at hl 1 rfl) ?_
  refine nb_get hx hb hT hK hown hW fl_X7_23 kr_0 (v := .ref (ad 3 0)) rfl dX7_absent_16 ?_
  refine lv_iload_n hx hb dX7_absent_19 rfl (lv_at hl 2 rfl) ?_
  refine nb_aald hx hb hK hW 4 kr_3 rfl rfl (inb_in g4) (a := ad 15 (ix x1)) (qrow_at g5) dX7_absent_20 ?_
  refine lv_iload_n hx hb dX7_absent_21 rfl (lv_at hl 3 rfl) ?_
  obtain ⟨g8, h⟩ := gd_s h
  obtain ⟨u7, eu7, h⟩ := nm_s h
  refine nb_put hx hb hT hK hown hW hS fl_X7_202 tyX5 tyX5_ok nmX5 (kr_15 g5) (v := .int x2) rfl (nbool g8).1 (nbool g8).2 (Nat.le_of_ble_eq_true rfl) ((gp_34 g5).trans (congrArg (GC z ad N X) eu7.symm)) dX7_absent_22 (fun H locs hW hS => ?_)
  refine lv_iload_n hx hb dX7_absent_25 rfl (lv_at hl 0 rfl) ?_
  obtain ⟨g09, h⟩ := gd_s h
  exact ne_iretX hx hb hr (nbool g09).1 hlocks hW hS dX7_absent_26 h
/-- Panyard.requireLesson -/
def f_X7_requireLesson (N : Nt) (u : St) (x0 : Int32) : Option (Except String Unit × St) :=
  sb (f_X7_isWithin N u x0 1 60) fun r1 u3 =>
  if r1 = 0 then
    some (.error "java/lang/IllegalArgumentException", u3)
  else
    some (.ok (), u3)
set_option maxRecDepth 100000 in
set_option maxHeartbeats 4000000 in
theorem c_X7_requireLesson (l : Launch) (z : Zt) (ad : Ad) (N : Nt) (X : Gt) (u : St) (x0 : Int32) {r9 : Unit} {u9 : St} (h : f_X7_requireLesson N u x0 = some (.ok r9, u9)) : MC l z yX7_requireLesson cX7_requireLesson 1 none { frames := 1, cells := 0, slots := 0, locals := 22 } 0 0 [.int x0] ad (GC z ad N X u) (QV z ad (GC z ad N X u9)) := by
  refine Met.ofW (cc := cX7_requireLesson) (maxL := 1) (ret := none) (by decide) rfl ?_
  intro p e s m args below meth c s₁ B hml hv
  obtain ⟨rfl, hSW, hW⟩ := hv
  have hx := B.exec; have hb := B.bytes; have hr := B.returns; have hlocks := B.notSynchronized
  have hown : s.vm.findClass RX7 = some m.cls := findClass_of_methodNamed B.named
  obtain ⟨hT, hK, hST, hB0⟩ := id hSW
  have hS : va_S (zA z) s.heap s.heap [] := va_S.rf
  have hl := lv_entry ([.int x0]) (n := 1) (Nat.le_of_ble_eq_true rfl)
  rw [lg_entry_eq]
  generalize (lg_sl ([.int x0]) ++ List.replicate (1 - (lg_sl ([.int x0])).length) Slot.unset).toArray = ls at hl ⊢
  have hl : lv_has ls 1 [(0, .int x0)] := hl
  unfold f_X7_requireLesson at h
  refine lv_iload_n hx hb dX7_requireLesson_0 rfl (lv_at hl 0 rfl) ?_
  refine lv_iconst (v := 1) hx hb dX7_requireLesson_1 (by decide) ?_
  refine lv_bipush (v := 60) hx hb dX7_requireLesson_2 (by decide) ?_
  obtain ⟨r1, u3, h2, h⟩ := sb_s h
  refine nb_ci (nb_runS (As := [.int x0, .int 1, .int 60]) (rest := []) hx hb hml hown hSW hS hW (c_X7_isWithin l z ad N X u x0 1 60 h2) mf_X7_isWithin lk_X7_96 rfl ⟨rfl, rfl⟩ ⟨Nat.le_of_ble_eq_true rfl, Nat.le_of_ble_eq_true rfl⟩ hl.1 (Nat.le_of_ble_eq_true rfl) dX7_requireLesson_4 ⟨Nat.le_of_ble_eq_true rfl, Nat.le_of_ble_eq_true rfl⟩) hS (fun H locs (hW : GW z ad (GC z ad N X u3) H) hS => ?_)
  refine lv_if_ne (tgt := 21) hx hb dX7_requireLesson_7 (by decide) (fun c4 => ?_) (fun c4 => ?_)
  · replace h := ite_f h c4
    exact ne_vretX hx hb hr hlocks hW hS dX7_requireLesson_21 h
  · replace h := ite_t h c4
    exact absurd h (by intro q; cases q)
/-- Panyard$Minds.learn -/
def f_X2_learn (N : Nt) (u : St) (k0 : Nat) (x1 : Int32) (x2 : Int32) (x3 : Int32) (x4 : Int32) : Option (Unit × St) :=
  gd (inb x1 8) <|
  gd (inb x2 8) <|
  nm (mmin x4 ((u 40 (8 * k0 + (ix x1)) (ix x2)) + x3)) fun v3 =>
  nm (sset u 40 (8 * k0 + (ix x1)) (ix x2) v3) fun u4 =>
  nm (sset u4 41 k0 (ix x1) ((u4 41 k0 (ix x1)) ||| (1 <<< (x2 &&& 31)))) fun u5 =>
  some ((), u5)
set_option maxRecDepth 100000 in
set_option maxHeartbeats 4000000 in
theorem c_X2_learn (l : Launch) (z : Zt) (ad : Ad) (N : Nt) (X : Gt) (u : St) (k0 : Nat) (x1 : Int32) (x2 : Int32) (x3 : Int32) (x4 : Int32) (hk0 : k0 < 2) {r9 : Unit} {u9 : St} (h : f_X2_learn N u k0 x1 x2 x3 x4 = some (r9, u9)) : MC l z yX2_learn cX2_learn 5 none { frames := 1, cells := 0, slots := 0, locals := 21 } 0 0 [.ref (ad 10 k0), .int x1, .int x2, .int x3, .int x4] ad (GC z ad N X u) (QV z ad (GC z ad N X u9)) := by
  refine Met.ofW (cc := cX2_learn) (maxL := 5) (ret := none) (by decide) rfl ?_
  intro p e s m args below meth c s₁ B hml hv
  obtain ⟨rfl, hSW, hW⟩ := hv
  have hx := B.exec; have hb := B.bytes; have hr := B.returns; have hlocks := B.notSynchronized
  have hown : s.vm.findClass RX2 = some m.cls := findClass_of_methodNamed B.named
  obtain ⟨hT, hK, hST, hB0⟩ := id hSW
  have hS : va_S (zA z) s.heap s.heap [] := va_S.rf
  have hl := lv_entry ([.ref (ad 10 k0), .int x1, .int x2, .int x3, .int x4]) (n := 5) (Nat.le_of_ble_eq_true rfl)
  rw [lg_entry_eq]
  generalize (lg_sl ([.ref (ad 10 k0), .int x1, .int x2, .int x3, .int x4]) ++ List.replicate (5 - (lg_sl ([.ref (ad 10 k0), .int x1, .int x2, .int x3, .int x4])).length) Slot.unset).toArray = ls at hl ⊢
  have hl : lv_has ls 5 [(0, .ref (ad 10 k0)), (1, .int x1), (2, .int x2), (3, .int x3), (4, .int x4)] := hl
  unfold f_X2_learn at h
  refine lv_aload_n hx hb dX2_learn_0 rfl (lv_at hl 0 rfl) ?_
  refine nb_get hx hb hT hK hown hW fl_X2_11 (kr_10 hk0) (v := .ref (ad 11 k0)) rfl dX2_learn_1 ?_
  refine lv_iload_n hx hb dX2_learn_4 rfl (lv_at hl 1 rfl) ?_
  obtain ⟨g1, h⟩ := gd_s h
  refine nb_aald hx hb hK hW 1 (kr_11 hk0) rfl rfl (inb_in g1) (a := ad 20 (8 * k0 + (ix x1))) (qrow_at (inb_lt g1)) dX2_learn_5 ?_
  refine lv_iload_n hx hb dX2_learn_6 rfl (lv_at hl 2 rfl) ?_
  refine lv_iload hx hb dX2_learn_7 (lv_at hl 4 rfl) ?_
  refine lv_aload_n hx hb dX2_learn_9 rfl (lv_at hl 0 rfl) ?_
  refine nb_get hx hb hT hK hown hW fl_X2_11 (kr_10 hk0) (v := .ref (ad 11 k0)) rfl dX2_learn_10 ?_
  refine lv_iload_n hx hb dX2_learn_13 rfl (lv_at hl 1 rfl) ?_
  refine nb_aald hx hb hK hW 1 (kr_11 hk0) rfl rfl (inb_in g1) (a := ad 20 (8 * k0 + (ix x1))) (qrow_at (inb_lt g1)) dX2_learn_14 ?_
  refine lv_iload_n hx hb dX2_learn_15 rfl (lv_at hl 2 rfl) ?_
  obtain ⟨g2, h⟩ := gd_s h
  refine nb_iald hx hb hK hW 0 (kr_20 (row_lt hk0 (inb_lt g1))) rfl (inb_in g2) dX2_learn_16 ?_
  refine lv_iload_n hx hb dX2_learn_17 rfl (lv_at hl 3 rfl) ?_
  refine lv_iadd hx hb dX2_learn_18 ?_
  refine nb_mmin hx hb hml hl.1 hown hT lm_X2_26 mf_Math_min ⟨Nat.le_of_ble_eq_true rfl, Nat.le_of_ble_eq_true rfl⟩ ⟨Nat.le_of_ble_eq_true rfl, Nat.le_of_ble_eq_true rfl⟩ dX2_learn_19 ?_
  refine lv_topi (fun v3 ev3 => ?_)
  replace h := nm_at ev3 h
  obtain ⟨u4, eu4, h⟩ := nm_s h
  refine nb_iast hx hb hK hW hS 0 (kr_20 (row_lt hk0 (inb_lt g1))) rfl (inb_in g2) ((gp_40 (row_lt hk0 (inb_lt g1))).trans (congrArg (GC z ad N X) eu4.symm)) dX2_learn_22 (fun H locs hW hS => ?_)
  refine lv_aload_n hx hb dX2_learn_23 rfl (lv_at hl 0 rfl) ?_
  refine nb_get hx hb hT hK hown hW fl_X2_16 (kr_10 hk0) (v := .ref (ad 21 k0)) rfl dX2_learn_24 ?_
  refine lv_iload_n hx hb dX2_learn_27 rfl (lv_at hl 1 rfl) ?_
  refine lv_dup2_11 hx hb dX2_learn_28 rfl rfl ?_
  refine nb_iald hx hb hK hW 0 (kr_21 hk0) rfl (inb_in g1) dX2_learn_29 ?_
  refine lv_iconst (v := 1) hx hb dX2_learn_30 (by decide) ?_
  refine lv_iload_n hx hb dX2_learn_31 rfl (lv_at hl 2 rfl) ?_
  refine lv_ishl hx hb dX2_learn_32 ?_
  refine lv_ior hx hb dX2_learn_33 ?_
  obtain ⟨u5, eu5, h⟩ := nm_s h
  refine nb_iast hx hb hK hW hS 0 (kr_21 hk0) rfl (inb_in g1) ((gp_41 hk0).trans (congrArg (GC z ad N X) eu5.symm)) dX2_learn_34 (fun H locs hW hS => ?_)
  exact ne_vret hx hb hr hlocks hW hS dX2_learn_35 h
/-- Panyard.giveLesson -/
def f_X7_giveLesson (N : Nt) (u : St) (k1 : Nat) (x2 : Int32) (x3 : Int32) (x4 : Int32) : Option (Unit × St) :=
  gd (inb x2 8) <|
  gd ((ix x2) < N 15) <|
  gd (inb x3 8) <|
  gd ((ix x3) < N 14) <|
  gd (¬ (u 21 (ix x3) 0) = 0) <|
  sb (f_X5_mostMemory N u (ix x2) (ix x3)) fun r6 u8 =>
  sb (f_X2_learn N u8 k1 x2 x3 ((x4 * (u 31 (ix x2) 0)) / (u 21 (ix x3) 0)) r6) fun r09 u11 =>
  some ((), u11)
set_option maxRecDepth 100000 in
set_option maxHeartbeats 4000000 in
theorem c_X7_giveLesson (l : Launch) (z : Zt) (ad : Ad) (N : Nt) (X : Gt) (u : St) (k1 : Nat) (x2 : Int32) (x3 : Int32) (x4 : Int32) (hk1 : k1 < 2) {r9 : Unit} {u9 : St} (h : f_X7_giveLesson N u k1 x2 x3 x4 = some (r9, u9)) : MC l z yX7_giveLesson cX7_giveLesson 7 none { frames := 3, cells := 0, slots := 0, locals := 61 } 0 0 [.ref (ad 0 0), .ref (ad 10 k1), .int x2, .int x3, .int x4] ad (GC z ad N X u) (QV z ad (GC z ad N X u9)) := by
  refine Met.ofW (cc := cX7_giveLesson) (maxL := 7) (ret := none) (by decide) rfl ?_
  intro p e s m args below meth c s₁ B hml hv
  obtain ⟨rfl, hSW, hW⟩ := hv
  have hx := B.exec; have hb := B.bytes; have hr := B.returns; have hlocks := B.notSynchronized
  have hown : s.vm.findClass RX7 = some m.cls := findClass_of_methodNamed B.named
  obtain ⟨hT, hK, hST, hB0⟩ := id hSW
  have hS : va_S (zA z) s.heap s.heap [] := va_S.rf
  have hl := lv_entry ([.ref (ad 0 0), .ref (ad 10 k1), .int x2, .int x3, .int x4]) (n := 7) (Nat.le_of_ble_eq_true rfl)
  rw [lg_entry_eq]
  generalize (lg_sl ([.ref (ad 0 0), .ref (ad 10 k1), .int x2, .int x3, .int x4]) ++ List.replicate (7 - (lg_sl ([.ref (ad 0 0), .ref (ad 10 k1), .int x2, .int x3, .int x4])).length) Slot.unset).toArray = ls at hl ⊢
  have hl : lv_has ls 7 [(0, .ref (ad 0 0)), (1, .ref (ad 10 k1)), (2, .int x2), (3, .int x3), (4, .int x4)] := hl
  unfold f_X7_giveLesson at h
  refine lv_aload_n hx hb dX7_giveLesson_0 rfl (lv_at hl 0 rfl) ?_
  refine nb_get hx hb hT hK hown hW fl_X7_23 kr_0 (v := .ref (ad 3 0)) rfl dX7_giveLesson_1 ?_
  refine lv_iload_n hx hb dX7_giveLesson_4 rfl (lv_at hl 2 rfl) ?_
  obtain ⟨g1, h⟩ := gd_s h
  obtain ⟨g2, h⟩ := gd_s h
  refine nb_aald hx hb hK hW 4 kr_3 rfl rfl (inb_in g1) (a := ad 15 (ix x2)) (qrow_at g2) dX7_giveLesson_5 ?_
  refine lv_astore (lv' := [(5, .ref (ad 15 (ix x2))), (0, .ref (ad 0 0)), (1, .ref (ad 10 k1)), (2, .int x2), (3, .int x3), (4, .int x4)]) hx hb dX7_giveLesson_6 hl (by decide) rfl (fun ls hl => ?_)
  refine lv_aload_n hx hb dX7_giveLesson_8 rfl (lv_at hl 1 rfl) ?_
  refine nb_get hx hb hT hK hown hW fl_X7_17 kr_0 (v := .ref (ad 2 0)) rfl dX7_giveLesson_9 ?_
  refine lv_iload_n hx hb dX7_giveLesson_12 rfl (lv_at hl 4 rfl) ?_
  obtain ⟨g3, h⟩ := gd_s h
  obtain ⟨g4, h⟩ := gd_s h
  refine nb_aald hx hb hK hW 3 kr_2 rfl rfl (inb_in g3) (a := ad 14 (ix x3)) (qrow_at g4) dX7_giveLesson_13 ?_
  refine lv_astore (lv' := [(6, .ref (ad 14 (ix x3))), (5, .ref (ad 15 (ix x2))), (0, .ref (ad 0 0)), (1, .ref (ad 10 k1)), (2, .int x2), (3, .int x3), (4, .int x4)]) hx hb dX7_giveLesson_14 hl (by decide) rfl (fun ls hl => ?_)
  refine lv_aload_n hx hb dX7_giveLesson_16 rfl (lv_at hl 3 rfl) ?_
  refine lv_iload_n hx hb dX7_giveLesson_17 rfl (lv_at hl 4 rfl) ?_
  refine lv_iload_n hx hb dX7_giveLesson_18 rfl (lv_at hl 5 rfl) ?_
  refine lv_iload hx hb dX7_giveLesson_19 (lv_at hl 6 rfl) ?_
  refine lv_aload hx hb dX7_giveLesson_21 (lv_at hl 1 rfl) ?_
  refine nb_get hx hb hT hK hown hW fl_X7_335 (kr_15 g2) (v := .int (u 31 (ix x2) 0)) rfl dX7_giveLesson_23 ?_
  refine lv_imul hx hb dX7_giveLesson_26 ?_
  refine lv_aload hx hb dX7_giveLesson_27 (lv_at hl 0 rfl) ?_
  refine nb_get hx hb hT hK hown hW fl_X7_326 (kr_14 g4) (v := .int (u 21 (ix x3) 0)) rfl dX7_giveLesson_29 ?_
  obtain ⟨g5, h⟩ := gd_s h
  refine lv_idiv hx hb dX7_giveLesson_32 g5 ?_
  refine lv_aload hx hb dX7_giveLesson_33 (lv_at hl 1 rfl) ?_
  refine lv_aload hx hb dX7_giveLesson_35 (lv_at hl 0 rfl) ?_
  obtain ⟨r6, u8, h7, h⟩ := sb_s h
  refine nb_ci (nb_runV (As := [.ref (ad 14 (ix x3))]) (rest := [.int ((x4 * (u 31 (ix x2) 0)) / (u 21 (ix x3) 0)), .int x3, .int x2, .ref (ad 10 k1)]) hx hb hml hown hSW hS hW (c_X5_mostMemory l z ad N X u (ix x2) (ix x3) g2 g4 h7) mf_X5_mostMemory lk_X7_150 (kr_15 g2) rfl rfl ⟨rfl, rfl⟩ ⟨Nat.le_of_ble_eq_true rfl, Nat.le_of_ble_eq_true rfl⟩ hl.1 (Nat.le_of_ble_eq_true rfl) dX7_giveLesson_37 ⟨Nat.le_of_ble_eq_true rfl, Nat.le_of_ble_eq_true rfl⟩) hS (fun H locs (hW : GW z ad (GC z ad N X u8) H) hS => ?_)
  obtain ⟨r09, u11, h10, h⟩ := sb_s h
  refine nb_cv (nb_runV (As := [.int x2, .int x3, .int ((x4 * (u 31 (ix x2) 0)) / (u 21 (ix x3) 0)), .int r6]) (rest := []) hx hb hml hown hSW hS hW (c_X2_learn l z ad N X u8 k1 x2 x3 ((x4 * (u 31 (ix x2) 0)) / (u 21 (ix x3) 0)) r6 hk1 h10) mf_X2_learn lk_X7_488 (kr_10 hk1) rfl rfl ⟨rfl, rfl⟩ ⟨Nat.le_of_ble_eq_true rfl, Nat.le_of_ble_eq_true rfl⟩ hl.1 (Nat.le_of_ble_eq_true rfl) dX7_giveLesson_40 ⟨Nat.le_of_ble_eq_true rfl, Nat.le_of_ble_eq_true rfl⟩) hS (fun H locs (hW : GW z ad (GC z ad N X u11) H) hS => ?_)
  exact ne_vret hx hb hr hlocks hW hS dX7_giveLesson_43 h
/-- Panyard.teach -/
def f_X7_teach (N : Nt) (u : St) (x1 : Int32) (x2 : Int32) (x3 : Int32) : Option (Except String Int32 × St) :=
  xb (f_X7_requirePlayer N u x1) fun r1 u3 =>
  xb (f_X7_requirePhrase N u3 x2) fun r4 u6 =>
  xb (f_X7_requireLesson N u6 x3) fun r7 u09 =>
  gd (inb x1 8) <|
  gd ((ix x1) < N 15) <|
  gd (inb x2 8) <|
  gd ((ix x2) < N 14) <|
  if (u09 20 (ix x2) 0) = (u09 30 (ix x1) 0) then
    if (u09 34 (ix x1) 0) = 0 then
      gd (inb (u09 30 (ix x1) 0) 4) <|
      if ((u09 50 0 (ix (u09 30 (ix x1) 0))) + x3) ≤ 90 then
        nm (sset u09 50 0 (ix (u09 30 (ix x1) 0)) ((u09 50 0 (ix (u09 30 (ix x1) 0))) + x3)) fun u18 =>
        nm (sset u18 35 (ix x1) 0 ((u18 35 (ix x1) 0) + x3)) fun u19 =>
        sb (f_X7_giveLesson N u19 0 x1 x2 x3) fun r20 u22 =>
        some (.ok (u22 40 (8 * 0 + (ix x1)) (ix x2)), u22)
      else
        some (.error "java/lang/IllegalStateException", u09)
    else
      some (.error "java/lang/IllegalStateException", u09)
  else
    some (.error "java/lang/IllegalArgumentException", u09)
set_option maxRecDepth 100000 in
set_option maxHeartbeats 4000000 in
theorem c_X7_teach (l : Launch) (z : Zt) (ad : Ad) (N : Nt) (X : Gt) (u : St) (x1 : Int32) (x2 : Int32) (x3 : Int32) {r9 : Int32} {u9 : St} (h : f_X7_teach N u x1 x2 x3 = some (.ok r9, u9)) : MC l z yX7_teach cX7_teach 5 (some .int) { frames := 4, cells := 0, slots := 0, locals := 87 } 0 0 [.ref (ad 0 0), .int x1, .int x2, .int x3] ad (GC z ad N X u) (QI z ad (GC z ad N X u9) r9) := by
  refine Met.ofW (cc := cX7_teach) (maxL := 5) (ret := (some .int)) (by decide) rfl ?_
  intro p e s m args below meth c s₁ B hml hv
  obtain ⟨rfl, hSW, hW⟩ := hv
  have hx := B.exec; have hb := B.bytes; have hr := B.returns; have hlocks := B.notSynchronized
  have hown : s.vm.findClass RX7 = some m.cls := findClass_of_methodNamed B.named
  obtain ⟨hT, hK, hST, hB0⟩ := id hSW
  have hS : va_S (zA z) s.heap s.heap [] := va_S.rf
  have hl := lv_entry ([.ref (ad 0 0), .int x1, .int x2, .int x3]) (n := 5) (Nat.le_of_ble_eq_true rfl)
  rw [lg_entry_eq]
  generalize (lg_sl ([.ref (ad 0 0), .int x1, .int x2, .int x3]) ++ List.replicate (5 - (lg_sl ([.ref (ad 0 0), .int x1, .int x2, .int x3])).length) Slot.unset).toArray = ls at hl ⊢
  have hl : lv_has ls 5 [(0, .ref (ad 0 0)), (1, .int x1), (2, .int x2), (3, .int x3)] := hl
  unfold f_X7_teach at h
  refine lv_aload_n hx hb dX7_teach_0 rfl (lv_at hl 0 rfl) ?_
  refine lv_iload_n hx hb dX7_teach_1 rfl (lv_at hl 1 rfl) ?_
  obtain ⟨r1, u3, h2, h⟩ := xb_s h
  refine nb_cv (nb_runV (As := [.int x1]) (rest := []) hx hb hml hown hSW hS hW (c_X7_requirePlayer l z ad N X u x1 h2) mf_X7_requirePlayer lk_X7_184 kr_0 rfl rfl ⟨rfl, rfl⟩ ⟨Nat.le_of_ble_eq_true rfl, Nat.le_of_ble_eq_true rfl⟩ hl.1 (Nat.le_of_ble_eq_true rfl) dX7_teach_2 ⟨Nat.le_of_ble_eq_true rfl, Nat.le_of_ble_eq_true rfl⟩) hS (fun H locs (hW : GW z ad (GC z ad N X u3) H) hS => ?_)
  refine lv_aload_n hx hb dX7_teach_5 rfl (lv_at hl 0 rfl) ?_
  refine lv_iload_n hx hb dX7_teach_6 rfl (lv_at hl 2 rfl) ?_
  obtain ⟨r4, u6, h5, h⟩ := xb_s h
  refine nb_cv (nb_runV (As := [.int x2]) (rest := []) hx hb hml hown hSW hS hW (c_X7_requirePhrase l z ad N X u3 x2 h5) mf_X7_requirePhrase lk_X7_141 kr_0 rfl rfl ⟨rfl, rfl⟩ ⟨Nat.le_of_ble_eq_true rfl, Nat.le_of_ble_eq_true rfl⟩ hl.1 (Nat.le_of_ble_eq_true rfl) dX7_teach_7 ⟨Nat.le_of_ble_eq_true rfl, Nat.le_of_ble_eq_true rfl⟩) hS (fun H locs (hW : GW z ad (GC z ad N X u6) H) hS => ?_)
  refine lv_iload_n hx hb dX7_teach_10 rfl (lv_at hl 3 rfl) ?_
  obtain ⟨r7, u09, h8, h⟩ := xb_s h
  refine nb_cv (nb_runS (As := [.int x3]) (rest := []) hx hb hml hown hSW hS hW (c_X7_requireLesson l z ad N X u6 x3 h8) mf_X7_requireLesson lk_X7_205 rfl ⟨rfl, rfl⟩ ⟨Nat.le_of_ble_eq_true rfl, Nat.le_of_ble_eq_true rfl⟩ hl.1 (Nat.le_of_ble_eq_true rfl) dX7_teach_11 ⟨Nat.le_of_ble_eq_true rfl, Nat.le_of_ble_eq_true rfl⟩) hS (fun H locs (hW : GW z ad (GC z ad N X u09) H) hS => ?_)
  refine lv_aload_n hx hb dX7_teach_14 rfl (lv_at hl 0 rfl) ?_
  refine nb_get hx hb hT hK hown hW fl_X7_23 kr_0 (v := .ref (ad 3 0)) rfl dX7_teach_15 ?_
  refine lv_iload_n hx hb dX7_teach_18 rfl (lv_at hl 1 rfl) ?_
  obtain ⟨g10, h⟩ := gd_s h
  obtain ⟨g11, h⟩ := gd_s h
  refine nb_aald hx hb hK hW 4 kr_3 rfl rfl (inb_in g10) (a := ad 15 (ix x1)) (qrow_at g11) dX7_teach_19 ?_
  refine lv_astore (lv' := [(4, .ref (ad 15 (ix x1))), (0, .ref (ad 0 0)), (1, .int x1), (2, .int x2), (3, .int x3)]) hx hb dX7_teach_20 hl (by decide) rfl (fun ls hl => ?_)
  refine lv_aload_n hx hb dX7_teach_22 rfl (lv_at hl 1 rfl) ?_
  refine nb_get hx hb hT hK hown hW fl_X7_17 kr_0 (v := .ref (ad 2 0)) rfl dX7_teach_23 ?_
  refine lv_iload_n hx hb dX7_teach_26 rfl (lv_at hl 3 rfl) ?_
  obtain ⟨g12, h⟩ := gd_s h
  obtain ⟨g13, h⟩ := gd_s h
  refine nb_aald hx hb hK hW 3 kr_2 rfl rfl (inb_in g12) (a := ad 14 (ix x2)) (qrow_at g13) dX7_teach_27 ?_
  refine nb_get hx hb hT hK hown hW fl_X7_208 (kr_14 g13) (v := .int (u09 20 (ix x2) 0)) rfl dX7_teach_28 ?_
  refine lv_aload hx hb dX7_teach_31 (lv_at hl 0 rfl) ?_
  refine nb_get hx hb hT hK hown hW fl_X7_190 (kr_15 g11) (v := .int (u09 30 (ix x1) 0)) rfl dX7_teach_33 ?_
  refine lv_icmp_eq (tgt := 49) hx hb dX7_teach_36 (by decide) (fun c14 => ?_) (fun c14 => ?_)
  · replace h := ite_t h c14
    refine lv_aload hx hb dX7_teach_49 (lv_at hl 0 rfl) ?_
    refine nb_get hx hb hT hK hown hW fl_X7_202 (kr_15 g11) (v := .int (u09 34 (ix x1) 0)) rfl dX7_teach_51 ?_
    refine lv_if_eq (tgt := 67) hx hb dX7_teach_54 (by decide) (fun c15 => ?_) (fun c15 => ?_)
    · replace h := ite_t h c15
      refine lv_aload_n hx hb dX7_teach_67 rfl (lv_at hl 1 rfl) ?_
      refine nb_get hx hb hT hK hown hW fl_X7_44 kr_0 (v := .ref (ad 5 0)) rfl dX7_teach_68 ?_
      refine nb_get hx hb hT hK hown hW fl_X7_213 kr_5 (v := .ref (ad 7 0)) rfl dX7_teach_71 ?_
      refine lv_aload hx hb dX7_teach_74 (lv_at hl 0 rfl) ?_
      refine nb_get hx hb hT hK hown hW fl_X7_190 (kr_15 g11) (v := .int (u09 30 (ix x1) 0)) rfl dX7_teach_76 ?_
      obtain ⟨g16, h⟩ := gd_s h
      refine nb_iald hx hb hK hW 0 kr_7 rfl (inb_in g16) dX7_teach_79 ?_
      refine lv_iload_n hx hb dX7_teach_80 rfl (lv_at hl 4 rfl) ?_
      refine lv_iadd hx hb dX7_teach_81 ?_
      refine lv_bipush (v := 90) hx hb dX7_teach_82 (by decide) ?_
      refine lv_icmp_le (tgt := 97) hx hb dX7_teach_84 (by decide) (fun c17 => ?_) (fun c17 => ?_)
      · replace h := ite_t h c17
        refine lv_aload_n hx hb dX7_teach_97 rfl (lv_at hl 1 rfl) ?_
        refine nb_get hx hb hT hK hown hW fl_X7_44 kr_0 (v := .ref (ad 5 0)) rfl dX7_teach_98 ?_
        refine nb_get hx hb hT hK hown hW fl_X7_213 kr_5 (v := .ref (ad 7 0)) rfl dX7_teach_101 ?_
        refine lv_aload hx hb dX7_teach_104 (lv_at hl 0 rfl) ?_
        refine nb_get hx hb hT hK hown hW fl_X7_190 (kr_15 g11) (v := .int (u09 30 (ix x1) 0)) rfl dX7_teach_106 ?_
        refine lv_dup2_11 hx hb dX7_teach_109 rfl rfl ?_
        refine nb_iald hx hb hK hW 0 kr_7 rfl (inb_in g16) dX7_teach_110 ?_
        refine lv_iload_n hx hb dX7_teach_111 rfl (lv_at hl 4 rfl) ?_
        refine lv_iadd hx hb dX7_teach_112 ?_
        obtain ⟨u18, eu18, h⟩ := nm_s h
        refine nb_iast hx hb hK hW hS 0 kr_7 rfl (inb_in g16) ((gp_50).trans (congrArg (GC z ad N X) eu18.symm)) dX7_teach_113 (fun H locs hW hS => ?_)
        refine lv_aload hx hb dX7_teach_114 (lv_at hl 0 rfl) ?_
        refine lv_dup hx hb dX7_teach_116 rfl ?_
        refine nb_get hx hb hT hK hown hW fl_X7_218 (kr_15 g11) (v := .int (u18 35 (ix x1) 0)) rfl dX7_teach_117 ?_
        refine lv_iload_n hx hb dX7_teach_120 rfl (lv_at hl 4 rfl) ?_
        refine lv_iadd hx hb dX7_teach_121 ?_
        obtain ⟨u19, eu19, h⟩ := nm_s h
        refine nb_put hx hb hT hK hown hW hS fl_X7_218 tyX5 tyX5_ok nmX5 (kr_15 g11) (v := .int ((u18 35 (ix x1) 0) + x3)) rfl rfl rfl (Nat.le_of_ble_eq_true rfl) ((gp_35 g11).trans (congrArg (GC z ad N X) eu19.symm)) dX7_teach_122 (fun H locs hW hS => ?_)
        refine lv_aload_n hx hb dX7_teach_125 rfl (lv_at hl 1 rfl) ?_
        refine lv_aload_n hx hb dX7_teach_126 rfl (lv_at hl 1 rfl) ?_
        refine nb_get hx hb hT hK hown hW fl_X7_37 kr_0 (v := .ref (ad 10 0)) rfl dX7_teach_127 ?_
        refine lv_iload_n hx hb dX7_teach_130 rfl (lv_at hl 2 rfl) ?_
        refine lv_iload_n hx hb dX7_teach_131 rfl (lv_at hl 3 rfl) ?_
        refine lv_iload_n hx hb dX7_teach_132 rfl (lv_at hl 4 rfl) ?_
        obtain ⟨r20, u22, h21, h⟩ := sb_s h
        refine nb_cv (nb_runV (As := [.ref (ad 10 0), .int x1, .int x2, .int x3]) (rest := []) hx hb hml hown hSW hS hW (c_X7_giveLesson l z ad N X u19 0 x1 x2 x3 (by decide) h21) mf_X7_giveLesson lk_X7_221 kr_0 rfl rfl ⟨rfl, rfl⟩ ⟨Nat.le_of_ble_eq_true rfl, Nat.le_of_ble_eq_true rfl⟩ hl.1 (Nat.le_of_ble_eq_true rfl) dX7_teach_133 ⟨Nat.le_of_ble_eq_true rfl, Nat.le_of_ble_eq_true rfl⟩) hS (fun H locs (hW : GW z ad (GC z ad N X u22) H) hS => ?_)
        refine lv_aload_n hx hb dX7_teach_136 rfl (lv_at hl 1 rfl) ?_
        refine nb_get hx hb hT hK hown hW fl_X7_37 kr_0 (v := .ref (ad 10 0)) rfl dX7_teach_137 ?_
        refine nb_get hx hb hT hK hown hW fl_X7_225 (kr_10 (by decide)) (v := .ref (ad 11 0)) rfl dX7_teach_140 ?_
        refine lv_iload_n hx hb dX7_teach_143 rfl (lv_at hl 2 rfl) ?_
        refine nb_aald hx hb hK hW 1 (kr_11 (by decide)) rfl rfl (inb_in g10) (a := ad 20 (8 * 0 + (ix x1))) (qrow_at (inb_lt g10)) dX7_teach_144 ?_
        refine lv_iload_n hx hb dX7_teach_145 rfl (lv_at hl 3 rfl) ?_
        refine nb_iald hx hb hK hW 0 (kr_20 (row_lt (by decide) (inb_lt g10))) rfl (inb_in g12) dX7_teach_146 ?_
        exact ne_iretX hx hb hr rfl hlocks hW hS dX7_teach_147 h
      · replace h := ite_f h c17
        exact absurd h (by intro q; cases q)
    · replace h := ite_f h c15
      exact absurd h (by intro q; cases q)
  · replace h := ite_f h c14
    exact absurd h (by intro q; cases q)
/-- Panyard$Player.soundingPan -/
def f_X5_soundingPan (N : Nt) (u : St) (k0 : Nat) : Option ((Option Nat) × St) :=
  if (u 34 k0 0) = 0 then
    oc (ppan N u k0)
      (
        some (none, u)
      )
      fun q2 =>
      sb (f_X3_isCracked N u q2) fun r4 u6 =>
      if r4 = 0 then
        oc (ppan N u6 k0)
          (
            some (none, u6)
          )
          fun q8 =>
          some ((some q8), u6)
      else
        some (none, u6)
  else
    some (none, u)
set_option maxRecDepth 100000 in
set_option maxHeartbeats 4000000 in
theorem c_X5_soundingPan (l : Launch) (z : Zt) (ad : Ad) (N : Nt) (X : Gt) (u : St) (k0 : Nat) (hk0 : k0 < N 15) {r9 : (Option Nat)} {u9 : St} (h : f_X5_soundingPan N u k0 = some (r9, u9)) : MC l z yX5_soundingPan cX5_soundingPan 1 (some (.object "Panyard$Pan")) { frames := 1, cells := 0, slots := 0, locals := 20 } 0 0 [.ref (ad 15 k0)] ad (GC z ad N X u) (QQ z ad (GC z ad N X u9) (r9.map (ad 12))) := by
  refine Met.ofW (cc := cX5_soundingPan) (maxL := 1) (ret := (some (.object "Panyard$Pan"))) (by decide) rfl ?_
  intro p e s m args below meth c s₁ B hml hv
  obtain ⟨rfl, hSW, hW⟩ := hv
  have hx := B.exec; have hb := B.bytes; have hr := B.returns; have hlocks := B.notSynchronized
  have hown : s.vm.findClass RX5 = some m.cls := findClass_of_methodNamed B.named
  obtain ⟨hT, hK, hST, hB0⟩ := id hSW
  have hS : va_S (zA z) s.heap s.heap [] := va_S.rf
  have hl := lv_entry ([.ref (ad 15 k0)]) (n := 1) (Nat.le_of_ble_eq_true rfl)
  rw [lg_entry_eq]
  generalize (lg_sl ([.ref (ad 15 k0)]) ++ List.replicate (1 - (lg_sl ([.ref (ad 15 k0)])).length) Slot.unset).toArray = ls at hl ⊢
  have hl : lv_has ls 1 [(0, .ref (ad 15 k0))] := hl
  unfold f_X5_soundingPan at h
  refine lv_aload_n hx hb dX5_soundingPan_0 rfl (lv_at hl 0 rfl) ?_
  refine nb_get hx hb hT hK hown hW fl_X5_30 (kr_15 hk0) (v := .int (u 34 k0 0)) rfl dX5_soundingPan_1 ?_
  refine lv_if_ne (tgt := 24) hx hb dX5_soundingPan_4 (by decide) (fun c1 => ?_) (fun c1 => ?_)
  · replace h := ite_f h c1
    refine lv_null hx hb dX5_soundingPan_24 ?_
    refine lv_goto (tgt := 32) hx hb dX5_soundingPan_25 (by decide) ?_
    exact ne_aret (o := none) hx hb hr (Or.inl ⟨_, rfl⟩) hlocks hW hS dX5_soundingPan_32 h
  · replace h := ite_t h c1
    refine lv_aload_n hx hb dX5_soundingPan_7 rfl (lv_at hl 0 rfl) ?_
    refine nb_get hx hb hT hK hown hW fl_X5_21 (kr_15 hk0) (v := va_rf ((ppan N u k0).map (ad 12))) rfl dX5_soundingPan_8 ?_
    refine nb_oc (fun o3 => ?_) (fun q2 o3 => ?_)
    · replace h := oc_n o3 h
      refine lv_ifnullN (tgt := 24) hx hb dX5_soundingPan_11 (by decide) ?_
      refine lv_null hx hb dX5_soundingPan_24 ?_
      refine lv_goto (tgt := 32) hx hb dX5_soundingPan_25 (by decide) ?_
      exact ne_aret (o := none) hx hb hr (Or.inl ⟨_, rfl⟩) hlocks hW hS dX5_soundingPan_32 h
    · replace h := oc_q o3 h
      refine lv_ifnull hx hb dX5_soundingPan_11 ?_
      refine lv_aload_n hx hb dX5_soundingPan_14 rfl (lv_at hl 0 rfl) ?_
      refine nb_get hx hb hT hK hown hW fl_X5_21 (kr_15 hk0) (v := va_rf ((ppan N u k0).map (ad 12))) rfl dX5_soundingPan_15 ?_
      refine nb_ocq o3 ?_
      obtain ⟨r4, u6, h5, h⟩ := sb_s h
      refine nb_ci (nb_runV (As := []) (rest := []) hx hb hml hown hSW hS hW (c_X3_isCracked l z ad N X u q2 (Or.inl (ppan_lt o3)) h5) mf_X3_isCracked lk_X5_34 (kr_12 (Or.inl (ppan_lt o3))) rfl rfl ⟨rfl, rfl⟩ ⟨Nat.le_of_ble_eq_true rfl, Nat.le_of_ble_eq_true rfl⟩ hl.1 (Nat.le_of_ble_eq_true rfl) dX5_soundingPan_18 ⟨Nat.le_of_ble_eq_true rfl, Nat.le_of_ble_eq_true rfl⟩) hS (fun H locs (hW : GW z ad (GC z ad N X u6) H) hS => ?_)
      refine lv_if_eq (tgt := 28) hx hb dX5_soundingPan_21 (by decide) (fun c7 => ?_) (fun c7 => ?_)
      · replace h := ite_t h c7
        refine lv_aload_n hx hb dX5_soundingPan_28 rfl (lv_at hl 0 rfl) ?_
        refine nb_get hx hb hT hK hown hW fl_X5_21 (kr_15 hk0) (v := va_rf ((ppan N u6 k0).map (ad 12))) rfl dX5_soundingPan_29 ?_
        refine nb_oc (fun o09 => ?_) (fun q8 o09 => ?_)
        · replace h := oc_n o09 h
          exact ne_aret (o := none) hx hb hr (Or.inl ⟨_, rfl⟩) hlocks hW hS dX5_soundingPan_32 h
        · replace h := oc_q o09 h
          exact ne_aret (o := (some q8)) hx hb hr (Or.inl ⟨_, rfl⟩) hlocks hW hS dX5_soundingPan_32 h
      · replace h := ite_f h c7
        refine lv_null hx hb dX5_soundingPan_24 ?_
        refine lv_goto (tgt := 32) hx hb dX5_soundingPan_25 (by decide) ?_
        exact ne_aret (o := none) hx hb hr (Or.inl ⟨_, rfl⟩) hlocks hW hS dX5_soundingPan_32 h
/-- Panyard$Pan.wear -/
def f_X3_wear_B32 (N : Nt) (k0 : Nat) (ih2 : Int32 → Int32 → Int32 → St → Option (Unit × St)) (y3 : Int32) (y1 : Int32) (y2 : Int32) (w0 : Int32) (w1 : Int32) (u : St) : Option (Unit × St) :=
  sb (f_X3_shift N u k0 w1 w0) fun r6 u8 =>
  nm (y3 + 1) fun v09 =>
  ih2 v09 y1 y2 u8
def f_X3_wear_L2b (N : Nt) (k0 : Nat) (ih2 : Int32 → Int32 → Int32 → St → Option (Unit × St)) (y3 : Int32) (y1 : Int32) (y2 : Int32) (u : St) : Option (Unit × St) :=
  if 8 ≤ y3 then
    some ((), u)
  else
    if ((y1 >>> (y3 &&& 31)) &&& 1) = 1 then
      nm (irem (y3 + y2) 2) fun v4 =>
      if v4 = 0 then
        f_X3_wear_B32 N k0 ih2 y3 y1 y2 1 y3 u
      else
        f_X3_wear_B32 N k0 ih2 y3 y1 y2 (-1) y3 u
    else
      nm (y3 + 1) fun v3 =>
      ih2 v3 y1 y2 u
def f_X3_wear_L2 (N : Nt) (k0 : Nat) : Nat → Int32 → Int32 → Int32 → St → Option (Unit × St) := lp (fun _ _ _ _ => none) (f_X3_wear_L2b N k0)
def f_X3_wear (N : Nt) (u : St) (k0 : Nat) (x1 : Int32) (x2 : Int32) : Option (Unit × St) :=
  f_X3_wear_L2 N k0 1000000 0 x1 x2 u
set_option maxRecDepth 100000 in
set_option maxHeartbeats 4000000 in
theorem c_X3_wear (l : Launch) (z : Zt) (ad : Ad) (N : Nt) (X : Gt) (u : St) (k0 : Nat) (x1 : Int32) (x2 : Int32) (hk0 : vPan N k0) {r9 : Unit} {u9 : St} (h : f_X3_wear N u k0 x1 x2 = some (r9, u9)) : MC l z yX3_wear cX3_wear 4 none { frames := 2, cells := 0, slots := 0, locals := 44 } 0 0 [.ref (ad 12 k0), .int x1, .int x2] ad (GC z ad N X u) (QV z ad (GC z ad N X u9)) := by
  refine Met.ofW (cc := cX3_wear) (maxL := 4) (ret := none) (by decide) rfl ?_
  intro p e s m args below meth c s₁ B hml hv
  obtain ⟨rfl, hSW, hW⟩ := hv
  have hx := B.exec; have hb := B.bytes; have hr := B.returns; have hlocks := B.notSynchronized
  have hown : s.vm.findClass RX3 = some m.cls := findClass_of_methodNamed B.named
  obtain ⟨hT, hK, hST, hB0⟩ := id hSW
  have hS : va_S (zA z) s.heap s.heap [] := va_S.rf
  have hl := lv_entry ([.ref (ad 12 k0), .int x1, .int x2]) (n := 4) (Nat.le_of_ble_eq_true rfl)
  rw [lg_entry_eq]
  generalize (lg_sl ([.ref (ad 12 k0), .int x1, .int x2]) ++ List.replicate (4 - (lg_sl ([.ref (ad 12 k0), .int x1, .int x2])).length) Slot.unset).toArray = ls at hl ⊢
  have hl : lv_has ls 4 [(0, .ref (ad 12 k0)), (1, .int x1), (2, .int x2)] := hl
  let WW : Heap → List Loc → JFrame → Prop := fun H locs g => W p l e (headSpec [Cond.code yX3_wear cX3_wear 4 none] { frames := 2, cells := 0, slots := 0, locals := 44 }).room s m [.ref (ad 12 k0), .int x1, .int x2].toArray below meth c H locs 0 0 (MQ below (QV z ad (GC z ad N X u9)) [.ref (ad 12 k0), .int x1, .int x2].toArray s 0 0 (zA z)) g
  have hB32 : ∀ (ih2 : Int32 → Int32 → Int32 → St → Option (Unit × St)) (hih2 : ∀ (y3 : Int32) (y1 : Int32) (y2 : Int32) (u : St) (H : Heap) (locs : List Loc) (ls : Array Slot), lv_has ls 4 [(3, .int y3), (0, .ref (ad 12 k0)), (1, .int y1), (2, .int y2)] → GW z ad (GC z ad N X u) H → va_S (zA z) s.heap H locs → ih2 y3 y1 y2 u = some (r9, u9) → WW H locs (F0 m 2 ls [])), ∀ (y3 : Int32) (y1 : Int32) (y2 : Int32) (w0 : Int32) (w1 : Int32) (u : St) (H : Heap) (locs : List Loc) (ls : Array Slot), lv_has ls 4 [(3, .int y3), (0, .ref (ad 12 k0)), (1, .int y1), (2, .int y2)] → GW z ad (GC z ad N X u) H → va_S (zA z) s.heap H locs → f_X3_wear_B32 N k0 ih2 y3 y1 y2 w0 w1 u = some (r9, u9) → WW H locs (F0 m 32 ls [.int w0, .int w1, .ref (ad 12 k0)]) := by
    intro ih2 hih2 y3 y1 y2 w0 w1 u H locs ls hl hW hS h
    change W p l e _ s m _ below meth c H locs 0 0 _ (F0 m 32 ls [.int w0, .int w1, .ref (ad 12 k0)])
    unfold f_X3_wear_B32 at h
    obtain ⟨r6, u8, h7, h⟩ := sb_s h
    refine nb_cv (nb_runV (As := [.int w1, .int w0]) (rest := []) hx hb hml hown hSW hS hW (c_X3_shift l z ad N X u k0 w1 w0 hk0 h7) mf_X3_shift lk_X3_57 (kr_12 hk0) rfl rfl ⟨rfl, rfl⟩ ⟨Nat.le_of_ble_eq_true rfl, Nat.le_of_ble_eq_true rfl⟩ hl.1 (Nat.le_of_ble_eq_true rfl) dX3_wear_32 ⟨Nat.le_of_ble_eq_true rfl, Nat.le_of_ble_eq_true rfl⟩) hS (fun H locs (hW : GW z ad (GC z ad N X u8) H) hS => ?_)
    obtain ⟨v09, ev09, h⟩ := nm_s h
    refine lv_iinc (v := v09) (lv' := [(3, .int v09), (0, .ref (ad 12 k0)), (1, .int y1), (2, .int y2)]) hx hb dX3_wear_35 hl (k := 0) rfl (by rw [ev09]; rfl) (by decide) rfl (fun ls hl => ?_)
    refine lv_goto (tgt := 2) hx hb dX3_wear_38 (by decide) ?_
    exact hih2 _ _ _ _ _ _ _ (lv_sub hl [0, 1, 2, 3] rfl) hW hS h
  have hL2b : ∀ (ih2 : Int32 → Int32 → Int32 → St → Option (Unit × St)) (hih2 : ∀ (y3 : Int32) (y1 : Int32) (y2 : Int32) (u : St) (H : Heap) (locs : List Loc) (ls : Array Slot), lv_has ls 4 [(3, .int y3), (0, .ref (ad 12 k0)), (1, .int y1), (2, .int y2)] → GW z ad (GC z ad N X u) H → va_S (zA z) s.heap H locs → ih2 y3 y1 y2 u = some (r9, u9) → WW H locs (F0 m 2 ls [])), ∀ (y3 : Int32) (y1 : Int32) (y2 : Int32) (u : St) (H : Heap) (locs : List Loc) (ls : Array Slot), lv_has ls 4 [(3, .int y3), (0, .ref (ad 12 k0)), (1, .int y1), (2, .int y2)] → GW z ad (GC z ad N X u) H → va_S (zA z) s.heap H locs → f_X3_wear_L2b N k0 ih2 y3 y1 y2 u = some (r9, u9) → WW H locs (F0 m 2 ls []) := by
    intro ih2 hih2 y3 y1 y2 u H locs ls hl hW hS h
    change W p l e _ s m _ below meth c H locs 0 0 _ (F0 m 2 ls [])
    unfold f_X3_wear_L2b at h
    refine lv_iload_n hx hb dX3_wear_2 rfl (lv_at hl 0 rfl) ?_
    refine lv_bipush (v := 8) hx hb dX3_wear_3 (by decide) ?_
    refine lv_icmp_ge (tgt := 41) hx hb dX3_wear_5 (by decide) (fun c1 => ?_) (fun c1 => ?_)
    · replace h := ite_t h c1
      exact ne_vret hx hb hr hlocks hW hS dX3_wear_41 h
    · replace h := ite_f h c1
      refine lv_iload_n hx hb dX3_wear_8 rfl (lv_at hl 2 rfl) ?_
      refine lv_iload_n hx hb dX3_wear_9 rfl (lv_at hl 0 rfl) ?_
      refine lv_ishr hx hb dX3_wear_10 ?_
      refine lv_iconst (v := 1) hx hb dX3_wear_11 (by decide) ?_
      refine lv_iand hx hb dX3_wear_12 ?_
      refine lv_iconst (v := 1) hx hb dX3_wear_13 (by decide) ?_
      refine lv_icmp_ne (tgt := 35) hx hb dX3_wear_14 (by decide) (fun c2 => ?_) (fun c2 => ?_)
      · replace h := ite_f h c2
        obtain ⟨v3, ev3, h⟩ := nm_s h
        refine lv_iinc (v := v3) (lv' := [(3, .int v3), (0, .ref (ad 12 k0)), (1, .int y1), (2, .int y2)]) hx hb dX3_wear_35 hl (k := 0) rfl (by rw [ev3]; rfl) (by decide) rfl (fun ls hl => ?_)
        refine lv_goto (tgt := 2) hx hb dX3_wear_38 (by decide) ?_
        exact hih2 _ _ _ _ _ _ _ (lv_sub hl [0, 1, 2, 3] rfl) hW hS h
      · replace h := ite_t h c2
        refine lv_aload_n hx hb dX3_wear_17 rfl (lv_at hl 1 rfl) ?_
        refine lv_iload_n hx hb dX3_wear_18 rfl (lv_at hl 0 rfl) ?_
        refine lv_iload_n hx hb dX3_wear_19 rfl (lv_at hl 0 rfl) ?_
        refine lv_iload_n hx hb dX3_wear_20 rfl (lv_at hl 3 rfl) ?_
        refine lv_iadd hx hb dX3_wear_21 ?_
        refine lv_iconst (v := 2) hx hb dX3_wear_22 (by decide) ?_
        refine lv_irem hx hb dX3_wear_23 (by decide) ?_
        refine lv_topi (fun v4 ev4 => ?_)
        replace h := nm_at ev4 h
        refine lv_if_ne (tgt := 31) hx hb dX3_wear_24 (by decide) (fun c5 => ?_) (fun c5 => ?_)
        · replace h := ite_f h c5
          refine lv_iconst (v := (-1)) hx hb dX3_wear_31 (by decide) ?_
          exact hB32 ih2 hih2 _ _ _ _ _ _ _ _ _ (lv_sub hl [0, 1, 2, 3] rfl) hW hS h
        · replace h := ite_t h c5
          refine lv_iconst (v := 1) hx hb dX3_wear_27 (by decide) ?_
          refine lv_goto (tgt := 32) hx hb dX3_wear_28 (by decide) ?_
          exact hB32 ih2 hih2 _ _ _ _ _ _ _ _ _ (lv_sub hl [0, 1, 2, 3] rfl) hW hS h
  have hL2 : ∀ (n : Nat), ∀ (y3 : Int32) (y1 : Int32) (y2 : Int32) (u : St) (H : Heap) (locs : List Loc) (ls : Array Slot), lv_has ls 4 [(3, .int y3), (0, .ref (ad 12 k0)), (1, .int y1), (2, .int y2)] → GW z ad (GC z ad N X u) H → va_S (zA z) s.heap H locs → f_X3_wear_L2 N k0 n y3 y1 y2 u = some (r9, u9) → WW H locs (F0 m 2 ls []) := by
    intro n
    induction n with
    | zero => intro y3 y1 y2 u H locs ls hl hW hS h; exact absurd h (by intro q; cases q)
    | succ n ihn => intro y3 y1 y2 u H locs ls hl hW hS h; exact hL2b (f_X3_wear_L2 N k0 n) ihn y3 y1 y2 u H locs ls hl hW hS h
  unfold f_X3_wear at h
  refine lv_iconst (v := 0) hx hb dX3_wear_0 (by decide) ?_
  refine lv_istore_n (lv' := [(3, .int 0), (0, .ref (ad 12 k0)), (1, .int x1), (2, .int x2)]) hx hb dX3_wear_1 rfl hl (by decide) rfl (fun ls hl => ?_)
  exact hL2 1000000 _ _ _ _ _ _ _ (lv_sub hl [0, 1, 2, 3] rfl) hW hS h
/-- Panyard.rehearsePlaces -/
def f_X7_rehearsePlaces_L11b (N : Nt) (k2 : Nat) (ih11 : Int32 → Nat → Int32 → Int32 → St → Option (Unit × St)) (y5 : Int32) (q4 : Nat) (y1 : Int32) (y3 : Int32) (u : St) : Option (Unit × St) :=
  if (u 43 0 0) ≤ y5 then
    some ((), u)
  else
    gd (inb y5 10) <|
    nm (u 42 0 (ix y5)) fun v5 =>
    gd (inb v5 8) <|
    gd ((ix v5) < N 14) <|
    if (u 20 (ix v5) 0) = (u 30 q4 0) then
      gd (inb y1 8) <|
      if (u 40 (8 * 0 + (ix y1)) (ix v5)) < 30 then
        nm (y5 + 1) fun v12 =>
        ih11 v12 q4 y1 y3 u
      else
        sb (f_X5_mostMemory N u q4 (ix v5)) fun r13 u15 =>
        sb (f_X2_learn N u15 0 y1 v5 y3 r13) fun r16 u18 =>
        sb (f_X3_wear N u18 k2 (u18 22 (ix v5) 0) (u18 51 0 0)) fun r19 u21 =>
        nm (y5 + 1) fun v22 =>
        ih11 v22 q4 y1 y3 u21
    else
      nm (y5 + 1) fun v09 =>
      ih11 v09 q4 y1 y3 u
def f_X7_rehearsePlaces_L11 (N : Nt) (k2 : Nat) : Nat → Int32 → Nat → Int32 → Int32 → St → Option (Unit × St) := lp (fun _ _ _ _ _ => none) (f_X7_rehearsePlaces_L11b N k2)
def f_X7_rehearsePlaces (N : Nt) (u : St) (x1 : Int32) (k2 : Nat) (x3 : Int32) : Option (Unit × St) :=
  gd (inb x1 8) <|
  gd ((ix x1) < N 15) <|
  f_X7_rehearsePlaces_L11 N k2 1000000 0 (ix x1) x1 x3 u
set_option maxRecDepth 100000 in
set_option maxHeartbeats 4000000 in
theorem c_X7_rehearsePlaces (l : Launch) (z : Zt) (ad : Ad) (N : Nt) (X : Gt) (u : St) (x1 : Int32) (k2 : Nat) (x3 : Int32) (hk2 : vPan N k2) {r9 : Unit} {u9 : St} (h : f_X7_rehearsePlaces N u x1 k2 x3 = some (r9, u9)) : MC l z yX7_rehearsePlaces cX7_rehearsePlaces 8 none { frames := 3, cells := 0, slots := 0, locals := 67 } 0 0 [.ref (ad 0 0), .int x1, .ref (ad 12 k2), .int x3] ad (GC z ad N X u) (QV z ad (GC z ad N X u9)) := by
  refine Met.ofW (cc := cX7_rehearsePlaces) (maxL := 8) (ret := none) (by decide) rfl ?_
  intro p e s m args below meth c s₁ B hml hv
  obtain ⟨rfl, hSW, hW⟩ := hv
  have hx := B.exec; have hb := B.bytes; have hr := B.returns; have hlocks := B.notSynchronized
  have hown : s.vm.findClass RX7 = some m.cls := findClass_of_methodNamed B.named
  obtain ⟨hT, hK, hST, hB0⟩ := id hSW
  have hS : va_S (zA z) s.heap s.heap [] := va_S.rf
  have hl := lv_entry ([.ref (ad 0 0), .int x1, .ref (ad 12 k2), .int x3]) (n := 8) (Nat.le_of_ble_eq_true rfl)
  rw [lg_entry_eq]
  generalize (lg_sl ([.ref (ad 0 0), .int x1, .ref (ad 12 k2), .int x3]) ++ List.replicate (8 - (lg_sl ([.ref (ad 0 0), .int x1, .ref (ad 12 k2), .int x3])).length) Slot.unset).toArray = ls at hl ⊢
  have hl : lv_has ls 8 [(0, .ref (ad 0 0)), (1, .int x1), (2, .ref (ad 12 k2)), (3, .int x3)] := hl
  let WW : Heap → List Loc → JFrame → Prop := fun H locs g => W p l e (headSpec [Cond.code yX7_rehearsePlaces cX7_rehearsePlaces 8 none] { frames := 3, cells := 0, slots := 0, locals := 67 }).room s m [.ref (ad 0 0), .int x1, .ref (ad 12 k2), .int x3].toArray below meth c H locs 0 0 (MQ below (QV z ad (GC z ad N X u9)) [.ref (ad 0 0), .int x1, .ref (ad 12 k2), .int x3].toArray s 0 0 (zA z)) g
  have hL11b : ∀ (ih11 : Int32 → Nat → Int32 → Int32 → St → Option (Unit × St)) (hih11 : ∀ (y5 : Int32) (q4 : Nat) (y1 : Int32) (y3 : Int32) (u : St) (H : Heap) (locs : List Loc) (ls : Array Slot), q4 < N 15 → lv_has ls 8 [(5, .int y5), (4, .ref (ad 15 q4)), (0, .ref (ad 0 0)), (1, .int y1), (2, .ref (ad 12 k2)), (3, .int y3)] → GW z ad (GC z ad N X u) H → va_S (zA z) s.heap H locs → ih11 y5 q4 y1 y3 u = some (r9, u9) → WW H locs (F0 m 11 ls [])), ∀ (y5 : Int32) (q4 : Nat) (y1 : Int32) (y3 : Int32) (u : St) (H : Heap) (locs : List Loc) (ls : Array Slot), q4 < N 15 → lv_has ls 8 [(5, .int y5), (4, .ref (ad 15 q4)), (0, .ref (ad 0 0)), (1, .int y1), (2, .ref (ad 12 k2)), (3, .int y3)] → GW z ad (GC z ad N X u) H → va_S (zA z) s.heap H locs → f_X7_rehearsePlaces_L11b N k2 ih11 y5 q4 y1 y3 u = some (r9, u9) → WW H locs (F0 m 11 ls []) := by
    intro ih11 hih11 y5 q4 y1 y3 u H locs ls hq4 hl hW hS h
    change W p l e _ s m _ below meth c H locs 0 0 _ (F0 m 11 ls [])
    unfold f_X7_rehearsePlaces_L11b at h
    refine lv_iload hx hb dX7_rehearsePlaces_11 (lv_at hl 0 rfl) ?_
    refine lv_aload_n hx hb dX7_rehearsePlaces_13 rfl (lv_at hl 2 rfl) ?_
    refine nb_get hx hb hT hK hown hW fl_X7_30 kr_0 (v := .ref (ad 8 0)) rfl dX7_rehearsePlaces_14 ?_
    refine nb_get hx hb hT hK hown hW fl_X7_160 (kr_8 (by decide)) (v := .int (u 43 0 0)) rfl dX7_rehearsePlaces_17 ?_
    refine lv_icmp_ge (tgt := 114) hx hb dX7_rehearsePlaces_20 (by decide) (fun c3 => ?_) (fun c3 => ?_)
    · replace h := ite_t h c3
      exact ne_vret hx hb hr hlocks hW hS dX7_rehearsePlaces_114 h
    · replace h := ite_f h c3
      refine lv_aload_n hx hb dX7_rehearsePlaces_23 rfl (lv_at hl 2 rfl) ?_
      refine nb_get hx hb hT hK hown hW fl_X7_30 kr_0 (v := .ref (ad 8 0)) rfl dX7_rehearsePlaces_24 ?_
      refine nb_get hx hb hT hK hown hW fl_X7_171 (kr_8 (by decide)) (v := .ref (ad 9 0)) rfl dX7_rehearsePlaces_27 ?_
      refine lv_iload hx hb dX7_rehearsePlaces_30 (lv_at hl 0 rfl) ?_
      obtain ⟨g4, h⟩ := gd_s h
      refine nb_iald hx hb hK hW 0 (kr_9 (by decide)) rfl (inb_in g4) dX7_rehearsePlaces_32 ?_
      refine lv_topi (fun v5 ev5 => ?_)
      replace h := nm_at ev5 h
      refine lv_istore (lv' := [(6, .int v5), (5, .int y5), (4, .ref (ad 15 q4)), (0, .ref (ad 0 0)), (1, .int y1), (2, .ref (ad 12 k2)), (3, .int y3)]) hx hb dX7_rehearsePlaces_33 hl (by decide) rfl (fun ls hl => ?_)
      refine lv_aload_n hx hb dX7_rehearsePlaces_35 rfl (lv_at hl 3 rfl) ?_
      refine nb_get hx hb hT hK hown hW fl_X7_17 kr_0 (v := .ref (ad 2 0)) rfl dX7_rehearsePlaces_36 ?_
      refine lv_iload hx hb dX7_rehearsePlaces_39 (lv_at hl 0 rfl) ?_
      obtain ⟨g6, h⟩ := gd_s h
      obtain ⟨g7, h⟩ := gd_s h
      refine nb_aald hx hb hK hW 3 kr_2 rfl rfl (inb_in g6) (a := ad 14 (ix v5)) (qrow_at g7) dX7_rehearsePlaces_41 ?_
      refine lv_astore (lv' := [(7, .ref (ad 14 (ix v5))), (6, .int v5), (5, .int y5), (4, .ref (ad 15 q4)), (0, .ref (ad 0 0)), (1, .int y1), (2, .ref (ad 12 k2)), (3, .int y3)]) hx hb dX7_rehearsePlaces_42 hl (by decide) rfl (fun ls hl => ?_)
      refine lv_aload hx hb dX7_rehearsePlaces_44 (lv_at hl 0 rfl) ?_
      refine nb_get hx hb hT hK hown hW fl_X7_208 (kr_14 g7) (v := .int (u 20 (ix v5) 0)) rfl dX7_rehearsePlaces_46 ?_
      refine lv_aload hx hb dX7_rehearsePlaces_49 (lv_at hl 3 rfl) ?_
      refine nb_get hx hb hT hK hown hW fl_X7_190 (kr_15 hq4) (v := .int (u 30 q4 0)) rfl dX7_rehearsePlaces_51 ?_
      refine lv_icmp_ne (tgt := 108) hx hb dX7_rehearsePlaces_54 (by decide) (fun c8 => ?_) (fun c8 => ?_)
      · replace h := ite_f h c8
        obtain ⟨v09, ev09, h⟩ := nm_s h
        refine lv_iinc (v := v09) (lv' := [(5, .int v09), (7, .ref (ad 14 (ix v5))), (6, .int v5), (4, .ref (ad 15 q4)), (0, .ref (ad 0 0)), (1, .int y1), (2, .ref (ad 12 k2)), (3, .int y3)]) hx hb dX7_rehearsePlaces_108 hl (k := 2) rfl (by rw [ev09]; rfl) (by decide) rfl (fun ls hl => ?_)
        refine lv_goto (tgt := 11) hx hb dX7_rehearsePlaces_111 (by decide) ?_
        exact hih11 _ _ _ _ _ _ _ _ hq4 (lv_sub hl [0, 3, 4, 5, 6, 7] rfl) hW hS h
      · replace h := ite_t h c8
        refine lv_aload_n hx hb dX7_rehearsePlaces_57 rfl (lv_at hl 4 rfl) ?_
        refine nb_get hx hb hT hK hown hW fl_X7_37 kr_0 (v := .ref (ad 10 0)) rfl dX7_rehearsePlaces_58 ?_
        refine nb_get hx hb hT hK hown hW fl_X7_225 (kr_10 (by decide)) (v := .ref (ad 11 0)) rfl dX7_rehearsePlaces_61 ?_
        refine lv_iload_n hx hb dX7_rehearsePlaces_64 rfl (lv_at hl 5 rfl) ?_
        obtain ⟨g10, h⟩ := gd_s h
        refine nb_aald hx hb hK hW 1 (kr_11 (by decide)) rfl rfl (inb_in g10) (a := ad 20 (8 * 0 + (ix y1))) (qrow_at (inb_lt g10)) dX7_rehearsePlaces_65 ?_
        refine lv_iload hx hb dX7_rehearsePlaces_66 (lv_at hl 1 rfl) ?_
        refine nb_iald hx hb hK hW 0 (kr_20 (row_lt (by decide) (inb_lt g10))) rfl (inb_in g6) dX7_rehearsePlaces_68 ?_
        refine lv_bipush (v := 30) hx hb dX7_rehearsePlaces_69 (by decide) ?_
        refine lv_icmp_lt (tgt := 108) hx hb dX7_rehearsePlaces_71 (by decide) (fun c11 => ?_) (fun c11 => ?_)
        · replace h := ite_t h c11
          obtain ⟨v12, ev12, h⟩ := nm_s h
          refine lv_iinc (v := v12) (lv' := [(5, .int v12), (7, .ref (ad 14 (ix v5))), (6, .int v5), (4, .ref (ad 15 q4)), (0, .ref (ad 0 0)), (1, .int y1), (2, .ref (ad 12 k2)), (3, .int y3)]) hx hb dX7_rehearsePlaces_108 hl (k := 2) rfl (by rw [ev12]; rfl) (by decide) rfl (fun ls hl => ?_)
          refine lv_goto (tgt := 11) hx hb dX7_rehearsePlaces_111 (by decide) ?_
          exact hih11 _ _ _ _ _ _ _ _ hq4 (lv_sub hl [0, 3, 4, 5, 6, 7] rfl) hW hS h
        · replace h := ite_f h c11
          refine lv_aload_n hx hb dX7_rehearsePlaces_74 rfl (lv_at hl 4 rfl) ?_
          refine nb_get hx hb hT hK hown hW fl_X7_37 kr_0 (v := .ref (ad 10 0)) rfl dX7_rehearsePlaces_75 ?_
          refine lv_iload_n hx hb dX7_rehearsePlaces_78 rfl (lv_at hl 5 rfl) ?_
          refine lv_iload hx hb dX7_rehearsePlaces_79 (lv_at hl 1 rfl) ?_
          refine lv_iload_n hx hb dX7_rehearsePlaces_81 rfl (lv_at hl 7 rfl) ?_
          refine lv_aload hx hb dX7_rehearsePlaces_82 (lv_at hl 3 rfl) ?_
          refine lv_aload hx hb dX7_rehearsePlaces_84 (lv_at hl 0 rfl) ?_
          obtain ⟨r13, u15, h14, h⟩ := sb_s h
          refine nb_ci (nb_runV (As := [.ref (ad 14 (ix v5))]) (rest := [.int y3, .int v5, .int y1, .ref (ad 10 0)]) hx hb hml hown hSW hS hW (c_X5_mostMemory l z ad N X u q4 (ix v5) hq4 g7 h14) mf_X5_mostMemory lk_X7_150 (kr_15 hq4) rfl rfl ⟨rfl, rfl⟩ ⟨Nat.le_of_ble_eq_true rfl, Nat.le_of_ble_eq_true rfl⟩ hl.1 (Nat.le_of_ble_eq_true rfl) dX7_rehearsePlaces_86 ⟨Nat.le_of_ble_eq_true rfl, Nat.le_of_ble_eq_true rfl⟩) hS (fun H locs (hW : GW z ad (GC z ad N X u15) H) hS => ?_)
          obtain ⟨r16, u18, h17, h⟩ := sb_s h
          refine nb_cv (nb_runV (As := [.int y1, .int v5, .int y3, .int r13]) (rest := []) hx hb hml hown hSW hS hW (c_X2_learn l z ad N X u15 0 y1 v5 y3 r13 (by decide) h17) mf_X2_learn lk_X7_488 (kr_10 (by decide)) rfl rfl ⟨rfl, rfl⟩ ⟨Nat.le_of_ble_eq_true rfl, Nat.le_of_ble_eq_true rfl⟩ hl.1 (Nat.le_of_ble_eq_true rfl) dX7_rehearsePlaces_89 ⟨Nat.le_of_ble_eq_true rfl, Nat.le_of_ble_eq_true rfl⟩) hS (fun H locs (hW : GW z ad (GC z ad N X u18) H) hS => ?_)
          refine lv_aload_n hx hb dX7_rehearsePlaces_92 rfl (lv_at hl 6 rfl) ?_
          refine lv_aload hx hb dX7_rehearsePlaces_93 (lv_at hl 0 rfl) ?_
          refine nb_get hx hb hT hK hown hW fl_X7_329 (kr_14 g7) (v := .int (u18 22 (ix v5) 0)) rfl dX7_rehearsePlaces_95 ?_
          refine lv_aload_n hx hb dX7_rehearsePlaces_98 rfl (lv_at hl 4 rfl) ?_
          refine nb_get hx hb hT hK hown hW fl_X7_44 kr_0 (v := .ref (ad 5 0)) rfl dX7_rehearsePlaces_99 ?_
          refine nb_get hx hb hT hK hown hW fl_X7_261 kr_5 (v := .int (u18 51 0 0)) rfl dX7_rehearsePlaces_102 ?_
          obtain ⟨r19, u21, h20, h⟩ := sb_s h
          refine nb_cv (nb_runV (As := [.int (u18 22 (ix v5) 0), .int (u18 51 0 0)]) (rest := []) hx hb hml hown hSW hS hW (c_X3_wear l z ad N X u18 k2 (u18 22 (ix v5) 0) (u18 51 0 0) hk2 h20) mf_X3_wear lk_X7_492 (kr_12 hk2) rfl rfl ⟨rfl, rfl⟩ ⟨Nat.le_of_ble_eq_true rfl, Nat.le_of_ble_eq_true rfl⟩ hl.1 (Nat.le_of_ble_eq_true rfl) dX7_rehearsePlaces_105 ⟨Nat.le_of_ble_eq_true rfl, Nat.le_of_ble_eq_true rfl⟩) hS (fun H locs (hW : GW z ad (GC z ad N X u21) H) hS => ?_)
          obtain ⟨v22, ev22, h⟩ := nm_s h
          refine lv_iinc (v := v22) (lv' := [(5, .int v22), (7, .ref (ad 14 (ix v5))), (6, .int v5), (4, .ref (ad 15 q4)), (0, .ref (ad 0 0)), (1, .int y1), (2, .ref (ad 12 k2)), (3, .int y3)]) hx hb dX7_rehearsePlaces_108 hl (k := 2) rfl (by rw [ev22]; rfl) (by decide) rfl (fun ls hl => ?_)
          refine lv_goto (tgt := 11) hx hb dX7_rehearsePlaces_111 (by decide) ?_
          exact hih11 _ _ _ _ _ _ _ _ hq4 (lv_sub hl [0, 3, 4, 5, 6, 7] rfl) hW hS h
  have hL11 : ∀ (n : Nat), ∀ (y5 : Int32) (q4 : Nat) (y1 : Int32) (y3 : Int32) (u : St) (H : Heap) (locs : List Loc) (ls : Array Slot), q4 < N 15 → lv_has ls 8 [(5, .int y5), (4, .ref (ad 15 q4)), (0, .ref (ad 0 0)), (1, .int y1), (2, .ref (ad 12 k2)), (3, .int y3)] → GW z ad (GC z ad N X u) H → va_S (zA z) s.heap H locs → f_X7_rehearsePlaces_L11 N k2 n y5 q4 y1 y3 u = some (r9, u9) → WW H locs (F0 m 11 ls []) := by
    intro n
    induction n with
    | zero => intro y5 q4 y1 y3 u H locs ls hq4 hl hW hS h; exact absurd h (by intro q; cases q)
    | succ n ihn => intro y5 q4 y1 y3 u H locs ls hq4 hl hW hS h; exact hL11b (f_X7_rehearsePlaces_L11 N k2 n) ihn y5 q4 y1 y3 u H locs ls hq4 hl hW hS h
  unfold f_X7_rehearsePlaces at h
  refine lv_aload_n hx hb dX7_rehearsePlaces_0 rfl (lv_at hl 0 rfl) ?_
  refine nb_get hx hb hT hK hown hW fl_X7_23 kr_0 (v := .ref (ad 3 0)) rfl dX7_rehearsePlaces_1 ?_
  refine lv_iload_n hx hb dX7_rehearsePlaces_4 rfl (lv_at hl 1 rfl) ?_
  obtain ⟨g1, h⟩ := gd_s h
  obtain ⟨g2, h⟩ := gd_s h
  refine nb_aald hx hb hK hW 4 kr_3 rfl rfl (inb_in g1) (a := ad 15 (ix x1)) (qrow_at g2) dX7_rehearsePlaces_5 ?_
  refine lv_astore (lv' := [(4, .ref (ad 15 (ix x1))), (0, .ref (ad 0 0)), (1, .int x1), (2, .ref (ad 12 k2)), (3, .int x3)]) hx hb dX7_rehearsePlaces_6 hl (by decide) rfl (fun ls hl => ?_)
  refine lv_iconst (v := 0) hx hb dX7_rehearsePlaces_8 (by decide) ?_
  refine lv_istore (lv' := [(5, .int 0), (4, .ref (ad 15 (ix x1))), (0, .ref (ad 0 0)), (1, .int x1), (2, .ref (ad 12 k2)), (3, .int x3)]) hx hb dX7_rehearsePlaces_9 hl (by decide) rfl (fun ls hl => ?_)
  exact hL11 1000000 _ _ _ _ _ _ _ _ g2 (lv_sub hl [0, 1, 2, 3, 4, 5] rfl) hW hS h
/-- Panyard.soundingCount -/
def f_X7_soundingCount_L4b (N : Nt) (ih4 : Int32 → Int32 → St → Option (Int32 × St)) (y2 : Int32) (y1 : Int32) (u : St) : Option (Int32 × St) :=
  if (u 2 0 0) ≤ y2 then
    some (y1, u)
  else
    gd (inb y2 8) <|
    gd ((ix y2) < N 15) <|
    sb (f_X5_soundingPan N u (ix y2)) fun r4 u6 =>
    oc r4
      (
        nm (y2 + 1) fun v09 =>
        ih4 v09 y1 u6
      )
      fun q7 =>
      gd (vPan N q7) <|
      nm (y1 + 1) fun v11 =>
      nm (y2 + 1) fun v12 =>
      ih4 v12 v11 u6
def f_X7_soundingCount_L4 (N : Nt) : Nat → Int32 → Int32 → St → Option (Int32 × St) := lp (fun _ _ _ => none) (f_X7_soundingCount_L4b N)
def f_X7_soundingCount (N : Nt) (u : St) : Option (Int32 × St) :=
  f_X7_soundingCount_L4 N 1000000 0 0 u
set_option maxRecDepth 100000 in
set_option maxHeartbeats 4000000 in
theorem c_X7_soundingCount (l : Launch) (z : Zt) (ad : Ad) (N : Nt) (X : Gt) (u : St) {r9 : Int32} {u9 : St} (h : f_X7_soundingCount N u = some (r9, u9)) : MC l z yX7_soundingCount cX7_soundingCount 3 (some .int) { frames := 2, cells := 0, slots := 0, locals := 40 } 0 0 [.ref (ad 0 0)] ad (GC z ad N X u) (QI z ad (GC z ad N X u9) r9) := by
  refine Met.ofW (cc := cX7_soundingCount) (maxL := 3) (ret := (some .int)) (by decide) rfl ?_
  intro p e s m args below meth c s₁ B hml hv
  obtain ⟨rfl, hSW, hW⟩ := hv
  have hx := B.exec; have hb := B.bytes; have hr := B.returns; have hlocks := B.notSynchronized
  have hown : s.vm.findClass RX7 = some m.cls := findClass_of_methodNamed B.named
  obtain ⟨hT, hK, hST, hB0⟩ := id hSW
  have hS : va_S (zA z) s.heap s.heap [] := va_S.rf
  have hl := lv_entry ([.ref (ad 0 0)]) (n := 3) (Nat.le_of_ble_eq_true rfl)
  rw [lg_entry_eq]
  generalize (lg_sl ([.ref (ad 0 0)]) ++ List.replicate (3 - (lg_sl ([.ref (ad 0 0)])).length) Slot.unset).toArray = ls at hl ⊢
  have hl : lv_has ls 3 [(0, .ref (ad 0 0))] := hl
  let WW : Heap → List Loc → JFrame → Prop := fun H locs g => W p l e (headSpec [Cond.code yX7_soundingCount cX7_soundingCount 3 (some .int)] { frames := 2, cells := 0, slots := 0, locals := 40 }).room s m [.ref (ad 0 0)].toArray below meth c H locs 0 0 (MQ below (QI z ad (GC z ad N X u9) r9) [.ref (ad 0 0)].toArray s 0 0 (zA z)) g
  have hL4b : ∀ (ih4 : Int32 → Int32 → St → Option (Int32 × St)) (hih4 : ∀ (y2 : Int32) (y1 : Int32) (u : St) (H : Heap) (locs : List Loc) (ls : Array Slot), lv_has ls 3 [(2, .int y2), (1, .int y1), (0, .ref (ad 0 0))] → GW z ad (GC z ad N X u) H → va_S (zA z) s.heap H locs → ih4 y2 y1 u = some (r9, u9) → WW H locs (F0 m 4 ls [])), ∀ (y2 : Int32) (y1 : Int32) (u : St) (H : Heap) (locs : List Loc) (ls : Array Slot), lv_has ls 3 [(2, .int y2), (1, .int y1), (0, .ref (ad 0 0))] → GW z ad (GC z ad N X u) H → va_S (zA z) s.heap H locs → f_X7_soundingCount_L4b N ih4 y2 y1 u = some (r9, u9) → WW H locs (F0 m 4 ls []) := by
    intro ih4 hih4 y2 y1 u H locs ls hl hW hS h
    change W p l e _ s m _ below meth c H locs 0 0 _ (F0 m 4 ls [])
    unfold f_X7_soundingCount_L4b at h
    refine lv_iload_n hx hb dX7_soundingCount_4 rfl (lv_at hl 0 rfl) ?_
    refine lv_aload_n hx hb dX7_soundingCount_5 rfl (lv_at hl 2 rfl) ?_
    refine nb_get hx hb hT hK hown hW fl_X7_147 kr_0 (v := .int (u 2 0 0)) rfl dX7_soundingCount_6 ?_
    refine lv_icmp_ge (tgt := 33) hx hb dX7_soundingCount_9 (by decide) (fun c1 => ?_) (fun c1 => ?_)
    · replace h := ite_t h c1
      refine lv_iload_n hx hb dX7_soundingCount_33 rfl (lv_at hl 1 rfl) ?_
      exact ne_iret hx hb hr rfl hlocks hW hS dX7_soundingCount_34 h
    · replace h := ite_f h c1
      refine lv_aload_n hx hb dX7_soundingCount_12 rfl (lv_at hl 2 rfl) ?_
      refine nb_get hx hb hT hK hown hW fl_X7_23 kr_0 (v := .ref (ad 3 0)) rfl dX7_soundingCount_13 ?_
      refine lv_iload_n hx hb dX7_soundingCount_16 rfl (lv_at hl 0 rfl) ?_
      obtain ⟨g2, h⟩ := gd_s h
      obtain ⟨g3, h⟩ := gd_s h
      refine nb_aald hx hb hK hW 4 kr_3 rfl rfl (inb_in g2) (a := ad 15 (ix y2)) (qrow_at g3) dX7_soundingCount_17 ?_
      obtain ⟨r4, u6, h5, h⟩ := sb_s h
      refine nb_cq (nb_runV (As := []) (rest := []) hx hb hml hown hSW hS hW (c_X5_soundingPan l z ad N X u (ix y2) g3 h5) mf_X5_soundingPan lk_X7_236 (kr_15 g3) rfl rfl ⟨rfl, rfl⟩ ⟨Nat.le_of_ble_eq_true rfl, Nat.le_of_ble_eq_true rfl⟩ hl.1 (Nat.le_of_ble_eq_true rfl) dX7_soundingCount_18 ⟨Nat.le_of_ble_eq_true rfl, Nat.le_of_ble_eq_true rfl⟩) hS (fun H locs (hW : GW z ad (GC z ad N X u6) H) hS => ?_)
      refine nb_oc (fun o8 => ?_) (fun q7 o8 => ?_)
      · replace h := oc_n o8 h
        refine lv_ifnullN (tgt := 27) hx hb dX7_soundingCount_21 (by decide) ?_
        obtain ⟨v09, ev09, h⟩ := nm_s h
        refine lv_iinc (v := v09) (lv' := [(2, .int v09), (1, .int y1), (0, .ref (ad 0 0))]) hx hb dX7_soundingCount_27 hl (k := 0) rfl (by rw [ev09]; rfl) (by decide) rfl (fun ls hl => ?_)
        refine lv_goto (tgt := 4) hx hb dX7_soundingCount_30 (by decide) ?_
        exact hih4 _ _ _ _ _ _ (lv_sub hl [0, 1, 2] rfl) hW hS h
      · replace h := oc_q o8 h
        obtain ⟨g10, h⟩ := gd_s h
        refine lv_ifnull hx hb dX7_soundingCount_21 ?_
        obtain ⟨v11, ev11, h⟩ := nm_s h
        refine lv_iinc (v := v11) (lv' := [(1, .int v11), (2, .int y2), (0, .ref (ad 0 0))]) hx hb dX7_soundingCount_24 hl (k := 1) rfl (by rw [ev11]; rfl) (by decide) rfl (fun ls hl => ?_)
        obtain ⟨v12, ev12, h⟩ := nm_s h
        refine lv_iinc (v := v12) (lv' := [(2, .int v12), (1, .int v11), (0, .ref (ad 0 0))]) hx hb dX7_soundingCount_27 hl (k := 1) rfl (by rw [ev12]; rfl) (by decide) rfl (fun ls hl => ?_)
        refine lv_goto (tgt := 4) hx hb dX7_soundingCount_30 (by decide) ?_
        exact hih4 _ _ _ _ _ _ (lv_sub hl [0, 1, 2] rfl) hW hS h
  have hL4 : ∀ (n : Nat), ∀ (y2 : Int32) (y1 : Int32) (u : St) (H : Heap) (locs : List Loc) (ls : Array Slot), lv_has ls 3 [(2, .int y2), (1, .int y1), (0, .ref (ad 0 0))] → GW z ad (GC z ad N X u) H → va_S (zA z) s.heap H locs → f_X7_soundingCount_L4 N n y2 y1 u = some (r9, u9) → WW H locs (F0 m 4 ls []) := by
    intro n
    induction n with
    | zero => intro y2 y1 u H locs ls hl hW hS h; exact absurd h (by intro q; cases q)
    | succ n ihn => intro y2 y1 u H locs ls hl hW hS h; exact hL4b (f_X7_soundingCount_L4 N n) ihn y2 y1 u H locs ls hl hW hS h
  unfold f_X7_soundingCount at h
  refine lv_iconst (v := 0) hx hb dX7_soundingCount_0 (by decide) ?_
  refine lv_istore_n (lv' := [(1, .int 0), (0, .ref (ad 0 0))]) hx hb dX7_soundingCount_1 rfl hl (by decide) rfl (fun ls hl => ?_)
  refine lv_iconst (v := 0) hx hb dX7_soundingCount_2 (by decide) ?_
  refine lv_istore_n (lv' := [(2, .int 0), (1, .int 0), (0, .ref (ad 0 0))]) hx hb dX7_soundingCount_3 rfl hl (by decide) rfl (fun ls hl => ?_)
  exact hL4 1000000 _ _ _ _ _ _ (lv_sub hl [0, 1, 2] rfl) hW hS h
