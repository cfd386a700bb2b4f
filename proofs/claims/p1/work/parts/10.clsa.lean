/-- Panyard.isWithin -/
def f_X7_isWithin (N : Nt) (u : St) (x0 : Int32) (x1 : Int32) (x2 : Int32) : Option (Int32 × St) :=
  if x0 < x1 then
    some (0, u)
  else
    if x2 < x0 then
      some (0, u)
    else
      some (1, u)
set_option maxRecDepth 100000 in
set_option maxHeartbeats 4000000 in
theorem c_X7_isWithin (l : Launch) (z : Zt) (ad : Ad) (N : Nt) (X : Gt) (u : St) (x0 : Int32) (x1 : Int32) (x2 : Int32) {r9 : Int32} {u9 : St} (h : f_X7_isWithin N u x0 x1 x2 = some (r9, u9)) : MC l z yX7_isWithin cX7_isWithin 3 (some .boolean) { frames := 0, cells := 0, slots := 0, locals := 0 } 0 0 [.int x0, .int x1, .int x2] ad (GC z ad N X u) (QI z ad (GC z ad N X u9) r9) := by
  refine Met.ofW (cc := cX7_isWithin) (maxL := 3) (ret := (some .boolean)) (by decide) rfl ?_
  intro p e s m args below meth c s₁ B hml hv
  obtain ⟨rfl, hSW, hW⟩ := hv
  have hx := B.exec; have hb := B.bytes; have hr := B.returns; have hlocks := B.notSynchronized
  have hown : s.vm.findClass RX7 = some m.cls := findClass_of_methodNamed B.named
  obtain ⟨hT, hK, hST, hB0⟩ := id hSW
  have hS : va_S (zA z) s.heap s.heap [] := va_S.rf
  have hl := lv_entry ([.int x0, .int x1, .int x2]) (n := 3) (Nat.le_of_ble_eq_true rfl)
  rw [lg_entry_eq]
  generalize (lg_sl ([.int x0, .int x1, .int x2]) ++ List.replicate (3 - (lg_sl ([.int x0, .int x1, .int x2])).length) Slot.unset).toArray = ls at hl ⊢
  have hl : lv_has ls 3 [(0, .int x0), (1, .int x1), (2, .int x2)] := hl
  unfold f_X7_isWithin at h
  refine lv_iload_n hx hb dX7_isWithin_0 rfl (lv_at hl 0 rfl) ?_
  refine lv_iload_n hx hb dX7_isWithin_1 rfl (lv_at hl 1 rfl) ?_
  refine lv_icmp_lt (tgt := 14) hx hb dX7_isWithin_2 (by decide) (fun c1 => ?_) (fun c1 => ?_)
  · replace h := ite_t h c1
    refine lv_iconst (v := 0) hx hb dX7_isWithin_14 (by decide) ?_
    exact ne_iret hx hb hr rfl hlocks hW hS dX7_isWithin_15 h
  · replace h := ite_f h c1
    refine lv_iload_n hx hb dX7_isWithin_5 rfl (lv_at hl 0 rfl) ?_
    refine lv_iload_n hx hb dX7_isWithin_6 rfl (lv_at hl 2 rfl) ?_
    refine lv_icmp_gt (tgt := 14) hx hb dX7_isWithin_7 (by decide) (fun c2 => ?_) (fun c2 => ?_)
    · replace h := ite_t h c2
      refine lv_iconst (v := 0) hx hb dX7_isWithin_14 (by decide) ?_
      exact ne_iret hx hb hr rfl hlocks hW hS dX7_isWithin_15 h
    · replace h := ite_f h c2
      refine lv_iconst (v := 1) hx hb dX7_isWithin_10 (by decide) ?_
      refine lv_goto (tgt := 15) hx hb dX7_isWithin_11 (by decide) ?_
      exact ne_iret hx hb hr rfl hlocks hW hS dX7_isWithin_15 h
/-- Panyard.requireSection -/
def f_X7_requireSection (N : Nt) (u : St) (x0 : Int32) : Option (Except String Unit × St) :=
  sb (f_X7_isWithin N u x0 0 3) fun r1 u3 =>
  if r1 = 0 then
    some (.error "java/lang/IndexOutOfBoundsException", u3)
  else
    some (.ok (), u3)
set_option maxRecDepth 100000 in
set_option maxHeartbeats 4000000 in
theorem c_X7_requireSection (l : Launch) (z : Zt) (ad : Ad) (N : Nt) (X : Gt) (u : St) (x0 : Int32) {r9 : Unit} {u9 : St} (h : f_X7_requireSection N u x0 = some (.ok r9, u9)) : MC l z yX7_requireSection cX7_requireSection 1 none { frames := 1, cells := 0, slots := 0, locals := 22 } 0 0 [.int x0] ad (GC z ad N X u) (QV z ad (GC z ad N X u9)) := by
  refine Met.ofW (cc := cX7_requireSection) (maxL := 1) (ret := none) (by decide) rfl ?_
  intro p e s m args below meth c s₁ B hml hv
  obtain ⟨rfl, hSW, hW⟩ := hv
  have hx := B.exec; have hb := B.bytes; have hr := B.returns; have hlocks := B.notSynchronized
  have hown : s.vm.findClass RX7 = some m.cls := findClass_of_methodNamed B.named
  obtain ⟨hT, hK, hST, hB0⟩ := id hSW
  have hS : va_S (zA z) s.heap s.heap [] := va_S.rf
  have hl := lv_entry ([.int x0]) (n := 1) (Nat.le_of_ble_eq_true rfl)
  rw [lg_entry_eq]
  generalize (lg_sl ([.int x0]) ++ List.replicate (1 - (lg_sl ([.int x0])).length) Slot.unset).toArray = ls at hl ⊢
  have hl : lv_has ls 1 [(0, .int x0)] := hl
  unfold f_X7_requireSection at h
  refine lv_iload_n hx hb dX7_requireSection_0 rfl (lv_at hl 0 rfl) ?_
  refine lv_iconst (v := 0) hx hb dX7_requireSection_1 (by decide) ?_
  refine lv_iconst (v := 3) hx hb dX7_requireSection_2 (by decide) ?_
  obtain ⟨r1, u3, h2, h⟩ := sb_s h
  refine nb_ci (nb_runS (As := [.int x0, .int 0, .int 3]) (rest := []) hx hb hml hown hSW hS hW (c_X7_isWithin l z ad N X u x0 0 3 h2) mf_X7_isWithin lk_X7_96 rfl ⟨rfl, rfl⟩ ⟨Nat.le_of_ble_eq_true rfl, Nat.le_of_ble_eq_true rfl⟩ hl.1 (Nat.le_of_ble_eq_true rfl) dX7_requireSection_3 ⟨Nat.le_of_ble_eq_true rfl, Nat.le_of_ble_eq_true rfl⟩) hS (fun H locs (hW : GW z ad (GC z ad N X u3) H) hS => ?_)
  refine lv_if_ne (tgt := 20) hx hb dX7_requireSection_6 (by decide) (fun c4 => ?_) (fun c4 => ?_)
  · replace h := ite_f h c4
    exact ne_vretX hx hb hr hlocks hW hS dX7_requireSection_20 h
  · replace h := ite_t h c4
    exact absurd h (by intro q; cases q)
/-- Panyard.pan -/
def f_X7_pan (N : Nt) (u : St) (x1 : Int32) : Option (Except String Int32 × St) :=
  xb (f_X7_requireSection N u x1) fun r1 u3 =>
  if (u3 0 0 0) < 6 then
    nm (u3 0 0 0) fun v5 =>
    gd (inb v5 6 ∧ ix v5 = N 12) <|
    gd (∀ i, i < N 15 → ppan (Nup N 12) u3 i = ppan N u3 i) <|
    nm (mkPan u3 (N 12) v5 x1) fun u8 =>
    nm (sset u8 3 0 0 ((u8 3 0 0) - 40)) fun u09 =>
    some (.ok v5, u09)
  else
    some (.error "java/lang/IllegalStateException", u3)
set_option maxRecDepth 100000 in
set_option maxHeartbeats 4000000 in
theorem c_X7_pan (l : Launch) (z : Zt) (ad : Ad) (N : Nt) (X : Gt) (u : St) (x1 : Int32) (hA : Raw ad) {r9 : Int32} {u9 : St} (h : f_X7_pan N u x1 = some (.ok r9, u9)) : MC l z yX7_pan cX7_pan 3 (some .int) { frames := 2, cells := 2, slots := 13, locals := 42 } 2 13 [.ref (ad 0 0), .int x1] ad (GC z ad N X u) (QM z (fun ad2 : Ad => ∀ a b, ¬ (b = N 12 ∧ (a = 12 ∨ a = 13)) → ad2 a b = ad a b) (fun ad2 => GC z ad2 (Nup N 12) X u9) r9) := by
  refine Met.ofW (cc := cX7_pan) (maxL := 3) (ret := (some .int)) (by decide) rfl ?_
  intro p e s m args below meth c s₁ B hml hv
  obtain ⟨rfl, hSW, hW⟩ := hv
  have hx := B.exec; have hb := B.bytes; have hr := B.returns; have hlocks := B.notSynchronized
  have hown : s.vm.findClass RX7 = some m.cls := findClass_of_methodNamed B.named
  obtain ⟨hT, hK, hST, hB0⟩ := id hSW
  have hS : va_S (zA z) s.heap s.heap [] := va_S.rf
  have hl := lv_entry ([.ref (ad 0 0), .int x1]) (n := 3) (Nat.le_of_ble_eq_true rfl)
  rw [lg_entry_eq]
  generalize (lg_sl ([.ref (ad 0 0), .int x1]) ++ List.replicate (3 - (lg_sl ([.ref (ad 0 0), .int x1])).length) Slot.unset).toArray = ls at hl ⊢
  have hl : lv_has ls 3 [(0, .ref (ad 0 0)), (1, .int x1)] := hl
  unfold f_X7_pan at h
  refine lv_iload_n hx hb dX7_pan_0 rfl (lv_at hl 1 rfl) ?_
  obtain ⟨r1, u3, h2, h⟩ := xb_s h
  refine nb_cv (nb_runS (As := [.int x1]) (rest := []) hx hb hml hown hSW hS hW (c_X7_requireSection l z ad N X u x1 h2) mf_X7_requireSection lk_X7_76 rfl ⟨rfl, rfl⟩ ⟨Nat.le_of_ble_eq_true rfl, Nat.le_of_ble_eq_true rfl⟩ hl.1 (Nat.le_of_ble_eq_true rfl) dX7_pan_1 ⟨Nat.le_of_ble_eq_true rfl, Nat.le_of_ble_eq_true rfl⟩) hS (fun H locs (hW : GW z ad (GC z ad N X u3) H) hS => ?_)
  refine lv_aload_n hx hb dX7_pan_4 rfl (lv_at hl 0 rfl) ?_
  refine nb_get hx hb hT hK hown hW fl_X7_80 kr_0 (v := .int (u3 0 0 0)) rfl dX7_pan_5 ?_
  refine lv_bipush (v := 6) hx hb dX7_pan_8 (by decide) ?_
  refine lv_icmp_lt (tgt := 23) hx hb dX7_pan_10 (by decide) (fun c4 => ?_) (fun c4 => ?_)
  · replace h := ite_t h c4
    refine lv_aload_n hx hb dX7_pan_23 rfl (lv_at hl 0 rfl) ?_
    refine nb_get hx hb hT hK hown hW fl_X7_80 kr_0 (v := .int (u3 0 0 0)) rfl dX7_pan_24 ?_
    refine lv_topi (fun v5 ev5 => ?_)
    replace h := nm_at ev5 h
    refine lv_istore_n (lv' := [(2, .int v5), (0, .ref (ad 0 0)), (1, .int x1)]) hx hb dX7_pan_27 rfl hl (by decide) rfl (fun ls hl => ?_)
    refine lv_aload_n hx hb dX7_pan_28 rfl (lv_at hl 1 rfl) ?_
    refine nb_get hx hb hT hK hown hW fl_X7_11 kr_0 (v := .ref (ad 1 0)) rfl dX7_pan_29 ?_
    refine lv_iload_n hx hb dX7_pan_32 rfl (lv_at hl 0 rfl) ?_
    obtain ⟨g6, h⟩ := gd_s h
    obtain ⟨g7, h⟩ := gd_s h
    refine nb_new (fs := [.int 0, .null, .int 0, .int 0, .int 0]) hx hb hSW hown hA hW hS nw_X7_9 tyX3 tyX3_ok (fun j hj => by rcases (show j = 0 ∨ j = 1 ∨ j = 2 ∨ j = 3 ∨ j = 4 by omega) with rfl | rfl | rfl | rfl | rfl <;> rfl) ⟨Nat.le_of_ble_eq_true rfl, Nat.le_of_ble_eq_true rfl⟩ dX7_pan_33 (fun b9 H G2 hnb hE hcb hW hS => ?_)
    refine lv_dup hx hb dX7_pan_36 rfl ?_
    refine lv_iload_n hx hb dX7_pan_37 rfl (lv_at hl 0 rfl) ?_
    refine lv_iload_n hx hb dX7_pan_38 rfl (lv_at hl 2 rfl) ?_
    refine va_callv (nb_runI (As := [.int v5, .int x1]) (rest := [.ref b9, .int v5, .ref (ad 1 0)]) hx hb hml hown hSW hS hW (c_X3_init l z ad G2 hA b9 v5 x1 hcb) mf_X3_init lk_X7_59 rfl ⟨rfl, rfl⟩ ⟨Nat.le_of_ble_eq_true rfl, Nat.le_of_ble_eq_true rfl⟩ hl.1 (Nat.le_of_ble_eq_true rfl) dX7_pan_39 ⟨Nat.le_of_ble_eq_true rfl, Nat.le_of_ble_eq_true rfl⟩) hS (fun _ _ h => h) (fun _ h => h) (fun u9_ t9 H locs ht9 _ hp9 hW9 _ _ hS => ?_)
    obtain ⟨n0, F, hF, hu9, hJ⟩ := hp9
    rw [hu9] at hJ
    subst ht9
    obtain ⟨G3, _⟩ := u9_
    replace hW : GW z ad G3 t9.heap := hW9
    have hg1 : G3 1 0 = some _ := hJ.1 _ _ _ (by simp) (hE _ _ _ (kr_1 (z := z) (ad := ad) (N := N) (X := X) (s := u3)))
    refine nb_aastr (r := (RX3, TX3, 5)) hA hx hb hK hW hS 2 hg1 rfl hJ.2.1 rfl (inb_in g6.1) dX7_pan_42 (fun H locs hW hS => ?_)
    rw [show (v5 : Int32).toNatClampNeg = N 12 from g6.2] at hW
    refine lv_aload_n hx hb dX7_pan_43 rfl (lv_at hl 1 rfl) ?_
    refine lv_dup hx hb dX7_pan_44 rfl ?_
    have hg0 : ∀ e9, up2 G3 1 0 e9 0 0 = some _ := fun e9 => (up2_ne (by simp)).trans (hJ.1 _ _ _ (by simp) (hE _ _ _ (kr_0 (z := z) (ad := ad) (N := N) (X := X) (s := u3))))
    refine nb_get hx hb hT hK hown hW fl_X7_80 (hg0 _) (v := .int (u3 0 0 0)) rfl dX7_pan_45 ?_
    refine lv_iconst (v := 1) hx hb dX7_pan_48 (by decide) ?_
    refine lv_iadd hx hb dX7_pan_49 ?_
    refine nb_put hx hb hT hK hown hW hS fl_X7_80 tyX7 tyX7_ok nmX7 (hg0 _) (v := .int ((u3 0 0 0) + 1)) rfl rfl rfl (Nat.le_of_ble_eq_true rfl) rfl dX7_pan_50 (fun H locs hW hS => ?_)
    obtain ⟨ad2, hd, hW⟩ := mkPan_w hA hnb hE hJ hF g7 (by have h1 := inb_lt g6.1; rw [g6.2] at h1; exact h1) hW
    obtain ⟨u8, eu8, h⟩ := nm_s h
    rw [← eu8] at hW
    rw [← hd 0 0 (by simp)] at hl
    obtain ⟨ad, hd9⟩ : ∃ q : Ad, q = ad2 := ⟨_, rfl⟩
    rw [← hd9] at hl hW hd
    obtain ⟨N, hN9⟩ : ∃ q : Nt, q = Nup N 12 := ⟨_, rfl⟩
    rw [← hN9] at hW
    refine lv_aload_n hx hb dX7_pan_53 rfl (lv_at hl 1 rfl) ?_
    refine lv_dup hx hb dX7_pan_54 rfl ?_
    refine nb_get hx hb hT hK hown hW fl_X7_55 kr_0 (v := .int (u8 3 0 0)) rfl dX7_pan_55 ?_
    refine lv_bipush (v := 40) hx hb dX7_pan_58 (by decide) ?_
    refine lv_isub hx hb dX7_pan_60 ?_
    obtain ⟨u09, eu09, h⟩ := nm_s h
    refine nb_put hx hb hT hK hown hW hS fl_X7_55 tyX7 tyX7_ok nmX7 kr_0 (v := .int ((u8 3 0 0) - 40)) rfl rfl rfl (Nat.le_of_ble_eq_true rfl) ((gp_3).trans (congrArg (GC z ad N X) eu09.symm)) dX7_pan_61 (fun H locs hW hS => ?_)
    refine lv_iload_n hx hb dX7_pan_64 rfl (lv_at hl 0 rfl) ?_
    subst hN9
    exact ne_mret (GN := fun ad u => GC z ad (Nup _ 12) X u) hx hb hr rfl hlocks hW hS dX7_pan_65 h (fun a b hq => by rw [hd a b hq])
  · replace h := ite_f h c4
    exact absurd h (by intro q; cases q)
/-- Panyard.requirePan -/
def f_X7_requirePan (N : Nt) (u : St) (x1 : Int32) : Option (Except String Unit × St) :=
  sb (f_X7_isWithin N u x1 0 ((u 0 0 0) - 1)) fun r1 u3 =>
  if r1 = 0 then
    some (.error "java/lang/IndexOutOfBoundsException", u3)
  else
    some (.ok (), u3)
set_option maxRecDepth 100000 in
set_option maxHeartbeats 4000000 in
theorem c_X7_requirePan (l : Launch) (z : Zt) (ad : Ad) (N : Nt) (X : Gt) (u : St) (x1 : Int32) {r9 : Unit} {u9 : St} (h : f_X7_requirePan N u x1 = some (.ok r9, u9)) : MC l z yX7_requirePan cX7_requirePan 2 none { frames := 1, cells := 0, slots := 0, locals := 22 } 0 0 [.ref (ad 0 0), .int x1] ad (GC z ad N X u) (QV z ad (GC z ad N X u9)) := by
  refine Met.ofW (cc := cX7_requirePan) (maxL := 2) (ret := none) (by decide) rfl ?_
  intro p e s m args below meth c s₁ B hml hv
  obtain ⟨rfl, hSW, hW⟩ := hv
  have hx := B.exec; have hb := B.bytes; have hr := B.returns; have hlocks := B.notSynchronized
  have hown : s.vm.findClass RX7 = some m.cls := findClass_of_methodNamed B.named
  obtain ⟨hT, hK, hST, hB0⟩ := id hSW
  have hS : va_S (zA z) s.heap s.heap [] := va_S.rf
  have hl := lv_entry ([.ref (ad 0 0), .int x1]) (n := 2) (Nat.le_of_ble_eq_true rfl)
  rw [lg_entry_eq]
  generalize (lg_sl ([.ref (ad 0 0), .int x1]) ++ List.replicate (2 - (lg_sl ([.ref (ad 0 0), .int x1])).length) Slot.unset).toArray = ls at hl ⊢
  have hl : lv_has ls 2 [(0, .ref (ad 0 0)), (1, .int x1)] := hl
  unfold f_X7_requirePan at h
  refine lv_iload_n hx hb dX7_requirePan_0 rfl (lv_at hl 1 rfl) ?_
  refine lv_iconst (v := 0) hx hb dX7_requirePan_1 (by decide) ?_
  refine lv_aload_n hx hb dX7_requirePan_2 rfl (lv_at hl 0 rfl) ?_
  refine nb_get hx hb hT hK hown hW fl_X7_80 kr_0 (v := .int (u 0 0 0)) rfl dX7_requirePan_3 ?_
  refine lv_iconst (v := 1) hx hb dX7_requirePan_6 (by decide) ?_
  refine lv_isub hx hb dX7_requirePan_7 ?_
  obtain ⟨r1, u3, h2, h⟩ := sb_s h
  refine nb_ci (nb_runS (As := [.int x1, .int 0, .int ((u 0 0 0) - 1)]) (rest := []) hx hb hml hown hSW hS hW (c_X7_isWithin l z ad N X u x1 0 ((u 0 0 0) - 1) h2) mf_X7_isWithin lk_X7_96 rfl ⟨rfl, rfl⟩ ⟨Nat.le_of_ble_eq_true rfl, Nat.le_of_ble_eq_true rfl⟩ hl.1 (Nat.le_of_ble_eq_true rfl) dX7_requirePan_8 ⟨Nat.le_of_ble_eq_true rfl, Nat.le_of_ble_eq_true rfl⟩) hS (fun H locs (hW : GW z ad (GC z ad N X u3) H) hS => ?_)
  refine lv_if_ne (tgt := 25) hx hb dX7_requirePan_11 (by decide) (fun c4 => ?_) (fun c4 => ?_)
  · replace h := ite_f h c4
    exact ne_vretX hx hb hr hlocks hW hS dX7_requirePan_25 h
  · replace h := ite_t h c4
    exact absurd h (by intro q; cases q)
/-- Panyard.requireNote -/
def f_X7_requireNote (N : Nt) (u : St) (x0 : Int32) : Option (Except String Unit × St) :=
  sb (f_X7_isWithin N u x0 0 7) fun r1 u3 =>
  if r1 = 0 then
    some (.error "java/lang/IndexOutOfBoundsException", u3)
  else
    some (.ok (), u3)
set_option maxRecDepth 100000 in
set_option maxHeartbeats 4000000 in
theorem c_X7_requireNote (l : Launch) (z : Zt) (ad : Ad) (N : Nt) (X : Gt) (u : St) (x0 : Int32) {r9 : Unit} {u9 : St} (h : f_X7_requireNote N u x0 = some (.ok r9, u9)) : MC l z yX7_requireNote cX7_requireNote 1 none { frames := 1, cells := 0, slots := 0, locals := 22 } 0 0 [.int x0] ad (GC z ad N X u) (QV z ad (GC z ad N X u9)) := by
  refine Met.ofW (cc := cX7_requireNote) (maxL := 1) (ret := none) (by decide) rfl ?_
  intro p e s m args below meth c s₁ B hml hv
  obtain ⟨rfl, hSW, hW⟩ := hv
  have hx := B.exec; have hb := B.bytes; have hr := B.returns; have hlocks := B.notSynchronized
  have hown : s.vm.findClass RX7 = some m.cls := findClass_of_methodNamed B.named
  obtain ⟨hT, hK, hST, hB0⟩ := id hSW
  have hS : va_S (zA z) s.heap s.heap [] := va_S.rf
  have hl := lv_entry ([.int x0]) (n := 1) (Nat.le_of_ble_eq_true rfl)
  rw [lg_entry_eq]
  generalize (lg_sl ([.int x0]) ++ List.replicate (1 - (lg_sl ([.int x0])).length) Slot.unset).toArray = ls at hl ⊢
  have hl : lv_has ls 1 [(0, .int x0)] := hl
  unfold f_X7_requireNote at h
  refine lv_iload_n hx hb dX7_requireNote_0 rfl (lv_at hl 0 rfl) ?_
  refine lv_iconst (v := 0) hx hb dX7_requireNote_1 (by decide) ?_
  refine lv_bipush (v := 7) hx hb dX7_requireNote_2 (by decide) ?_
  obtain ⟨r1, u3, h2, h⟩ := sb_s h
  refine nb_ci (nb_runS (As := [.int x0, .int 0, .int 7]) (rest := []) hx hb hml hown hSW hS hW (c_X7_isWithin l z ad N X u x0 0 7 h2) mf_X7_isWithin lk_X7_96 rfl ⟨rfl, rfl⟩ ⟨Nat.le_of_ble_eq_true rfl, Nat.le_of_ble_eq_true rfl⟩ hl.1 (Nat.le_of_ble_eq_true rfl) dX7_requireNote_4 ⟨Nat.le_of_ble_eq_true rfl, Nat.le_of_ble_eq_true rfl⟩) hS (fun H locs (hW : GW z ad (GC z ad N X u3) H) hS => ?_)
  refine lv_if_ne (tgt := 21) hx hb dX7_requireNote_7 (by decide) (fun c4 => ?_) (fun c4 => ?_)
  · replace h := ite_f h c4
    exact ne_vretX hx hb hr hlocks hW hS dX7_requireNote_21 h
  · replace h := ite_t h c4
    exact absurd h (by intro q; cases q)
/-- Panyard$Pan.isCracked -/
def f_X3_isCracked (N : Nt) (u : St) (k0 : Nat) : Option (Int32 × St) :=
  if (u 12 k0 0) < 300 then
    some (0, u)
  else
    some (1, u)
set_option maxRecDepth 100000 in
set_option maxHeartbeats 4000000 in
theorem c_X3_isCracked (l : Launch) (z : Zt) (ad : Ad) (N : Nt) (X : Gt) (u : St) (k0 : Nat) (hk0 : vPan N k0) {r9 : Int32} {u9 : St} (h : f_X3_isCracked N u k0 = some (r9, u9)) : MC l z yX3_isCracked cX3_isCracked 1 (some .boolean) { frames := 0, cells := 0, slots := 0, locals := 0 } 0 0 [.ref (ad 12 k0)] ad (GC z ad N X u) (QI z ad (GC z ad N X u9) r9) := by
  refine Met.ofW (cc := cX3_isCracked) (maxL := 1) (ret := (some .boolean)) (by decide) rfl ?_
  intro p e s m args below meth c s₁ B hml hv
  obtain ⟨rfl, hSW, hW⟩ := hv
  have hx := B.exec; have hb := B.bytes; have hr := B.returns; have hlocks := B.notSynchronized
  have hown : s.vm.findClass RX3 = some m.cls := findClass_of_methodNamed B.named
  obtain ⟨hT, hK, hST, hB0⟩ := id hSW
  have hS : va_S (zA z) s.heap s.heap [] := va_S.rf
  have hl := lv_entry ([.ref (ad 12 k0)]) (n := 1) (Nat.le_of_ble_eq_true rfl)
  rw [lg_entry_eq]
  generalize (lg_sl ([.ref (ad 12 k0)]) ++ List.replicate (1 - (lg_sl ([.ref (ad 12 k0)])).length) Slot.unset).toArray = ls at hl ⊢
  have hl : lv_has ls 1 [(0, .ref (ad 12 k0))] := hl
  unfold f_X3_isCracked at h
  refine lv_aload_n hx hb dX3_isCracked_0 rfl (lv_at hl 0 rfl) ?_
  refine nb_get hx hb hT hK hown hW fl_X3_22 (kr_12 hk0) (v := .int (u 12 k0 0)) rfl dX3_isCracked_1 ?_
  refine lv_sipush (v := 300) hx hb dX3_isCracked_4 (by decide) ?_
  refine lv_icmp_lt (tgt := 14) hx hb dX3_isCracked_7 (by decide) (fun c1 => ?_) (fun c1 => ?_)
  · replace h := ite_t h c1
    refine lv_iconst (v := 0) hx hb dX3_isCracked_14 (by decide) ?_
    exact ne_iret hx hb hr rfl hlocks hW hS dX3_isCracked_15 h
  · replace h := ite_f h c1
    refine lv_iconst (v := 1) hx hb dX3_isCracked_10 (by decide) ?_
    refine lv_goto (tgt := 15) hx hb dX3_isCracked_11 (by decide) ?_
    exact ne_iret hx hb hr rfl hlocks hW hS dX3_isCracked_15 h
/-- Panyard.requireWhole -/
def f_X7_requireWhole (N : Nt) (u : St) (x1 : Int32) : Option (Except String Unit × St) :=
  gd (inb x1 6) <|
  gd ((ix x1) < N 12) <|
  sb (f_X3_isCracked N u (ix x1)) fun r3 u5 =>
  if r3 = 0 then
    some (.ok (), u5)
  else
    some (.error "java/lang/IllegalStateException", u5)
set_option maxRecDepth 100000 in
set_option maxHeartbeats 4000000 in
theorem c_X7_requireWhole (l : Launch) (z : Zt) (ad : Ad) (N : Nt) (X : Gt) (u : St) (x1 : Int32) {r9 : Unit} {u9 : St} (h : f_X7_requireWhole N u x1 = some (.ok r9, u9)) : MC l z yX7_requireWhole cX7_requireWhole 2 none { frames := 1, cells := 0, slots := 0, locals := 20 } 0 0 [.ref (ad 0 0), .int x1] ad (GC z ad N X u) (QV z ad (GC z ad N X u9)) := by
  refine Met.ofW (cc := cX7_requireWhole) (maxL := 2) (ret := none) (by decide) rfl ?_
  intro p e s m args below meth c s₁ B hml hv
  obtain ⟨rfl, hSW, hW⟩ := hv
  have hx := B.exec; have hb := B.bytes; have hr := B.returns; have hlocks := B.notSynchronized
  have hown : s.vm.findClass RX7 = some m.cls := findClass_of_methodNamed B.named
  obtain ⟨hT, hK, hST, hB0⟩ := id hSW
  have hS : va_S (zA z) s.heap s.heap [] := va_S.rf
  have hl := lv_entry ([.ref (ad 0 0), .int x1]) (n := 2) (Nat.le_of_ble_eq_true rfl)
  rw [lg_entry_eq]
  generalize (lg_sl ([.ref (ad 0 0), .int x1]) ++ List.replicate (2 - (lg_sl ([.ref (ad 0 0), .int x1])).length) Slot.unset).toArray = ls at hl ⊢
  have hl : lv_has ls 2 [(0, .ref (ad 0 0)), (1, .int x1)] := hl
  unfold f_X7_requireWhole at h
  refine lv_aload_n hx hb dX7_requireWhole_0 rfl (lv_at hl 0 rfl) ?_
  refine nb_get hx hb hT hK hown hW fl_X7_11 kr_0 (v := .ref (ad 1 0)) rfl dX7_requireWhole_1 ?_
  refine lv_iload_n hx hb dX7_requireWhole_4 rfl (lv_at hl 1 rfl) ?_
  obtain ⟨g1, h⟩ := gd_s h
  obtain ⟨g2, h⟩ := gd_s h
  refine nb_aald hx hb hK hW 2 kr_1 rfl rfl (inb_in g1) (a := ad 12 (ix x1)) (qrow_at g2) dX7_requireWhole_5 ?_
  obtain ⟨r3, u5, h4, h⟩ := sb_s h
  refine nb_ci (nb_runV (As := []) (rest := []) hx hb hml hown hSW hS hW (c_X3_isCracked l z ad N X u (ix x1) (Or.inl g2) h4) mf_X3_isCracked lk_X7_315 (kr_12 (Or.inl g2)) rfl rfl ⟨rfl, rfl⟩ ⟨Nat.le_of_ble_eq_true rfl, Nat.le_of_ble_eq_true rfl⟩ hl.1 (Nat.le_of_ble_eq_true rfl) dX7_requireWhole_6 ⟨Nat.le_of_ble_eq_true rfl, Nat.le_of_ble_eq_true rfl⟩) hS (fun H locs (hW : GW z ad (GC z ad N X u5) H) hS => ?_)
  refine lv_if_eq (tgt := 23) hx hb dX7_requireWhole_9 (by decide) (fun c6 => ?_) (fun c6 => ?_)
  · replace h := ite_t h c6
    exact ne_vretX hx hb hr hlocks hW hS dX7_requireWhole_23 h
  · replace h := ite_f h c6
    exact absurd h (by intro q; cases q)
/-- Panyard.held -/
def f_X7_held (N : Nt) (u : St) (x0 : Int32) (x1 : Int32) (x2 : Int32) : Option (Int32 × St) :=
  if x1 ≤ x0 then
    if x0 ≤ x2 then
      some (x0, u)
    else
      some (x2, u)
  else
    some (x1, u)
set_option maxRecDepth 100000 in
set_option maxHeartbeats 4000000 in
theorem c_X7_held (l : Launch) (z : Zt) (ad : Ad) (N : Nt) (X : Gt) (u : St) (x0 : Int32) (x1 : Int32) (x2 : Int32) {r9 : Int32} {u9 : St} (h : f_X7_held N u x0 x1 x2 = some (r9, u9)) : MC l z yX7_held cX7_held 3 (some .int) { frames := 0, cells := 0, slots := 0, locals := 0 } 0 0 [.int x0, .int x1, .int x2] ad (GC z ad N X u) (QI z ad (GC z ad N X u9) r9) := by
  refine Met.ofW (cc := cX7_held) (maxL := 3) (ret := (some .int)) (by decide) rfl ?_
  intro p e s m args below meth c s₁ B hml hv
  obtain ⟨rfl, hSW, hW⟩ := hv
  have hx := B.exec; have hb := B.bytes; have hr := B.returns; have hlocks := B.notSynchronized
  have hown : s.vm.findClass RX7 = some m.cls := findClass_of_methodNamed B.named
  obtain ⟨hT, hK, hST, hB0⟩ := id hSW
  have hS : va_S (zA z) s.heap s.heap [] := va_S.rf
  have hl := lv_entry ([.int x0, .int x1, .int x2]) (n := 3) (Nat.le_of_ble_eq_true rfl)
  rw [lg_entry_eq]
  generalize (lg_sl ([.int x0, .int x1, .int x2]) ++ List.replicate (3 - (lg_sl ([.int x0, .int x1, .int x2])).length) Slot.unset).toArray = ls at hl ⊢
  have hl : lv_has ls 3 [(0, .int x0), (1, .int x1), (2, .int x2)] := hl
  unfold f_X7_held at h
  refine lv_iload_n hx hb dX7_held_0 rfl (lv_at hl 0 rfl) ?_
  refine lv_iload_n hx hb dX7_held_1 rfl (lv_at hl 1 rfl) ?_
  refine lv_icmp_ge (tgt := 7) hx hb dX7_held_2 (by decide) (fun c1 => ?_) (fun c1 => ?_)
  · replace h := ite_t h c1
    refine lv_iload_n hx hb dX7_held_7 rfl (lv_at hl 0 rfl) ?_
    refine lv_iload_n hx hb dX7_held_8 rfl (lv_at hl 2 rfl) ?_
    refine lv_icmp_le (tgt := 16) hx hb dX7_held_9 (by decide) (fun c2 => ?_) (fun c2 => ?_)
    · replace h := ite_t h c2
      refine lv_iload_n hx hb dX7_held_16 rfl (lv_at hl 0 rfl) ?_
      exact ne_iret hx hb hr rfl hlocks hW hS dX7_held_17 h
    · replace h := ite_f h c2
      refine lv_iload_n hx hb dX7_held_12 rfl (lv_at hl 2 rfl) ?_
      refine lv_goto (tgt := 17) hx hb dX7_held_13 (by decide) ?_
      exact ne_iret hx hb hr rfl hlocks hW hS dX7_held_17 h
  · replace h := ite_f h c1
    refine lv_iload_n hx hb dX7_held_5 rfl (lv_at hl 1 rfl) ?_
    exact ne_iret hx hb hr rfl hlocks hW hS dX7_held_6 h
/-- Panyard$Pan.shift -/
def f_X3_shift (N : Nt) (u : St) (k0 : Nat) (x1 : Int32) (x2 : Int32) : Option (Unit × St) :=
  gd (inb x1 8) <|
  sb (f_X7_held N u ((u 14 k0 (ix x1)) + x2) (-99) 99) fun r2 u4 =>
  nm (sset u4 14 k0 (ix x1) r2) fun u5 =>
  some ((), u5)
set_option maxRecDepth 100000 in
set_option maxHeartbeats 4000000 in
theorem c_X3_shift (l : Launch) (z : Zt) (ad : Ad) (N : Nt) (X : Gt) (u : St) (k0 : Nat) (x1 : Int32) (x2 : Int32) (hk0 : vPan N k0) {r9 : Unit} {u9 : St} (h : f_X3_shift N u k0 x1 x2 = some (r9, u9)) : MC l z yX3_shift cX3_shift 3 none { frames := 1, cells := 0, slots := 0, locals := 22 } 0 0 [.ref (ad 12 k0), .int x1, .int x2] ad (GC z ad N X u) (QV z ad (GC z ad N X u9)) := by
  refine Met.ofW (cc := cX3_shift) (maxL := 3) (ret := none) (by decide) rfl ?_
  intro p e s m args below meth c s₁ B hml hv
  obtain ⟨rfl, hSW, hW⟩ := hv
  have hx := B.exec; have hb := B.bytes; have hr := B.returns; have hlocks := B.notSynchronized
  have hown : s.vm.findClass RX3 = some m.cls := findClass_of_methodNamed B.named
  obtain ⟨hT, hK, hST, hB0⟩ := id hSW
  have hS : va_S (zA z) s.heap s.heap [] := va_S.rf
  have hl := lv_entry ([.ref (ad 12 k0), .int x1, .int x2]) (n := 3) (Nat.le_of_ble_eq_true rfl)
  rw [lg_entry_eq]
  generalize (lg_sl ([.ref (ad 12 k0), .int x1, .int x2]) ++ List.replicate (3 - (lg_sl ([.ref (ad 12 k0), .int x1, .int x2])).length) Slot.unset).toArray = ls at hl ⊢
  have hl : lv_has ls 3 [(0, .ref (ad 12 k0)), (1, .int x1), (2, .int x2)] := hl
  unfold f_X3_shift at h
  refine lv_aload_n hx hb dX3_shift_0 rfl (lv_at hl 0 rfl) ?_
  refine nb_get hx hb hT hK hown hW fl_X3_9 (kr_12 hk0) (v := .ref (ad 13 k0)) rfl dX3_shift_1 ?_
  refine lv_iload_n hx hb dX3_shift_4 rfl (lv_at hl 1 rfl) ?_
  refine lv_aload_n hx hb dX3_shift_5 rfl (lv_at hl 0 rfl) ?_
  refine nb_get hx hb hT hK hown hW fl_X3_9 (kr_12 hk0) (v := .ref (ad 13 k0)) rfl dX3_shift_6 ?_
  refine lv_iload_n hx hb dX3_shift_9 rfl (lv_at hl 1 rfl) ?_
  obtain ⟨g1, h⟩ := gd_s h
  refine nb_iald hx hb hK hW 0 (kr_13 hk0) rfl (inb_in g1) dX3_shift_10 ?_
  refine lv_iload_n hx hb dX3_shift_11 rfl (lv_at hl 2 rfl) ?_
  refine lv_iadd hx hb dX3_shift_12 ?_
  refine lv_bipush (v := (-99)) hx hb dX3_shift_13 (by decide) ?_
  refine lv_bipush (v := 99) hx hb dX3_shift_15 (by decide) ?_
  obtain ⟨r2, u4, h3, h⟩ := sb_s h
  refine nb_ci (nb_runS (As := [.int ((u 14 k0 (ix x1)) + x2), .int (-99), .int 99]) (rest := [.int x1, .ref (ad 13 k0)]) hx hb hml hown hSW hS hW (c_X7_held l z ad N X u ((u 14 k0 (ix x1)) + x2) (-99) 99 h3) mf_X7_held lk_X3_53 rfl ⟨rfl, rfl⟩ ⟨Nat.le_of_ble_eq_true rfl, Nat.le_of_ble_eq_true rfl⟩ hl.1 (Nat.le_of_ble_eq_true rfl) dX3_shift_17 ⟨Nat.le_of_ble_eq_true rfl, Nat.le_of_ble_eq_true rfl⟩) hS (fun H locs (hW : GW z ad (GC z ad N X u4) H) hS => ?_)
  obtain ⟨u5, eu5, h⟩ := nm_s h
  refine nb_iast hx hb hK hW hS 0 (kr_13 hk0) rfl (inb_in g1) ((gp_14 hk0).trans (congrArg (GC z ad N X) eu5.symm)) dX3_shift_20 (fun H locs hW hS => ?_)
  exact ne_vret hx hb hr hlocks hW hS dX3_shift_21 h
/-- Panyard$Pan.strike -/
def f_X3_strike (N : Nt) (u : St) (k0 : Nat) (x1 : Int32) (x2 : Int32) : Option (Unit × St) :=
  sb (f_X3_shift N u k0 x1 x2) fun r1 u3 =>
  nm (irem (x1 + 1) 8) fun v4 =>
  sb (f_X3_shift N u3 k0 v4 (-(x2 / 4))) fun r5 u7 =>
  nm (irem ((x1 + 8) - 1) 8) fun v8 =>
  sb (f_X3_shift N u7 k0 v8 (-(x2 / 4))) fun r09 u11 =>
  nm (mabs x2) fun v12 =>
  nm (sset u11 12 k0 0 ((u11 12 k0 0) + v12)) fun u13 =>
  nm (sset u13 13 k0 0 ((u13 13 k0 0) + 1)) fun u14 =>
  some ((), u14)
set_option maxRecDepth 100000 in
set_option maxHeartbeats 4000000 in
theorem c_X3_strike (l : Launch) (z : Zt) (ad : Ad) (N : Nt) (X : Gt) (u : St) (k0 : Nat) (x1 : Int32) (x2 : Int32) (hk0 : vPan N k0) {r9 : Unit} {u9 : St} (h : f_X3_strike N u k0 x1 x2 = some (r9, u9)) : MC l z yX3_strike cX3_strike 3 none { frames := 2, cells := 0, slots := 0, locals := 44 } 0 0 [.ref (ad 12 k0), .int x1, .int x2] ad (GC z ad N X u) (QV z ad (GC z ad N X u9)) := by
  refine Met.ofW (cc := cX3_strike) (maxL := 3) (ret := none) (by decide) rfl ?_
  intro p e s m args below meth c s₁ B hml hv
  obtain ⟨rfl, hSW, hW⟩ := hv
  have hx := B.exec; have hb := B.bytes; have hr := B.returns; have hlocks := B.notSynchronized
  have hown : s.vm.findClass RX3 = some m.cls := findClass_of_methodNamed B.named
  obtain ⟨hT, hK, hST, hB0⟩ := id hSW
  have hS : va_S (zA z) s.heap s.heap [] := va_S.rf
  have hl := lv_entry ([.ref (ad 12 k0), .int x1, .int x2]) (n := 3) (Nat.le_of_ble_eq_true rfl)
  rw [lg_entry_eq]
  generalize (lg_sl ([.ref (ad 12 k0), .int x1, .int x2]) ++ List.replicate (3 - (lg_sl ([.ref (ad 12 k0), .int x1, .int x2])).length) Slot.unset).toArray = ls at hl ⊢
  have hl : lv_has ls 3 [(0, .ref (ad 12 k0)), (1, .int x1), (2, .int x2)] := hl
  unfold f_X3_strike at h
  refine lv_aload_n hx hb dX3_strike_0 rfl (lv_at hl 0 rfl) ?_
  refine lv_iload_n hx hb dX3_strike_1 rfl (lv_at hl 1 rfl) ?_
  refine lv_iload_n hx hb dX3_strike_2 rfl (lv_at hl 2 rfl) ?_
  obtain ⟨r1, u3, h2, h⟩ := sb_s h
  refine nb_cv (nb_runV (As := [.int x1, .int x2]) (rest := []) hx hb hml hown hSW hS hW (c_X3_shift l z ad N X u k0 x1 x2 hk0 h2) mf_X3_shift lk_X3_57 (kr_12 hk0) rfl rfl ⟨rfl, rfl⟩ ⟨Nat.le_of_ble_eq_true rfl, Nat.le_of_ble_eq_true rfl⟩ hl.1 (Nat.le_of_ble_eq_true rfl) dX3_strike_3 ⟨Nat.le_of_ble_eq_true rfl, Nat.le_of_ble_eq_true rfl⟩) hS (fun H locs (hW : GW z ad (GC z ad N X u3) H) hS => ?_)
  refine lv_aload_n hx hb dX3_strike_6 rfl (lv_at hl 0 rfl) ?_
  refine lv_iload_n hx hb dX3_strike_7 rfl (lv_at hl 1 rfl) ?_
  refine lv_iconst (v := 1) hx hb dX3_strike_8 (by decide) ?_
  refine lv_iadd hx hb dX3_strike_9 ?_
  refine lv_bipush (v := 8) hx hb dX3_strike_10 (by decide) ?_
  refine lv_irem hx hb dX3_strike_12 (by decide) ?_
  refine lv_topi (fun v4 ev4 => ?_)
  replace h := nm_at ev4 h
  refine lv_iload_n hx hb dX3_strike_13 rfl (lv_at hl 2 rfl) ?_
  refine lv_iconst (v := 4) hx hb dX3_strike_14 (by decide) ?_
  refine lv_idiv hx hb dX3_strike_15 (by decide) ?_
  refine lv_ineg hx hb dX3_strike_16 ?_
  obtain ⟨r5, u7, h6, h⟩ := sb_s h
  refine nb_cv (nb_runV (As := [.int v4, .int (-(x2 / 4))]) (rest := []) hx hb hml hown hSW hS hW (c_X3_shift l z ad N X u3 k0 v4 (-(x2 / 4)) hk0 h6) mf_X3_shift lk_X3_57 (kr_12 hk0) rfl rfl ⟨rfl, rfl⟩ ⟨Nat.le_of_ble_eq_true rfl, Nat.le_of_ble_eq_true rfl⟩ hl.1 (Nat.le_of_ble_eq_true rfl) dX3_strike_17 ⟨Nat.le_of_ble_eq_true rfl, Nat.le_of_ble_eq_true rfl⟩) hS (fun H locs (hW : GW z ad (GC z ad N X u7) H) hS => ?_)
  refine lv_aload_n hx hb dX3_strike_20 rfl (lv_at hl 0 rfl) ?_
  refine lv_iload_n hx hb dX3_strike_21 rfl (lv_at hl 1 rfl) ?_
  refine lv_bipush (v := 8) hx hb dX3_strike_22 (by decide) ?_
  refine lv_iadd hx hb dX3_strike_24 ?_
  refine lv_iconst (v := 1) hx hb dX3_strike_25 (by decide) ?_
  refine lv_isub hx hb dX3_strike_26 ?_
  refine lv_bipush (v := 8) hx hb dX3_strike_27 (by decide) ?_
  refine lv_irem hx hb dX3_strike_29 (by decide) ?_
  refine lv_topi (fun v8 ev8 => ?_)
  replace h := nm_at ev8 h
  refine lv_iload_n hx hb dX3_strike_30 rfl (lv_at hl 2 rfl) ?_
  refine lv_iconst (v := 4) hx hb dX3_strike_31 (by decide) ?_
  refine lv_idiv hx hb dX3_strike_32 (by decide) ?_
  refine lv_ineg hx hb dX3_strike_33 ?_
  obtain ⟨r09, u11, h10, h⟩ := sb_s h
  refine nb_cv (nb_runV (As := [.int v8, .int (-(x2 / 4))]) (rest := []) hx hb hml hown hSW hS hW (c_X3_shift l z ad N X u7 k0 v8 (-(x2 / 4)) hk0 h10) mf_X3_shift lk_X3_57 (kr_12 hk0) rfl rfl ⟨rfl, rfl⟩ ⟨Nat.le_of_ble_eq_true rfl, Nat.le_of_ble_eq_true rfl⟩ hl.1 (Nat.le_of_ble_eq_true rfl) dX3_strike_34 ⟨Nat.le_of_ble_eq_true rfl, Nat.le_of_ble_eq_true rfl⟩) hS (fun H locs (hW : GW z ad (GC z ad N X u11) H) hS => ?_)
  refine lv_aload_n hx hb dX3_strike_37 rfl (lv_at hl 0 rfl) ?_
  refine lv_dup hx hb dX3_strike_38 rfl ?_
  refine nb_get hx hb hT hK hown hW fl_X3_22 (kr_12 hk0) (v := .int (u11 12 k0 0)) rfl dX3_strike_39 ?_
  refine lv_iload_n hx hb dX3_strike_42 rfl (lv_at hl 2 rfl) ?_
  refine nb_mabs hx hb hml hl.1 hown hT lm_X3_34 mf_Math_abs ⟨Nat.le_of_ble_eq_true rfl, Nat.le_of_ble_eq_true rfl⟩ ⟨Nat.le_of_ble_eq_true rfl, Nat.le_of_ble_eq_true rfl⟩ dX3_strike_43 ?_
  refine lv_topi (fun v12 ev12 => ?_)
  replace h := nm_at ev12 h
  refine lv_iadd hx hb dX3_strike_46 ?_
  obtain ⟨u13, eu13, h⟩ := nm_s h
  refine nb_put hx hb hT hK hown hW hS fl_X3_22 tyX3 tyX3_ok nmX3 (kr_12 hk0) (v := .int ((u11 12 k0 0) + v12)) rfl rfl rfl (Nat.le_of_ble_eq_true rfl) ((gp_12 hk0).trans (congrArg (GC z ad N X) eu13.symm)) dX3_strike_47 (fun H locs hW hS => ?_)
  refine lv_aload_n hx hb dX3_strike_50 rfl (lv_at hl 0 rfl) ?_
  refine lv_dup hx hb dX3_strike_51 rfl ?_
  refine nb_get hx hb hT hK hown hW fl_X3_25 (kr_12 hk0) (v := .int (u13 13 k0 0)) rfl dX3_strike_52 ?_
  refine lv_iconst (v := 1) hx hb dX3_strike_55 (by decide) ?_
  refine lv_iadd hx hb dX3_strike_56 ?_
  obtain ⟨u14, eu14, h⟩ := nm_s h
  refine nb_put hx hb hT hK hown hW hS fl_X3_25 tyX3 tyX3_ok nmX3 (kr_12 hk0) (v := .int ((u13 13 k0 0) + 1)) rfl rfl rfl (Nat.le_of_ble_eq_true rfl) ((gp_13 hk0).trans (congrArg (GC z ad N X) eu14.symm)) dX3_strike_57 (fun H locs hW hS => ?_)
  exact ne_vret hx hb hr hlocks hW hS dX3_strike_60 h
/-- Panyard.blow -/
def f_X7_blow (N : Nt) (u : St) (x1 : Int32) (x2 : Int32) (x3 : Int32) : Option (Except String Int32 × St) :=
  xb (f_X7_requirePan N u x1) fun r1 u3 =>
  xb (f_X7_requireNote N u3 x2) fun r4 u6 =>
  if x3 = 0 then
    some (.error "java/lang/IllegalArgumentException", u6)
  else
    sb (f_X7_isWithin N u6 x3 (-20) 20) fun r8 u10 =>
    if r8 = 0 then
      some (.error "java/lang/IllegalArgumentException", u10)
    else
      xb (f_X7_requireWhole N u10 x1) fun r12 u14 =>
      gd (inb x1 6) <|
      gd ((ix x1) < N 12) <|
      sb (f_X3_strike N u14 (ix x1) x2 x3) fun r17 u19 =>
      gd (inb x2 8) <|
      some (.ok (u19 14 (ix x1) (ix x2)), u19)
set_option maxRecDepth 100000 in
set_option maxHeartbeats 4000000 in
theorem c_X7_blow (l : Launch) (z : Zt) (ad : Ad) (N : Nt) (X : Gt) (u : St) (x1 : Int32) (x2 : Int32) (x3 : Int32) {r9 : Int32} {u9 : St} (h : f_X7_blow N u x1 x2 x3 = some (.ok r9, u9)) : MC l z yX7_blow cX7_blow 5 (some .int) { frames := 3, cells := 0, slots := 0, locals := 66 } 0 0 [.ref (ad 0 0), .int x1, .int x2, .int x3] ad (GC z ad N X u) (QI z ad (GC z ad N X u9) r9) := by
  refine Met.ofW (cc := cX7_blow) (maxL := 5) (ret := (some .int)) (by decide) rfl ?_
  intro p e s m args below meth c s₁ B hml hv
  obtain ⟨rfl, hSW, hW⟩ := hv
  have hx := B.exec; have hb := B.bytes; have hr := B.returns; have hlocks := B.notSynchronized
  have hown : s.vm.findClass RX7 = some m.cls := findClass_of_methodNamed B.named
  obtain ⟨hT, hK, hST, hB0⟩ := id hSW
  have hS : va_S (zA z) s.heap s.heap [] := va_S.rf
  have hl := lv_entry ([.ref (ad 0 0), .int x1, .int x2, .int x3]) (n := 5) (Nat.le_of_ble_eq_true rfl)
  rw [lg_entry_eq]
  generalize (lg_sl ([.ref (ad 0 0), .int x1, .int x2, .int x3]) ++ List.replicate (5 - (lg_sl ([.ref (ad 0 0), .int x1, .int x2, .int x3])).length) Slot.unset).toArray = ls at hl ⊢
  have hl : lv_has ls 5 [(0, .ref (ad 0 0)), (1, .int x1), (2, .int x2), (3, .int x3)] := hl
  unfold f_X7_blow at h
  refine lv_aload_n hx hb dX7_blow_0 rfl (lv_at hl 0 rfl) ?_
  refine lv_iload_n hx hb dX7_blow_1 rfl (lv_at hl 1 rfl) ?_
  obtain ⟨r1, u3, h2, h⟩ := xb_s h
  refine nb_cv (nb_runV (As := [.int x1]) (rest := []) hx hb hml hown hSW hS hW (c_X7_requirePan l z ad N X u x1 h2) mf_X7_requirePan lk_X7_90 kr_0 rfl rfl ⟨rfl, rfl⟩ ⟨Nat.le_of_ble_eq_true rfl, Nat.le_of_ble_eq_true rfl⟩ hl.1 (Nat.le_of_ble_eq_true rfl) dX7_blow_2 ⟨Nat.le_of_ble_eq_true rfl, Nat.le_of_ble_eq_true rfl⟩) hS (fun H locs (hW : GW z ad (GC z ad N X u3) H) hS => ?_)
  refine lv_iload_n hx hb dX7_blow_5 rfl (lv_at hl 2 rfl) ?_
  obtain ⟨r4, u6, h5, h⟩ := xb_s h
  refine nb_cv (nb_runS (As := [.int x2]) (rest := []) hx hb hml hown hSW hS hW (c_X7_requireNote l z ad N X u3 x2 h5) mf_X7_requireNote lk_X7_93 rfl ⟨rfl, rfl⟩ ⟨Nat.le_of_ble_eq_true rfl, Nat.le_of_ble_eq_true rfl⟩ hl.1 (Nat.le_of_ble_eq_true rfl) dX7_blow_6 ⟨Nat.le_of_ble_eq_true rfl, Nat.le_of_ble_eq_true rfl⟩) hS (fun H locs (hW : GW z ad (GC z ad N X u6) H) hS => ?_)
  refine lv_iload_n hx hb dX7_blow_9 rfl (lv_at hl 3 rfl) ?_
  refine lv_if_eq (tgt := 24) hx hb dX7_blow_10 (by decide) (fun c7 => ?_) (fun c7 => ?_)
  · replace h := ite_t h c7
    exact absurd h (by intro q; cases q)
  · replace h := ite_f h c7
    refine lv_iload_n hx hb dX7_blow_13 rfl (lv_at hl 3 rfl) ?_
    refine lv_bipush (v := (-20)) hx hb dX7_blow_14 (by decide) ?_
    refine lv_bipush (v := 20) hx hb dX7_blow_16 (by decide) ?_
    obtain ⟨r8, u10, h09, h⟩ := sb_s h
    refine nb_ci (nb_runS (As := [.int x3, .int (-20), .int 20]) (rest := []) hx hb hml hown hSW hS hW (c_X7_isWithin l z ad N X u6 x3 (-20) 20 h09) mf_X7_isWithin lk_X7_96 rfl ⟨rfl, rfl⟩ ⟨Nat.le_of_ble_eq_true rfl, Nat.le_of_ble_eq_true rfl⟩ hl.1 (Nat.le_of_ble_eq_true rfl) dX7_blow_18 ⟨Nat.le_of_ble_eq_true rfl, Nat.le_of_ble_eq_true rfl⟩) hS (fun H locs (hW : GW z ad (GC z ad N X u10) H) hS => ?_)
    refine lv_if_ne (tgt := 34) hx hb dX7_blow_21 (by decide) (fun c11 => ?_) (fun c11 => ?_)
    · replace h := ite_f h c11
      refine lv_aload_n hx hb dX7_blow_34 rfl (lv_at hl 0 rfl) ?_
      refine lv_iload_n hx hb dX7_blow_35 rfl (lv_at hl 1 rfl) ?_
      obtain ⟨r12, u14, h13, h⟩ := xb_s h
      refine nb_cv (nb_runV (As := [.int x1]) (rest := []) hx hb hml hown hSW hS hW (c_X7_requireWhole l z ad N X u10 x1 h13) mf_X7_requireWhole lk_X7_105 kr_0 rfl rfl ⟨rfl, rfl⟩ ⟨Nat.le_of_ble_eq_true rfl, Nat.le_of_ble_eq_true rfl⟩ hl.1 (Nat.le_of_ble_eq_true rfl) dX7_blow_36 ⟨Nat.le_of_ble_eq_true rfl, Nat.le_of_ble_eq_true rfl⟩) hS (fun H locs (hW : GW z ad (GC z ad N X u14) H) hS => ?_)
      refine lv_aload_n hx hb dX7_blow_39 rfl (lv_at hl 0 rfl) ?_
      refine nb_get hx hb hT hK hown hW fl_X7_11 kr_0 (v := .ref (ad 1 0)) rfl dX7_blow_40 ?_
      refine lv_iload_n hx hb dX7_blow_43 rfl (lv_at hl 1 rfl) ?_
      obtain ⟨g15, h⟩ := gd_s h
      obtain ⟨g16, h⟩ := gd_s h
      refine nb_aald hx hb hK hW 2 kr_1 rfl rfl (inb_in g15) (a := ad 12 (ix x1)) (qrow_at g16) dX7_blow_44 ?_
      refine lv_astore (lv' := [(4, .ref (ad 12 (ix x1))), (0, .ref (ad 0 0)), (1, .int x1), (2, .int x2), (3, .int x3)]) hx hb dX7_blow_45 hl (by decide) rfl (fun ls hl => ?_)
      refine lv_aload hx hb dX7_blow_47 (lv_at hl 0 rfl) ?_
      refine lv_iload_n hx hb dX7_blow_49 rfl (lv_at hl 3 rfl) ?_
      refine lv_iload_n hx hb dX7_blow_50 rfl (lv_at hl 4 rfl) ?_
      obtain ⟨r17, u19, h18, h⟩ := sb_s h
      refine nb_cv (nb_runV (As := [.int x2, .int x3]) (rest := []) hx hb hml hown hSW hS hW (c_X3_strike l z ad N X u14 (ix x1) x2 x3 (Or.inl g16) h18) mf_X3_strike lk_X7_108 (kr_12 (Or.inl g16)) rfl rfl ⟨rfl, rfl⟩ ⟨Nat.le_of_ble_eq_true rfl, Nat.le_of_ble_eq_true rfl⟩ hl.1 (Nat.le_of_ble_eq_true rfl) dX7_blow_51 ⟨Nat.le_of_ble_eq_true rfl, Nat.le_of_ble_eq_true rfl⟩) hS (fun H locs (hW : GW z ad (GC z ad N X u19) H) hS => ?_)
      refine lv_aload hx hb dX7_blow_54 (lv_at hl 0 rfl) ?_
      refine nb_get hx hb hT hK hown hW fl_X7_111 (kr_12 (Or.inl g16)) (v := .ref (ad 13 (ix x1))) rfl dX7_blow_56 ?_
      refine lv_iload_n hx hb dX7_blow_59 rfl (lv_at hl 3 rfl) ?_
      obtain ⟨g20, h⟩ := gd_s h
      refine nb_iald hx hb hK hW 0 (kr_13 (Or.inl g16)) rfl (inb_in g20) dX7_blow_60 ?_
      exact ne_iretX hx hb hr rfl hlocks hW hS dX7_blow_61 h
    · replace h := ite_t h c11
      exact absurd h (by intro q; cases q)
/-- Panyard$Pan.heat -/
def f_X3_heat_B32 (N : Nt) (k0 : Nat) (ih12 : Int32 → St → Option (Unit × St)) (y1 : Int32) (w0 : Int32) (w1 : Int32) (u : St) : Option (Unit × St) :=
  sb (f_X3_shift N u k0 w1 w0) fun r5 u7 =>
  nm (y1 + 1) fun v8 =>
  ih12 v8 u7
def f_X3_heat_L12b (N : Nt) (k0 : Nat) (ih12 : Int32 → St → Option (Unit × St)) (y1 : Int32) (u : St) : Option (Unit × St) :=
  if 8 ≤ y1 then
    some ((), u)
  else
    nm (irem y1 2) fun v3 =>
    if v3 = 0 then
      f_X3_heat_B32 N k0 ih12 y1 3 y1 u
    else
      f_X3_heat_B32 N k0 ih12 y1 (-3) y1 u
def f_X3_heat_L12 (N : Nt) (k0 : Nat) : Nat → Int32 → St → Option (Unit × St) := lp (fun _ _ => none) (f_X3_heat_L12b N k0)
def f_X3_heat (N : Nt) (u : St) (k0 : Nat) : Option (Unit × St) :=
  nm (sset u 12 k0 0 ((u 12 k0 0) / 2)) fun u1 =>
  f_X3_heat_L12 N k0 1000000 0 u1
set_option maxRecDepth 100000 in
set_option maxHeartbeats 4000000 in
theorem c_X3_heat (l : Launch) (z : Zt) (ad : Ad) (N : Nt) (X : Gt) (u : St) (k0 : Nat) (hk0 : vPan N k0) {r9 : Unit} {u9 : St} (h : f_X3_heat N u k0 = some (r9, u9)) : MC l z yX3_heat cX3_heat 2 none { frames := 2, cells := 0, slots := 0, locals := 44 } 0 0 [.ref (ad 12 k0)] ad (GC z ad N X u) (QV z ad (GC z ad N X u9)) := by
  refine Met.ofW (cc := cX3_heat) (maxL := 2) (ret := none) (by decide) rfl ?_
  intro p e s m args below meth c s₁ B hml hv
  obtain ⟨rfl, hSW, hW⟩ := hv
  have hx := B.exec; have hb := B.bytes; have hr := B.returns; have hlocks := B.notSynchronized
  have hown : s.vm.findClass RX3 = some m.cls := findClass_of_methodNamed B.named
  obtain ⟨hT, hK, hST, hB0⟩ := id hSW
  have hS : va_S (zA z) s.heap s.heap [] := va_S.rf
  have hl := lv_entry ([.ref (ad 12 k0)]) (n := 2) (Nat.le_of_ble_eq_true rfl)
  rw [lg_entry_eq]
  generalize (lg_sl ([.ref (ad 12 k0)]) ++ List.replicate (2 - (lg_sl ([.ref (ad 12 k0)])).length) Slot.unset).toArray = ls at hl ⊢
  have hl : lv_has ls 2 [(0, .ref (ad 12 k0))] := hl
  let WW : Heap → List Loc → JFrame → Prop := fun H locs g => W p l e (headSpec [Cond.code yX3_heat cX3_heat 2 none] { frames := 2, cells := 0, slots := 0, locals := 44 }).room s m [.ref (ad 12 k0)].toArray below meth c H locs 0 0 (MQ below (QV z ad (GC z ad N X u9)) [.ref (ad 12 k0)].toArray s 0 0 (zA z)) g
  have hB32 : ∀ (ih12 : Int32 → St → Option (Unit × St)) (hih12 : ∀ (y1 : Int32) (u : St) (H : Heap) (locs : List Loc) (ls : Array Slot), lv_has ls 2 [(1, .int y1), (0, .ref (ad 12 k0))] → GW z ad (GC z ad N X u) H → va_S (zA z) s.heap H locs → ih12 y1 u = some (r9, u9) → WW H locs (F0 m 12 ls [])), ∀ (y1 : Int32) (w0 : Int32) (w1 : Int32) (u : St) (H : Heap) (locs : List Loc) (ls : Array Slot), lv_has ls 2 [(1, .int y1), (0, .ref (ad 12 k0))] → GW z ad (GC z ad N X u) H → va_S (zA z) s.heap H locs → f_X3_heat_B32 N k0 ih12 y1 w0 w1 u = some (r9, u9) → WW H locs (F0 m 32 ls [.int w0, .int w1, .ref (ad 12 k0)]) := by
    intro ih12 hih12 y1 w0 w1 u H locs ls hl hW hS h
    change W p l e _ s m _ below meth c H locs 0 0 _ (F0 m 32 ls [.int w0, .int w1, .ref (ad 12 k0)])
    unfold f_X3_heat_B32 at h
    obtain ⟨r5, u7, h6, h⟩ := sb_s h
    refine nb_cv (nb_runV (As := [.int w1, .int w0]) (rest := []) hx hb hml hown hSW hS hW (c_X3_shift l z ad N X u k0 w1 w0 hk0 h6) mf_X3_shift lk_X3_57 (kr_12 hk0) rfl rfl ⟨rfl, rfl⟩ ⟨Nat.le_of_ble_eq_true rfl, Nat.le_of_ble_eq_true rfl⟩ hl.1 (Nat.le_of_ble_eq_true rfl) dX3_heat_32 ⟨Nat.le_of_ble_eq_true rfl, Nat.le_of_ble_eq_true rfl⟩) hS (fun H locs (hW : GW z ad (GC z ad N X u7) H) hS => ?_)
    obtain ⟨v8, ev8, h⟩ := nm_s h
    refine lv_iinc (v := v8) (lv' := [(1, .int v8), (0, .ref (ad 12 k0))]) hx hb dX3_heat_35 hl (k := 0) rfl (by rw [ev8]; rfl) (by decide) rfl (fun ls hl => ?_)
    refine lv_goto (tgt := 12) hx hb dX3_heat_38 (by decide) ?_
    exact hih12 _ _ _ _ _ (lv_sub hl [0, 1] rfl) hW hS h
  have hL12b : ∀ (ih12 : Int32 → St → Option (Unit × St)) (hih12 : ∀ (y1 : Int32) (u : St) (H : Heap) (locs : List Loc) (ls : Array Slot), lv_has ls 2 [(1, .int y1), (0, .ref (ad 12 k0))] → GW z ad (GC z ad N X u) H → va_S (zA z) s.heap H locs → ih12 y1 u = some (r9, u9) → WW H locs (F0 m 12 ls [])), ∀ (y1 : Int32) (u : St) (H : Heap) (locs : List Loc) (ls : Array Slot), lv_has ls 2 [(1, .int y1), (0, .ref (ad 12 k0))] → GW z ad (GC z ad N X u) H → va_S (zA z) s.heap H locs → f_X3_heat_L12b N k0 ih12 y1 u = some (r9, u9) → WW H locs (F0 m 12 ls []) := by
    intro ih12 hih12 y1 u H locs ls hl hW hS h
    change W p l e _ s m _ below meth c H locs 0 0 _ (F0 m 12 ls [])
    unfold f_X3_heat_L12b at h
    refine lv_iload_n hx hb dX3_heat_12 rfl (lv_at hl 0 rfl) ?_
    refine lv_bipush (v := 8) hx hb dX3_heat_13 (by decide) ?_
    refine lv_icmp_ge (tgt := 41) hx hb dX3_heat_15 (by decide) (fun c2 => ?_) (fun c2 => ?_)
    · replace h := ite_t h c2
      exact ne_vret hx hb hr hlocks hW hS dX3_heat_41 h
    · replace h := ite_f h c2
      refine lv_aload_n hx hb dX3_heat_18 rfl (lv_at hl 1 rfl) ?_
      refine lv_iload_n hx hb dX3_heat_19 rfl (lv_at hl 0 rfl) ?_
      refine lv_iload_n hx hb dX3_heat_20 rfl (lv_at hl 0 rfl) ?_
      refine lv_iconst (v := 2) hx hb dX3_heat_21 (by decide) ?_
      refine lv_irem hx hb dX3_heat_22 (by decide) ?_
      refine lv_topi (fun v3 ev3 => ?_)
      replace h := nm_at ev3 h
      refine lv_if_ne (tgt := 30) hx hb dX3_heat_23 (by decide) (fun c4 => ?_) (fun c4 => ?_)
      · replace h := ite_f h c4
        refine lv_bipush (v := (-3)) hx hb dX3_heat_30 (by decide) ?_
        exact hB32 ih12 hih12 _ _ _ _ _ _ _ (lv_sub hl [0, 1] rfl) hW hS h
      · replace h := ite_t h c4
        refine lv_iconst (v := 3) hx hb dX3_heat_26 (by decide) ?_
        refine lv_goto (tgt := 32) hx hb dX3_heat_27 (by decide) ?_
        exact hB32 ih12 hih12 _ _ _ _ _ _ _ (lv_sub hl [0, 1] rfl) hW hS h
  have hL12 : ∀ (n : Nat), ∀ (y1 : Int32) (u : St) (H : Heap) (locs : List Loc) (ls : Array Slot), lv_has ls 2 [(1, .int y1), (0, .ref (ad 12 k0))] → GW z ad (GC z ad N X u) H → va_S (zA z) s.heap H locs → f_X3_heat_L12 N k0 n y1 u = some (r9, u9) → WW H locs (F0 m 12 ls []) := by
    intro n
    induction n with
    | zero => intro y1 u H locs ls hl hW hS h; exact absurd h (by intro q; cases q)
    | succ n ihn => intro y1 u H locs ls hl hW hS h; exact hL12b (f_X3_heat_L12 N k0 n) ihn y1 u H locs ls hl hW hS h
  unfold f_X3_heat at h
  refine lv_aload_n hx hb dX3_heat_0 rfl (lv_at hl 0 rfl) ?_
  refine lv_dup hx hb dX3_heat_1 rfl ?_
  refine nb_get hx hb hT hK hown hW fl_X3_22 (kr_12 hk0) (v := .int (u 12 k0 0)) rfl dX3_heat_2 ?_
  refine lv_iconst (v := 2) hx hb dX3_heat_5 (by decide) ?_
  refine lv_idiv hx hb dX3_heat_6 (by decide) ?_
  obtain ⟨u1, eu1, h⟩ := nm_s h
  refine nb_put hx hb hT hK hown hW hS fl_X3_22 tyX3 tyX3_ok nmX3 (kr_12 hk0) (v := .int ((u 12 k0 0) / 2)) rfl rfl rfl (Nat.le_of_ble_eq_true rfl) ((gp_12 hk0).trans (congrArg (GC z ad N X) eu1.symm)) dX3_heat_7 (fun H locs hW hS => ?_)
  refine lv_iconst (v := 0) hx hb dX3_heat_10 (by decide) ?_
  refine lv_istore_n (lv' := [(1, .int 0), (0, .ref (ad 12 k0))]) hx hb dX3_heat_11 rfl hl (by decide) rfl (fun ls hl => ?_)
  exact hL12 1000000 _ _ _ _ _ (lv_sub hl [0, 1] rfl) hW hS h
/-- Panyard.burn -/
def f_X7_burn (N : Nt) (u : St) (x1 : Int32) : Option (Except String Int32 × St) :=
  xb (f_X7_requirePan N u x1) fun r1 u3 =>
  xb (f_X7_requireWhole N u3 x1) fun r4 u6 =>
  gd (inb x1 6) <|
  gd ((ix x1) < N 12) <|
  sb (f_X3_heat N u6 (ix x1)) fun r09 u11 =>
  nm (sset u11 3 0 0 ((u11 3 0 0) - 5)) fun u12 =>
  some (.ok (u12 12 (ix x1) 0), u12)
set_option maxRecDepth 100000 in
set_option maxHeartbeats 4000000 in
theorem c_X7_burn (l : Launch) (z : Zt) (ad : Ad) (N : Nt) (X : Gt) (u : St) (x1 : Int32) {r9 : Int32} {u9 : St} (h : f_X7_burn N u x1 = some (.ok r9, u9)) : MC l z yX7_burn cX7_burn 2 (some .int) { frames := 3, cells := 0, slots := 0, locals := 65 } 0 0 [.ref (ad 0 0), .int x1] ad (GC z ad N X u) (QI z ad (GC z ad N X u9) r9) := by
  refine Met.ofW (cc := cX7_burn) (maxL := 2) (ret := (some .int)) (by decide) rfl ?_
  intro p e s m args below meth c s₁ B hml hv
  obtain ⟨rfl, hSW, hW⟩ := hv
  have hx := B.exec; have hb := B.bytes; have hr := B.returns; have hlocks := B.notSynchronized
  have hown : s.vm.findClass RX7 = some m.cls := findClass_of_methodNamed B.named
  obtain ⟨hT, hK, hST, hB0⟩ := id hSW
  have hS : va_S (zA z) s.heap s.heap [] := va_S.rf
  have hl := lv_entry ([.ref (ad 0 0), .int x1]) (n := 2) (Nat.le_of_ble_eq_true rfl)
  rw [lg_entry_eq]
  generalize (lg_sl ([.ref (ad 0 0), .int x1]) ++ List.replicate (2 - (lg_sl ([.ref (ad 0 0), .int x1])).length) Slot.unset).toArray = ls at hl ⊢
  have hl : lv_has ls 2 [(0, .ref (ad 0 0)), (1, .int x1)] := hl
  unfold f_X7_burn at h
  refine lv_aload_n hx hb dX7_burn_0 rfl (lv_at hl 0 rfl) ?_
  refine lv_iload_n hx hb dX7_burn_1 rfl (lv_at hl 1 rfl) ?_
  obtain ⟨r1, u3, h2, h⟩ := xb_s h
  refine nb_cv (nb_runV (As := [.int x1]) (rest := []) hx hb hml hown hSW hS hW (c_X7_requirePan l z ad N X u x1 h2) mf_X7_requirePan lk_X7_90 kr_0 rfl rfl ⟨rfl, rfl⟩ ⟨Nat.le_of_ble_eq_true rfl, Nat.le_of_ble_eq_true rfl⟩ hl.1 (Nat.le_of_ble_eq_true rfl) dX7_burn_2 ⟨Nat.le_of_ble_eq_true rfl, Nat.le_of_ble_eq_true rfl⟩) hS (fun H locs (hW : GW z ad (GC z ad N X u3) H) hS => ?_)
  refine lv_aload_n hx hb dX7_burn_5 rfl (lv_at hl 0 rfl) ?_
  refine lv_iload_n hx hb dX7_burn_6 rfl (lv_at hl 1 rfl) ?_
  obtain ⟨r4, u6, h5, h⟩ := xb_s h
  refine nb_cv (nb_runV (As := [.int x1]) (rest := []) hx hb hml hown hSW hS hW (c_X7_requireWhole l z ad N X u3 x1 h5) mf_X7_requireWhole lk_X7_105 kr_0 rfl rfl ⟨rfl, rfl⟩ ⟨Nat.le_of_ble_eq_true rfl, Nat.le_of_ble_eq_true rfl⟩ hl.1 (Nat.le_of_ble_eq_true rfl) dX7_burn_7 ⟨Nat.le_of_ble_eq_true rfl, Nat.le_of_ble_eq_true rfl⟩) hS (fun H locs (hW : GW z ad (GC z ad N X u6) H) hS => ?_)
  refine lv_aload_n hx hb dX7_burn_10 rfl (lv_at hl 0 rfl) ?_
  refine nb_get hx hb hT hK hown hW fl_X7_11 kr_0 (v := .ref (ad 1 0)) rfl dX7_burn_11 ?_
  refine lv_iload_n hx hb dX7_burn_14 rfl (lv_at hl 1 rfl) ?_
  obtain ⟨g7, h⟩ := gd_s h
  obtain ⟨g8, h⟩ := gd_s h
  refine nb_aald hx hb hK hW 2 kr_1 rfl rfl (inb_in g7) (a := ad 12 (ix x1)) (qrow_at g8) dX7_burn_15 ?_
  obtain ⟨r09, u11, h10, h⟩ := sb_s h
  refine nb_cv (nb_runV (As := []) (rest := []) hx hb hml hown hSW hS hW (c_X3_heat l z ad N X u6 (ix x1) (Or.inl g8) h10) mf_X3_heat lk_X7_114 (kr_12 (Or.inl g8)) rfl rfl ⟨rfl, rfl⟩ ⟨Nat.le_of_ble_eq_true rfl, Nat.le_of_ble_eq_true rfl⟩ hl.1 (Nat.le_of_ble_eq_true rfl) dX7_burn_16 ⟨Nat.le_of_ble_eq_true rfl, Nat.le_of_ble_eq_true rfl⟩) hS (fun H locs (hW : GW z ad (GC z ad N X u11) H) hS => ?_)
  refine lv_aload_n hx hb dX7_burn_19 rfl (lv_at hl 0 rfl) ?_
  refine lv_dup hx hb dX7_burn_20 rfl ?_
  refine nb_get hx hb hT hK hown hW fl_X7_55 kr_0 (v := .int (u11 3 0 0)) rfl dX7_burn_21 ?_
  refine lv_iconst (v := 5) hx hb dX7_burn_24 (by decide) ?_
  refine lv_isub hx hb dX7_burn_25 ?_
  obtain ⟨u12, eu12, h⟩ := nm_s h
  refine nb_put hx hb hT hK hown hW hS fl_X7_55 tyX7 tyX7_ok nmX7 kr_0 (v := .int ((u11 3 0 0) - 5)) rfl rfl rfl (Nat.le_of_ble_eq_true rfl) ((gp_3).trans (congrArg (GC z ad N X) eu12.symm)) dX7_burn_26 (fun H locs hW hS => ?_)
  refine lv_aload_n hx hb dX7_burn_29 rfl (lv_at hl 0 rfl) ?_
  refine nb_get hx hb hT hK hown hW fl_X7_11 kr_0 (v := .ref (ad 1 0)) rfl dX7_burn_30 ?_
  refine lv_iload_n hx hb dX7_burn_33 rfl (lv_at hl 1 rfl) ?_
  refine nb_aald hx hb hK hW 2 kr_1 rfl rfl (inb_in g7) (a := ad 12 (ix x1)) (qrow_at g8) dX7_burn_34 ?_
  refine nb_get hx hb hT hK hown hW fl_X7_117 (kr_12 (Or.inl g8)) (v := .int (u12 12 (ix x1) 0)) rfl dX7_burn_35 ?_
  exact ne_iretX hx hb hr rfl hlocks hW hS dX7_burn_38 h
/-- Panyard$Pan.notesInTune -/
def f_X3_notesInTune_L14b (N : Nt) (k0 : Nat) (ih14 : Int32 → Int32 → Int32 → St → Option (Int32 × St)) (y3 : Int32) (y2 : Int32) (y1 : Int32) (u : St) : Option (Int32 × St) :=
  if 8 ≤ y3 then
    some (y2, u)
  else
    gd (inb y3 8) <|
    nm (mabs (u 14 k0 (ix y3))) fun v4 =>
    if y1 < v4 then
      nm (y3 + 1) fun v6 =>
      ih14 v6 y2 y1 u
    else
      nm (y2 ||| (1 <<< (y3 &&& 31))) fun v7 =>
      nm (y3 + 1) fun v8 =>
      ih14 v8 v7 y1 u
def f_X3_notesInTune_L14 (N : Nt) (k0 : Nat) : Nat → Int32 → Int32 → Int32 → St → Option (Int32 × St) := lp (fun _ _ _ _ => none) (f_X3_notesInTune_L14b N k0)
def f_X3_notesInTune (N : Nt) (u : St) (k0 : Nat) : Option (Int32 × St) :=
  nm (6 + (2 * (u 11 k0 0))) fun v1 =>
  f_X3_notesInTune_L14 N k0 1000000 0 0 v1 u
set_option maxRecDepth 100000 in
set_option maxHeartbeats 4000000 in
theorem c_X3_notesInTune (l : Launch) (z : Zt) (ad : Ad) (N : Nt) (X : Gt) (u : St) (k0 : Nat) (hk0 : vPan N k0) {r9 : Int32} {u9 : St} (h : f_X3_notesInTune N u k0 = some (r9, u9)) : MC l z yX3_notesInTune cX3_notesInTune 4 (some .int) { frames := 1, cells := 0, slots := 0, locals := 21 } 0 0 [.ref (ad 12 k0)] ad (GC z ad N X u) (QI z ad (GC z ad N X u9) r9) := by
  refine Met.ofW (cc := cX3_notesInTune) (maxL := 4) (ret := (some .int)) (by decide) rfl ?_
  intro p e s m args below meth c s₁ B hml hv
  obtain ⟨rfl, hSW, hW⟩ := hv
  have hx := B.exec; have hb := B.bytes; have hr := B.returns; have hlocks := B.notSynchronized
  have hown : s.vm.findClass RX3 = some m.cls := findClass_of_methodNamed B.named
  obtain ⟨hT, hK, hST, hB0⟩ := id hSW
  have hS : va_S (zA z) s.heap s.heap [] := va_S.rf
  have hl := lv_entry ([.ref (ad 12 k0)]) (n := 4) (Nat.le_of_ble_eq_true rfl)
  rw [lg_entry_eq]
  generalize (lg_sl ([.ref (ad 12 k0)]) ++ List.replicate (4 - (lg_sl ([.ref (ad 12 k0)])).length) Slot.unset).toArray = ls at hl ⊢
  have hl : lv_has ls 4 [(0, .ref (ad 12 k0))] := hl
  let WW : Heap → List Loc → JFrame → Prop := fun H locs g => W p l e (headSpec [Cond.code yX3_notesInTune cX3_notesInTune 4 (some .int)] { frames := 1, cells := 0, slots := 0, locals := 21 }).room s m [.ref (ad 12 k0)].toArray below meth c H locs 0 0 (MQ below (QI z ad (GC z ad N X u9) r9) [.ref (ad 12 k0)].toArray s 0 0 (zA z)) g
  have hL14b : ∀ (ih14 : Int32 → Int32 → Int32 → St → Option (Int32 × St)) (hih14 : ∀ (y3 : Int32) (y2 : Int32) (y1 : Int32) (u : St) (H : Heap) (locs : List Loc) (ls : Array Slot), lv_has ls 4 [(3, .int y3), (2, .int y2), (1, .int y1), (0, .ref (ad 12 k0))] → GW z ad (GC z ad N X u) H → va_S (zA z) s.heap H locs → ih14 y3 y2 y1 u = some (r9, u9) → WW H locs (F0 m 14 ls [])), ∀ (y3 : Int32) (y2 : Int32) (y1 : Int32) (u : St) (H : Heap) (locs : List Loc) (ls : Array Slot), lv_has ls 4 [(3, .int y3), (2, .int y2), (1, .int y1), (0, .ref (ad 12 k0))] → GW z ad (GC z ad N X u) H → va_S (zA z) s.heap H locs → f_X3_notesInTune_L14b N k0 ih14 y3 y2 y1 u = some (r9, u9) → WW H locs (F0 m 14 ls []) := by
    intro ih14 hih14 y3 y2 y1 u H locs ls hl hW hS h
    change W p l e _ s m _ below meth c H locs 0 0 _ (F0 m 14 ls [])
    unfold f_X3_notesInTune_L14b at h
    refine lv_iload_n hx hb dX3_notesInTune_14 rfl (lv_at hl 0 rfl) ?_
    refine lv_bipush (v := 8) hx hb dX3_notesInTune_15 (by decide) ?_
    refine lv_icmp_ge (tgt := 45) hx hb dX3_notesInTune_17 (by decide) (fun c2 => ?_) (fun c2 => ?_)
    · replace h := ite_t h c2
      refine lv_iload_n hx hb dX3_notesInTune_45 rfl (lv_at hl 1 rfl) ?_
      exact ne_iret hx hb hr rfl hlocks hW hS dX3_notesInTune_46 h
    · replace h := ite_f h c2
      refine lv_aload_n hx hb dX3_notesInTune_20 rfl (lv_at hl 3 rfl) ?_
      refine nb_get hx hb hT hK hown hW fl_X3_9 (kr_12 hk0) (v := .ref (ad 13 k0)) rfl dX3_notesInTune_21 ?_
      refine lv_iload_n hx hb dX3_notesInTune_24 rfl (lv_at hl 0 rfl) ?_
      obtain ⟨g3, h⟩ := gd_s h
      refine nb_iald hx hb hK hW 0 (kr_13 hk0) rfl (inb_in g3) dX3_notesInTune_25 ?_
      refine nb_mabs hx hb hml hl.1 hown hT lm_X3_34 mf_Math_abs ⟨Nat.le_of_ble_eq_true rfl, Nat.le_of_ble_eq_true rfl⟩ ⟨Nat.le_of_ble_eq_true rfl, Nat.le_of_ble_eq_true rfl⟩ dX3_notesInTune_26 ?_
      refine lv_topi (fun v4 ev4 => ?_)
      replace h := nm_at ev4 h
      refine lv_iload_n hx hb dX3_notesInTune_29 rfl (lv_at hl 2 rfl) ?_
      refine lv_icmp_gt (tgt := 39) hx hb dX3_notesInTune_30 (by decide) (fun c5 => ?_) (fun c5 => ?_)
      · replace h := ite_t h c5
        obtain ⟨v6, ev6, h⟩ := nm_s h
        refine lv_iinc (v := v6) (lv' := [(3, .int v6), (2, .int y2), (1, .int y1), (0, .ref (ad 12 k0))]) hx hb dX3_notesInTune_39 hl (k := 0) rfl (by rw [ev6]; rfl) (by decide) rfl (fun ls hl => ?_)
        refine lv_goto (tgt := 14) hx hb dX3_notesInTune_42 (by decide) ?_
        exact hih14 _ _ _ _ _ _ _ (lv_sub hl [0, 1, 2, 3] rfl) hW hS h
      · replace h := ite_f h c5
        refine lv_iload_n hx hb dX3_notesInTune_33 rfl (lv_at hl 1 rfl) ?_
        refine lv_iconst (v := 1) hx hb dX3_notesInTune_34 (by decide) ?_
        refine lv_iload_n hx hb dX3_notesInTune_35 rfl (lv_at hl 0 rfl) ?_
        refine lv_ishl hx hb dX3_notesInTune_36 ?_
        refine lv_ior hx hb dX3_notesInTune_37 ?_
        refine lv_topi (fun v7 ev7 => ?_)
        replace h := nm_at ev7 h
        refine lv_istore_n (lv' := [(2, .int v7), (3, .int y3), (1, .int y1), (0, .ref (ad 12 k0))]) hx hb dX3_notesInTune_38 rfl hl (by decide) rfl (fun ls hl => ?_)
        obtain ⟨v8, ev8, h⟩ := nm_s h
        refine lv_iinc (v := v8) (lv' := [(3, .int v8), (2, .int v7), (1, .int y1), (0, .ref (ad 12 k0))]) hx hb dX3_notesInTune_39 hl (k := 1) rfl (by rw [ev8]; rfl) (by decide) rfl (fun ls hl => ?_)
        refine lv_goto (tgt := 14) hx hb dX3_notesInTune_42 (by decide) ?_
        exact hih14 _ _ _ _ _ _ _ (lv_sub hl [0, 1, 2, 3] rfl) hW hS h
  have hL14 : ∀ (n : Nat), ∀ (y3 : Int32) (y2 : Int32) (y1 : Int32) (u : St) (H : Heap) (locs : List Loc) (ls : Array Slot), lv_has ls 4 [(3, .int y3), (2, .int y2), (1, .int y1), (0, .ref (ad 12 k0))] → GW z ad (GC z ad N X u) H → va_S (zA z) s.heap H locs → f_X3_notesInTune_L14 N k0 n y3 y2 y1 u = some (r9, u9) → WW H locs (F0 m 14 ls []) := by
    intro n
    induction n with
    | zero => intro y3 y2 y1 u H locs ls hl hW hS h; exact absurd h (by intro q; cases q)
    | succ n ihn => intro y3 y2 y1 u H locs ls hl hW hS h; exact hL14b (f_X3_notesInTune_L14 N k0 n) ihn y3 y2 y1 u H locs ls hl hW hS h
  unfold f_X3_notesInTune at h
  refine lv_bipush (v := 6) hx hb dX3_notesInTune_0 (by decide) ?_
  refine lv_iconst (v := 2) hx hb dX3_notesInTune_2 (by decide) ?_
  refine lv_aload_n hx hb dX3_notesInTune_3 rfl (lv_at hl 0 rfl) ?_
  refine nb_get hx hb hT hK hown hW fl_X3_19 (kr_12 hk0) (v := .int (u 11 k0 0)) rfl dX3_notesInTune_4 ?_
  refine lv_imul hx hb dX3_notesInTune_7 ?_
  refine lv_iadd hx hb dX3_notesInTune_8 ?_
  refine lv_topi (fun v1 ev1 => ?_)
  replace h := nm_at ev1 h
  refine lv_istore_n (lv' := [(1, .int v1), (0, .ref (ad 12 k0))]) hx hb dX3_notesInTune_9 rfl hl (by decide) rfl (fun ls hl => ?_)
  refine lv_iconst (v := 0) hx hb dX3_notesInTune_10 (by decide) ?_
  refine lv_istore_n (lv' := [(2, .int 0), (1, .int v1), (0, .ref (ad 12 k0))]) hx hb dX3_notesInTune_11 rfl hl (by decide) rfl (fun ls hl => ?_)
  refine lv_iconst (v := 0) hx hb dX3_notesInTune_12 (by decide) ?_
  refine lv_istore_n (lv' := [(3, .int 0), (2, .int 0), (1, .int v1), (0, .ref (ad 12 k0))]) hx hb dX3_notesInTune_13 rfl hl (by decide) rfl (fun ls hl => ?_)
  exact hL14 1000000 _ _ _ _ _ _ _ (lv_sub hl [0, 1, 2, 3] rfl) hW hS h
/-- Panyard$Pan.needsTuner -/
def f_X3_needsTuner (N : Nt) (u : St) (k0 : Nat) : Option (Int32 × St) :=
  sb (f_X3_isCracked N u k0) fun r1 u3 =>
  if r1 = 0 then
    sb (f_X3_notesInTune N u3 k0) fun r5 u7 =>
    if r5 = 255 then
      some (0, u7)
    else
      some (1, u7)
  else
    some (0, u3)
set_option maxRecDepth 100000 in
set_option maxHeartbeats 4000000 in
theorem c_X3_needsTuner (l : Launch) (z : Zt) (ad : Ad) (N : Nt) (X : Gt) (u : St) (k0 : Nat) (hk0 : vPan N k0) {r9 : Int32} {u9 : St} (h : f_X3_needsTuner N u k0 = some (r9, u9)) : MC l z yX3_needsTuner cX3_needsTuner 1 (some .boolean) { frames := 2, cells := 0, slots := 0, locals := 44 } 0 0 [.ref (ad 12 k0)] ad (GC z ad N X u) (QI z ad (GC z ad N X u9) r9) := by
  refine Met.ofW (cc := cX3_needsTuner) (maxL := 1) (ret := (some .boolean)) (by decide) rfl ?_
  intro p e s m args below meth c s₁ B hml hv
  obtain ⟨rfl, hSW, hW⟩ := hv
  have hx := B.exec; have hb := B.bytes; have hr := B.returns; have hlocks := B.notSynchronized
  have hown : s.vm.findClass RX3 = some m.cls := findClass_of_methodNamed B.named
  obtain ⟨hT, hK, hST, hB0⟩ := id hSW
  have hS : va_S (zA z) s.heap s.heap [] := va_S.rf
  have hl := lv_entry ([.ref (ad 12 k0)]) (n := 1) (Nat.le_of_ble_eq_true rfl)
  rw [lg_entry_eq]
  generalize (lg_sl ([.ref (ad 12 k0)]) ++ List.replicate (1 - (lg_sl ([.ref (ad 12 k0)])).length) Slot.unset).toArray = ls at hl ⊢
  have hl : lv_has ls 1 [(0, .ref (ad 12 k0))] := hl
  unfold f_X3_needsTuner at h
  refine lv_aload_n hx hb dX3_needsTuner_0 rfl (lv_at hl 0 rfl) ?_
  obtain ⟨r1, u3, h2, h⟩ := sb_s h
  refine nb_ci (nb_runV (As := []) (rest := []) hx hb hml hown hSW hS hW (c_X3_isCracked l z ad N X u k0 hk0 h2) mf_X3_isCracked lk_X3_40 (kr_12 hk0) rfl rfl ⟨rfl, rfl⟩ ⟨Nat.le_of_ble_eq_true rfl, Nat.le_of_ble_eq_true rfl⟩ hl.1 (Nat.le_of_ble_eq_true rfl) dX3_needsTuner_1 ⟨Nat.le_of_ble_eq_true rfl, Nat.le_of_ble_eq_true rfl⟩) hS (fun H locs (hW : GW z ad (GC z ad N X u3) H) hS => ?_)
  refine lv_if_ne (tgt := 21) hx hb dX3_needsTuner_4 (by decide) (fun c4 => ?_) (fun c4 => ?_)
  · replace h := ite_f h c4
    refine lv_iconst (v := 0) hx hb dX3_needsTuner_21 (by decide) ?_
    exact ne_iret hx hb hr rfl hlocks hW hS dX3_needsTuner_22 h
  · replace h := ite_t h c4
    refine lv_aload_n hx hb dX3_needsTuner_7 rfl (lv_at hl 0 rfl) ?_
    obtain ⟨r5, u7, h6, h⟩ := sb_s h
    refine nb_ci (nb_runV (As := []) (rest := []) hx hb hml hown hSW hS hW (c_X3_notesInTune l z ad N X u3 k0 hk0 h6) mf_X3_notesInTune lk_X3_44 (kr_12 hk0) rfl rfl ⟨rfl, rfl⟩ ⟨Nat.le_of_ble_eq_true rfl, Nat.le_of_ble_eq_true rfl⟩ hl.1 (Nat.le_of_ble_eq_true rfl) dX3_needsTuner_8 ⟨Nat.le_of_ble_eq_true rfl, Nat.le_of_ble_eq_true rfl⟩) hS (fun H locs (hW : GW z ad (GC z ad N X u7) H) hS => ?_)
    refine lv_sipush (v := 255) hx hb dX3_needsTuner_11 (by decide) ?_
    refine lv_icmp_eq (tgt := 21) hx hb dX3_needsTuner_14 (by decide) (fun c8 => ?_) (fun c8 => ?_)
    · replace h := ite_t h c8
      refine lv_iconst (v := 0) hx hb dX3_needsTuner_21 (by decide) ?_
      exact ne_iret hx hb hr rfl hlocks hW hS dX3_needsTuner_22 h
    · replace h := ite_f h c8
      refine lv_iconst (v := 1) hx hb dX3_needsTuner_17 (by decide) ?_
      refine lv_goto (tgt := 22) hx hb dX3_needsTuner_18 (by decide) ?_
      exact ne_iret hx hb hr rfl hlocks hW hS dX3_needsTuner_22 h
/-- Panyard$Pan.tuneOnce -/
def f_X3_tuneOnce_L4b (N : Nt) (k0 : Nat) (ih4 : Int32 → Int32 → St → Option (Unit × St)) (y2 : Int32) (y1 : Int32) (u : St) : Option (Unit × St) :=
  if 8 ≤ y2 then
    gd (inb y1 8) <|
    sb (f_X7_held N u (-(u 14 k0 (ix y1))) (-20) 20) fun r3 u5 =>
    sb (f_X3_strike N u5 k0 y1 r3) fun r6 u8 =>
    some ((), u8)
  else
    gd (inb y2 8) <|
    nm (mabs (u 14 k0 (ix y2))) fun v10 =>
    gd (inb y1 8) <|
    nm (mabs (u 14 k0 (ix y1))) fun v12 =>
    if v10 ≤ v12 then
      nm (y2 + 1) fun v14 =>
      ih4 v14 y1 u
    else
      nm (y2 + 1) fun v15 =>
      ih4 v15 y2 u
def f_X3_tuneOnce_L4 (N : Nt) (k0 : Nat) : Nat → Int32 → Int32 → St → Option (Unit × St) := lp (fun _ _ _ => none) (f_X3_tuneOnce_L4b N k0)
def f_X3_tuneOnce (N : Nt) (u : St) (k0 : Nat) : Option (Unit × St) :=
  f_X3_tuneOnce_L4 N k0 1000000 1 0 u
set_option maxRecDepth 100000 in
set_option maxHeartbeats 4000000 in
theorem c_X3_tuneOnce (l : Launch) (z : Zt) (ad : Ad) (N : Nt) (X : Gt) (u : St) (k0 : Nat) (hk0 : vPan N k0) {r9 : Unit} {u9 : St} (h : f_X3_tuneOnce N u k0 = some (r9, u9)) : MC l z yX3_tuneOnce cX3_tuneOnce 3 none { frames := 3, cells := 0, slots := 0, locals := 66 } 0 0 [.ref (ad 12 k0)] ad (GC z ad N X u) (QV z ad (GC z ad N X u9)) := by
  refine Met.ofW (cc := cX3_tuneOnce) (maxL := 3) (ret := none) (by decide) rfl ?_
  intro p e s m args below meth c s₁ B hml hv
  obtain ⟨rfl, hSW, hW⟩ := hv
  have hx := B.exec; have hb := B.bytes; have hr := B.returns; have hlocks := B.notSynchronized
  have hown : s.vm.findClass RX3 = some m.cls := findClass_of_methodNamed B.named
  obtain ⟨hT, hK, hST, hB0⟩ := id hSW
  have hS : va_S (zA z) s.heap s.heap [] := va_S.rf
  have hl := lv_entry ([.ref (ad 12 k0)]) (n := 3) (Nat.le_of_ble_eq_true rfl)
  rw [lg_entry_eq]
  generalize (lg_sl ([.ref (ad 12 k0)]) ++ List.replicate (3 - (lg_sl ([.ref (ad 12 k0)])).length) Slot.unset).toArray = ls at hl ⊢
  have hl : lv_has ls 3 [(0, .ref (ad 12 k0))] := hl
  let WW : Heap → List Loc → JFrame → Prop := fun H locs g => W p l e (headSpec [Cond.code yX3_tuneOnce cX3_tuneOnce 3 none] { frames := 3, cells := 0, slots := 0, locals := 66 }).room s m [.ref (ad 12 k0)].toArray below meth c H locs 0 0 (MQ below (QV z ad (GC z ad N X u9)) [.ref (ad 12 k0)].toArray s 0 0 (zA z)) g
  have hL4b : ∀ (ih4 : Int32 → Int32 → St → Option (Unit × St)) (hih4 : ∀ (y2 : Int32) (y1 : Int32) (u : St) (H : Heap) (locs : List Loc) (ls : Array Slot), lv_has ls 3 [(2, .int y2), (1, .int y1), (0, .ref (ad 12 k0))] → GW z ad (GC z ad N X u) H → va_S (zA z) s.heap H locs → ih4 y2 y1 u = some (r9, u9) → WW H locs (F0 m 4 ls [])), ∀ (y2 : Int32) (y1 : Int32) (u : St) (H : Heap) (locs : List Loc) (ls : Array Slot), lv_has ls 3 [(2, .int y2), (1, .int y1), (0, .ref (ad 12 k0))] → GW z ad (GC z ad N X u) H → va_S (zA z) s.heap H locs → f_X3_tuneOnce_L4b N k0 ih4 y2 y1 u = some (r9, u9) → WW H locs (F0 m 4 ls []) := by
    intro ih4 hih4 y2 y1 u H locs ls hl hW hS h
    change W p l e _ s m _ below meth c H locs 0 0 _ (F0 m 4 ls [])
    unfold f_X3_tuneOnce_L4b at h
    refine lv_iload_n hx hb dX3_tuneOnce_4 rfl (lv_at hl 0 rfl) ?_
    refine lv_bipush (v := 8) hx hb dX3_tuneOnce_5 (by decide) ?_
    refine lv_icmp_ge (tgt := 39) hx hb dX3_tuneOnce_7 (by decide) (fun c1 => ?_) (fun c1 => ?_)
    · replace h := ite_t h c1
      refine lv_aload_n hx hb dX3_tuneOnce_39 rfl (lv_at hl 2 rfl) ?_
      refine lv_iload_n hx hb dX3_tuneOnce_40 rfl (lv_at hl 1 rfl) ?_
      refine lv_aload_n hx hb dX3_tuneOnce_41 rfl (lv_at hl 2 rfl) ?_
      refine nb_get hx hb hT hK hown hW fl_X3_9 (kr_12 hk0) (v := .ref (ad 13 k0)) rfl dX3_tuneOnce_42 ?_
      refine lv_iload_n hx hb dX3_tuneOnce_45 rfl (lv_at hl 1 rfl) ?_
      obtain ⟨g2, h⟩ := gd_s h
      refine nb_iald hx hb hK hW 0 (kr_13 hk0) rfl (inb_in g2) dX3_tuneOnce_46 ?_
      refine lv_ineg hx hb dX3_tuneOnce_47 ?_
      refine lv_bipush (v := (-20)) hx hb dX3_tuneOnce_48 (by decide) ?_
      refine lv_bipush (v := 20) hx hb dX3_tuneOnce_50 (by decide) ?_
      obtain ⟨r3, u5, h4, h⟩ := sb_s h
      refine nb_ci (nb_runS (As := [.int (-(u 14 k0 (ix y1))), .int (-20), .int 20]) (rest := [.int y1, .ref (ad 12 k0)]) hx hb hml hown hSW hS hW (c_X7_held l z ad N X u (-(u 14 k0 (ix y1))) (-20) 20 h4) mf_X7_held lk_X3_53 rfl ⟨rfl, rfl⟩ ⟨Nat.le_of_ble_eq_true rfl, Nat.le_of_ble_eq_true rfl⟩ hl.1 (Nat.le_of_ble_eq_true rfl) dX3_tuneOnce_52 ⟨Nat.le_of_ble_eq_true rfl, Nat.le_of_ble_eq_true rfl⟩) hS (fun H locs (hW : GW z ad (GC z ad N X u5) H) hS => ?_)
      obtain ⟨r6, u8, h7, h⟩ := sb_s h
      refine nb_cv (nb_runV (As := [.int y1, .int r3]) (rest := []) hx hb hml hown hSW hS hW (c_X3_strike l z ad N X u5 k0 y1 r3 hk0 h7) mf_X3_strike lk_X3_67 (kr_12 hk0) rfl rfl ⟨rfl, rfl⟩ ⟨Nat.le_of_ble_eq_true rfl, Nat.le_of_ble_eq_true rfl⟩ hl.1 (Nat.le_of_ble_eq_true rfl) dX3_tuneOnce_55 ⟨Nat.le_of_ble_eq_true rfl, Nat.le_of_ble_eq_true rfl⟩) hS (fun H locs (hW : GW z ad (GC z ad N X u8) H) hS => ?_)
      exact ne_vret hx hb hr hlocks hW hS dX3_tuneOnce_58 h
    · replace h := ite_f h c1
      refine lv_aload_n hx hb dX3_tuneOnce_10 rfl (lv_at hl 2 rfl) ?_
      refine nb_get hx hb hT hK hown hW fl_X3_9 (kr_12 hk0) (v := .ref (ad 13 k0)) rfl dX3_tuneOnce_11 ?_
      refine lv_iload_n hx hb dX3_tuneOnce_14 rfl (lv_at hl 0 rfl) ?_
      obtain ⟨g09, h⟩ := gd_s h
      refine nb_iald hx hb hK hW 0 (kr_13 hk0) rfl (inb_in g09) dX3_tuneOnce_15 ?_
      refine nb_mabs hx hb hml hl.1 hown hT lm_X3_34 mf_Math_abs ⟨Nat.le_of_ble_eq_true rfl, Nat.le_of_ble_eq_true rfl⟩ ⟨Nat.le_of_ble_eq_true rfl, Nat.le_of_ble_eq_true rfl⟩ dX3_tuneOnce_16 ?_
      refine lv_topi (fun v10 ev10 => ?_)
      replace h := nm_at ev10 h
      refine lv_aload_n hx hb dX3_tuneOnce_19 rfl (lv_at hl 2 rfl) ?_
      refine nb_get hx hb hT hK hown hW fl_X3_9 (kr_12 hk0) (v := .ref (ad 13 k0)) rfl dX3_tuneOnce_20 ?_
      refine lv_iload_n hx hb dX3_tuneOnce_23 rfl (lv_at hl 1 rfl) ?_
      obtain ⟨g11, h⟩ := gd_s h
      refine nb_iald hx hb hK hW 0 (kr_13 hk0) rfl (inb_in g11) dX3_tuneOnce_24 ?_
      refine nb_mabs hx hb hml hl.1 hown hT lm_X3_34 mf_Math_abs ⟨Nat.le_of_ble_eq_true rfl, Nat.le_of_ble_eq_true rfl⟩ ⟨Nat.le_of_ble_eq_true rfl, Nat.le_of_ble_eq_true rfl⟩ dX3_tuneOnce_25 ?_
      refine lv_topi (fun v12 ev12 => ?_)
      replace h := nm_at ev12 h
      refine lv_icmp_le (tgt := 33) hx hb dX3_tuneOnce_28 (by decide) (fun c13 => ?_) (fun c13 => ?_)
      · replace h := ite_t h c13
        obtain ⟨v14, ev14, h⟩ := nm_s h
        refine lv_iinc (v := v14) (lv' := [(2, .int v14), (1, .int y1), (0, .ref (ad 12 k0))]) hx hb dX3_tuneOnce_33 hl (k := 0) rfl (by rw [ev14]; rfl) (by decide) rfl (fun ls hl => ?_)
        refine lv_goto (tgt := 4) hx hb dX3_tuneOnce_36 (by decide) ?_
        exact hih4 _ _ _ _ _ _ (lv_sub hl [0, 1, 2] rfl) hW hS h
      · replace h := ite_f h c13
        refine lv_iload_n hx hb dX3_tuneOnce_31 rfl (lv_at hl 0 rfl) ?_
        refine lv_istore_n (lv' := [(1, .int y2), (2, .int y2), (0, .ref (ad 12 k0))]) hx hb dX3_tuneOnce_32 rfl hl (by decide) rfl (fun ls hl => ?_)
        obtain ⟨v15, ev15, h⟩ := nm_s h
        refine lv_iinc (v := v15) (lv' := [(2, .int v15), (1, .int y2), (0, .ref (ad 12 k0))]) hx hb dX3_tuneOnce_33 hl (k := 1) rfl (by rw [ev15]; rfl) (by decide) rfl (fun ls hl => ?_)
        refine lv_goto (tgt := 4) hx hb dX3_tuneOnce_36 (by decide) ?_
        exact hih4 _ _ _ _ _ _ (lv_sub hl [0, 1, 2] rfl) hW hS h
  have hL4 : ∀ (n : Nat), ∀ (y2 : Int32) (y1 : Int32) (u : St) (H : Heap) (locs : List Loc) (ls : Array Slot), lv_has ls 3 [(2, .int y2), (1, .int y1), (0, .ref (ad 12 k0))] → GW z ad (GC z ad N X u) H → va_S (zA z) s.heap H locs → f_X3_tuneOnce_L4 N k0 n y2 y1 u = some (r9, u9) → WW H locs (F0 m 4 ls []) := by
    intro n
    induction n with
    | zero => intro y2 y1 u H locs ls hl hW hS h; exact absurd h (by intro q; cases q)
    | succ n ihn => intro y2 y1 u H locs ls hl hW hS h; exact hL4b (f_X3_tuneOnce_L4 N k0 n) ihn y2 y1 u H locs ls hl hW hS h
  unfold f_X3_tuneOnce at h
  refine lv_iconst (v := 0) hx hb dX3_tuneOnce_0 (by decide) ?_
  refine lv_istore_n (lv' := [(1, .int 0), (0, .ref (ad 12 k0))]) hx hb dX3_tuneOnce_1 rfl hl (by decide) rfl (fun ls hl => ?_)
  refine lv_iconst (v := 1) hx hb dX3_tuneOnce_2 (by decide) ?_
  refine lv_istore_n (lv' := [(2, .int 1), (1, .int 0), (0, .ref (ad 12 k0))]) hx hb dX3_tuneOnce_3 rfl hl (by decide) rfl (fun ls hl => ?_)
  exact hL4 1000000 _ _ _ _ _ _ (lv_sub hl [0, 1, 2] rfl) hW hS h
/-- Panyard$Pan.tuneUpTo -/
def f_X3_tuneUpTo_L2b (N : Nt) (k0 : Nat) (ih2 : Int32 → Int32 → St → Option (Int32 × St)) (y2 : Int32) (y1 : Int32) (u : St) : Option (Int32 × St) :=
  if y1 ≤ y2 then
    some (y2, u)
  else
    sb (f_X3_needsTuner N u k0) fun r2 u4 =>
    if r2 = 0 then
      some (y2, u4)
    else
      sb (f_X3_tuneOnce N u4 k0) fun r6 u8 =>
      nm (y2 + 1) fun v09 =>
      ih2 v09 y1 u8
def f_X3_tuneUpTo_L2 (N : Nt) (k0 : Nat) : Nat → Int32 → Int32 → St → Option (Int32 × St) := lp (fun _ _ _ => none) (f_X3_tuneUpTo_L2b N k0)
def f_X3_tuneUpTo (N : Nt) (u : St) (k0 : Nat) (x1 : Int32) : Option (Int32 × St) :=
  f_X3_tuneUpTo_L2 N k0 1000000 0 x1 u
set_option maxRecDepth 100000 in
set_option maxHeartbeats 4000000 in
theorem c_X3_tuneUpTo (l : Launch) (z : Zt) (ad : Ad) (N : Nt) (X : Gt) (u : St) (k0 : Nat) (x1 : Int32) (hk0 : vPan N k0) {r9 : Int32} {u9 : St} (h : f_X3_tuneUpTo N u k0 x1 = some (r9, u9)) : MC l z yX3_tuneUpTo cX3_tuneUpTo 3 (some .int) { frames := 4, cells := 0, slots := 0, locals := 88 } 0 0 [.ref (ad 12 k0), .int x1] ad (GC z ad N X u) (QI z ad (GC z ad N X u9) r9) := by
  refine Met.ofW (cc := cX3_tuneUpTo) (maxL := 3) (ret := (some .int)) (by decide) rfl ?_
  intro p e s m args below meth c s₁ B hml hv
  obtain ⟨rfl, hSW, hW⟩ := hv
  have hx := B.exec; have hb := B.bytes; have hr := B.returns; have hlocks := B.notSynchronized
  have hown : s.vm.findClass RX3 = some m.cls := findClass_of_methodNamed B.named
  obtain ⟨hT, hK, hST, hB0⟩ := id hSW
  have hS : va_S (zA z) s.heap s.heap [] := va_S.rf
  have hl := lv_entry ([.ref (ad 12 k0), .int x1]) (n := 3) (Nat.le_of_ble_eq_true rfl)
  rw [lg_entry_eq]
  generalize (lg_sl ([.ref (ad 12 k0), .int x1]) ++ List.replicate (3 - (lg_sl ([.ref (ad 12 k0), .int x1])).length) Slot.unset).toArray = ls at hl ⊢
  have hl : lv_has ls 3 [(0, .ref (ad 12 k0)), (1, .int x1)] := hl
  let WW : Heap → List Loc → JFrame → Prop := fun H locs g => W p l e (headSpec [Cond.code yX3_tuneUpTo cX3_tuneUpTo 3 (some .int)] { frames := 4, cells := 0, slots := 0, locals := 88 }).room s m [.ref (ad 12 k0), .int x1].toArray below meth c H locs 0 0 (MQ below (QI z ad (GC z ad N X u9) r9) [.ref (ad 12 k0), .int x1].toArray s 0 0 (zA z)) g
  have hL2b : ∀ (ih2 : Int32 → Int32 → St → Option (Int32 × St)) (hih2 : ∀ (y2 : Int32) (y1 : Int32) (u : St) (H : Heap) (locs : List Loc) (ls : Array Slot), lv_has ls 3 [(2, .int y2), (0, .ref (ad 12 k0)), (1, .int y1)] → GW z ad (GC z ad N X u) H → va_S (zA z) s.heap H locs → ih2 y2 y1 u = some (r9, u9) → WW H locs (F0 m 2 ls [])), ∀ (y2 : Int32) (y1 : Int32) (u : St) (H : Heap) (locs : List Loc) (ls : Array Slot), lv_has ls 3 [(2, .int y2), (0, .ref (ad 12 k0)), (1, .int y1)] → GW z ad (GC z ad N X u) H → va_S (zA z) s.heap H locs → f_X3_tuneUpTo_L2b N k0 ih2 y2 y1 u = some (r9, u9) → WW H locs (F0 m 2 ls []) := by
    intro ih2 hih2 y2 y1 u H locs ls hl hW hS h
    change W p l e _ s m _ below meth c H locs 0 0 _ (F0 m 2 ls [])
    unfold f_X3_tuneUpTo_L2b at h
    refine lv_iload_n hx hb dX3_tuneUpTo_2 rfl (lv_at hl 0 rfl) ?_
    refine lv_iload_n hx hb dX3_tuneUpTo_3 rfl (lv_at hl 2 rfl) ?_
    refine lv_icmp_ge (tgt := 24) hx hb dX3_tuneUpTo_4 (by decide) (fun c1 => ?_) (fun c1 => ?_)
    · replace h := ite_t h c1
      refine lv_iload_n hx hb dX3_tuneUpTo_24 rfl (lv_at hl 0 rfl) ?_
      exact ne_iret hx hb hr rfl hlocks hW hS dX3_tuneUpTo_25 h
    · replace h := ite_f h c1
      refine lv_aload_n hx hb dX3_tuneUpTo_7 rfl (lv_at hl 1 rfl) ?_
      obtain ⟨r2, u4, h3, h⟩ := sb_s h
      refine nb_ci (nb_runV (As := []) (rest := []) hx hb hml hown hSW hS hW (c_X3_needsTuner l z ad N X u k0 hk0 h3) mf_X3_needsTuner lk_X3_61 (kr_12 hk0) rfl rfl ⟨rfl, rfl⟩ ⟨Nat.le_of_ble_eq_true rfl, Nat.le_of_ble_eq_true rfl⟩ hl.1 (Nat.le_of_ble_eq_true rfl) dX3_tuneUpTo_8 ⟨Nat.le_of_ble_eq_true rfl, Nat.le_of_ble_eq_true rfl⟩) hS (fun H locs (hW : GW z ad (GC z ad N X u4) H) hS => ?_)
      refine lv_if_eq (tgt := 24) hx hb dX3_tuneUpTo_11 (by decide) (fun c5 => ?_) (fun c5 => ?_)
      · replace h := ite_t h c5
        refine lv_iload_n hx hb dX3_tuneUpTo_24 rfl (lv_at hl 0 rfl) ?_
        exact ne_iret hx hb hr rfl hlocks hW hS dX3_tuneUpTo_25 h
      · replace h := ite_f h c5
        refine lv_aload_n hx hb dX3_tuneUpTo_14 rfl (lv_at hl 1 rfl) ?_
        obtain ⟨r6, u8, h7, h⟩ := sb_s h
        refine nb_cv (nb_runV (As := []) (rest := []) hx hb hml hown hSW hS hW (c_X3_tuneOnce l z ad N X u4 k0 hk0 h7) mf_X3_tuneOnce lk_X3_64 (kr_12 hk0) rfl rfl ⟨rfl, rfl⟩ ⟨Nat.le_of_ble_eq_true rfl, Nat.le_of_ble_eq_true rfl⟩ hl.1 (Nat.le_of_ble_eq_true rfl) dX3_tuneUpTo_15 ⟨Nat.le_of_ble_eq_true rfl, Nat.le_of_ble_eq_true rfl⟩) hS (fun H locs (hW : GW z ad (GC z ad N X u8) H) hS => ?_)
        obtain ⟨v09, ev09, h⟩ := nm_s h
        refine lv_iinc (v := v09) (lv' := [(2, .int v09), (0, .ref (ad 12 k0)), (1, .int y1)]) hx hb dX3_tuneUpTo_18 hl (k := 0) rfl (by rw [ev09]; rfl) (by decide) rfl (fun ls hl => ?_)
        refine lv_goto (tgt := 2) hx hb dX3_tuneUpTo_21 (by decide) ?_
        exact hih2 _ _ _ _ _ _ (lv_sub hl [0, 1, 2] rfl) hW hS h
  have hL2 : ∀ (n : Nat), ∀ (y2 : Int32) (y1 : Int32) (u : St) (H : Heap) (locs : List Loc) (ls : Array Slot), lv_has ls 3 [(2, .int y2), (0, .ref (ad 12 k0)), (1, .int y1)] → GW z ad (GC z ad N X u) H → va_S (zA z) s.heap H locs → f_X3_tuneUpTo_L2 N k0 n y2 y1 u = some (r9, u9) → WW H locs (F0 m 2 ls []) := by
    intro n
    induction n with
    | zero => intro y2 y1 u H locs ls hl hW hS h; exact absurd h (by intro q; cases q)
    | succ n ihn => intro y2 y1 u H locs ls hl hW hS h; exact hL2b (f_X3_tuneUpTo_L2 N k0 n) ihn y2 y1 u H locs ls hl hW hS h
  unfold f_X3_tuneUpTo at h
  refine lv_iconst (v := 0) hx hb dX3_tuneUpTo_0 (by decide) ?_
  refine lv_istore_n (lv' := [(2, .int 0), (0, .ref (ad 12 k0)), (1, .int x1)]) hx hb dX3_tuneUpTo_1 rfl hl (by decide) rfl (fun ls hl => ?_)
  exact hL2 1000000 _ _ _ _ _ _ (lv_sub hl [0, 1, 2] rfl) hW hS h
