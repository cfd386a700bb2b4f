theorem uw_X3 : ((u_ws RX3 TX3 5).all (fun w => tbGood w && decide (w ∈ lw_tbl))) = true := by decide +kernel
theorem fl_X3_22 : FL RX3 22 3 3 RX3 TX3 5 := ⟨rfl, uw_X3, by decide, rfl, Or.inl (List.mem_of_getElem? (i := 206) (by decide +kernel))⟩
theorem fl_X3_9 : FL RX3 9 3 1 RX3 TX3 5 := ⟨rfl, uw_X3, by decide, rfl, Or.inl (List.mem_of_getElem? (i := 202) (by decide +kernel))⟩
theorem lk_X3_53 : LK RX3 53 yX7_held := Or.inr ⟨"Panyard", List.mem_of_getElem? (i := 524) (by decide +kernel)⟩
theorem mf_X7_held : MFs yX7_held cX7_held 3 (some .int) 3 := ⟨List.mem_of_getElem? (i := 373) (by decide +kernel), List.mem_of_getElem? (i := 61) (by decide +kernel), List.mem_of_getElem? (i := 374) (by decide +kernel), by decide +kernel, by decide +kernel, by decide +kernel⟩
theorem lk_X3_57 : LK RX3 57 yX3_shift := Or.inl (List.mem_of_getElem? (i := 529) (by decide +kernel))
theorem mf_X3_shift : MFv yX3_shift cX3_shift 3 none 2 := ⟨List.mem_of_getElem? (i := 531) (by decide +kernel), List.mem_of_getElem? (i := 15) (by decide +kernel), List.mem_of_getElem? (i := 66) (by decide +kernel), List.mem_of_getElem? (i := 532) (by decide +kernel), by decide +kernel, by decide +kernel, by decide +kernel⟩
theorem lm_X3_34 : Cond.methodLink RX3 34 Lib.Math.abs.name ∈ lw_tbl := List.mem_of_getElem? (i := 320) (by decide +kernel)
theorem mf_Math_abs : MFs Lib.Math.abs.name Lib.Math.abs.code 1 (some .int) 1 := ⟨List.mem_of_getElem? (i := 321) (by decide +kernel), List.mem_of_getElem? (i := 78) (by decide +kernel), List.mem_of_getElem? (i := 322) (by decide +kernel), by decide +kernel, by decide +kernel, by decide +kernel⟩
theorem fl_X3_25 : FL RX3 25 3 4 RX3 TX3 5 := ⟨rfl, uw_X3, by decide, rfl, Or.inl (List.mem_of_getElem? (i := 208) (by decide +kernel))⟩
theorem fl_X3_19 : FL RX3 19 3 2 RX3 TX3 5 := ⟨rfl, uw_X3, by decide, rfl, Or.inl (List.mem_of_getElem? (i := 204) (by decide +kernel))⟩
/-- Panyard.isWithin -/
def f_X7_isWithin (N : Nt) (u : St) (x0 : Int32) (x1 : Int32) (x2 : Int32) : Option (Int32 × St) :=
  if x0 < x1 then
    some (0, u)
  else
    if x2 < x0 then
      some (0, u)
    else
      some (1, u)
set_option maxRecDepth 100000 in
set_option maxHeartbeats 4000000 in
theorem c_X7_isWithin (l : Launch) (z : Zt) (ad : Ad) (N : Nt) (u : St) (x0 : Int32) (x1 : Int32) (x2 : Int32) {r9 : Int32} {u9 : St} (h : f_X7_isWithin N u x0 x1 x2 = some (r9, u9)) : MC l z yX7_isWithin cX7_isWithin 3 (some .boolean) { frames := 0, cells := 0, slots := 0, locals := 0 } 0 0 [.int x0, .int x1, .int x2] ad (GC z ad N u) (QI z ad (GC z ad N u9) r9) := by
  refine Met.ofW (cc := cX7_isWithin) (maxL := 3) (ret := (some .boolean)) (by decide) rfl ?_
  intro p e s m args below meth c s₁ B hml hv
  obtain ⟨rfl, hSW, hW⟩ := hv
  have hx := B.exec; have hb := B.bytes; have hr := B.returns; have hlocks := B.notSynchronized
  have hown : s.vm.findClass RX7 = some m.cls := findClass_of_methodNamed B.named
  obtain ⟨hT, hK, hST⟩ := id hSW
  have hS : va_S (zA z) s.heap s.heap [] := va_S.rf
  have hl := lv_entry ([.int x0, .int x1, .int x2]) (n := 3) (Nat.le_of_ble_eq_true rfl)
  rw [lg_entry_eq]
  generalize (lg_sl ([.int x0, .int x1, .int x2]) ++ List.replicate (3 - (lg_sl ([.int x0, .int x1, .int x2])).length) Slot.unset).toArray = ls at hl ⊢
  have hl : lv_has ls 3 [(0, .int x0), (1, .int x1), (2, .int x2)] := hl
  unfold f_X7_isWithin at h
  refine lv_iload_n hx hb dX7_isWithin_0 rfl (lv_at hl 0 rfl) ?_
  refine lv_iload_n hx hb dX7_isWithin_1 rfl (lv_at hl 1 rfl) ?_
  refine lv_icmp_lt (tgt := 14) hx hb dX7_isWithin_2 (by decide) (fun c1 => ?_) (fun c1 => ?_)
  · replace h := ite_t h c1
    refine lv_iconst (v := 0) hx hb dX7_isWithin_14 (by decide) ?_
    exact ne_iret hx hb hr rfl hlocks hW hS dX7_isWithin_15 h
  · replace h := ite_f h c1
    refine lv_iload_n hx hb dX7_isWithin_5 rfl (lv_at hl 0 rfl) ?_
    refine lv_iload_n hx hb dX7_isWithin_6 rfl (lv_at hl 2 rfl) ?_
    refine lv_icmp_gt (tgt := 14) hx hb dX7_isWithin_7 (by decide) (fun c2 => ?_) (fun c2 => ?_)
    · replace h := ite_t h c2
      refine lv_iconst (v := 0) hx hb dX7_isWithin_14 (by decide) ?_
      exact ne_iret hx hb hr rfl hlocks hW hS dX7_isWithin_15 h
    · replace h := ite_f h c2
      refine lv_iconst (v := 1) hx hb dX7_isWithin_10 (by decide) ?_
      refine lv_goto (tgt := 15) hx hb dX7_isWithin_11 (by decide) ?_
      exact ne_iret hx hb hr rfl hlocks hW hS dX7_isWithin_15 h
/-- Panyard.held -/
def f_X7_held (N : Nt) (u : St) (x0 : Int32) (x1 : Int32) (x2 : Int32) : Option (Int32 × St) :=
  if x1 ≤ x0 then
    if x0 ≤ x2 then
      some (x0, u)
    else
      some (x2, u)
  else
    some (x1, u)
set_option maxRecDepth 100000 in
set_option maxHeartbeats 4000000 in
theorem c_X7_held (l : Launch) (z : Zt) (ad : Ad) (N : Nt) (u : St) (x0 : Int32) (x1 : Int32) (x2 : Int32) {r9 : Int32} {u9 : St} (h : f_X7_held N u x0 x1 x2 = some (r9, u9)) : MC l z yX7_held cX7_held 3 (some .int) { frames := 0, cells := 0, slots := 0, locals := 0 } 0 0 [.int x0, .int x1, .int x2] ad (GC z ad N u) (QI z ad (GC z ad N u9) r9) := by
  refine Met.ofW (cc := cX7_held) (maxL := 3) (ret := (some .int)) (by decide) rfl ?_
  intro p e s m args below meth c s₁ B hml hv
  obtain ⟨rfl, hSW, hW⟩ := hv
  have hx := B.exec; have hb := B.bytes; have hr := B.returns; have hlocks := B.notSynchronized
  have hown : s.vm.findClass RX7 = some m.cls := findClass_of_methodNamed B.named
  obtain ⟨hT, hK, hST⟩ := id hSW
  have hS : va_S (zA z) s.heap s.heap [] := va_S.rf
  have hl := lv_entry ([.int x0, .int x1, .int x2]) (n := 3) (Nat.le_of_ble_eq_true rfl)
  rw [lg_entry_eq]
  generalize (lg_sl ([.int x0, .int x1, .int x2]) ++ List.replicate (3 - (lg_sl ([.int x0, .int x1, .int x2])).length) Slot.unset).toArray = ls at hl ⊢
  have hl : lv_has ls 3 [(0, .int x0), (1, .int x1), (2, .int x2)] := hl
  unfold f_X7_held at h
  refine lv_iload_n hx hb dX7_held_0 rfl (lv_at hl 0 rfl) ?_
  refine lv_iload_n hx hb dX7_held_1 rfl (lv_at hl 1 rfl) ?_
  refine lv_icmp_ge (tgt := 7) hx hb dX7_held_2 (by decide) (fun c1 => ?_) (fun c1 => ?_)
  · replace h := ite_t h c1
    refine lv_iload_n hx hb dX7_held_7 rfl (lv_at hl 0 rfl) ?_
    refine lv_iload_n hx hb dX7_held_8 rfl (lv_at hl 2 rfl) ?_
    refine lv_icmp_le (tgt := 16) hx hb dX7_held_9 (by decide) (fun c2 => ?_) (fun c2 => ?_)
    · replace h := ite_t h c2
      refine lv_iload_n hx hb dX7_held_16 rfl (lv_at hl 0 rfl) ?_
      exact ne_iret hx hb hr rfl hlocks hW hS dX7_held_17 h
    · replace h := ite_f h c2
      refine lv_iload_n hx hb dX7_held_12 rfl (lv_at hl 2 rfl) ?_
      refine lv_goto (tgt := 17) hx hb dX7_held_13 (by decide) ?_
      exact ne_iret hx hb hr rfl hlocks hW hS dX7_held_17 h
  · replace h := ite_f h c1
    refine lv_iload_n hx hb dX7_held_5 rfl (lv_at hl 1 rfl) ?_
    exact ne_iret hx hb hr rfl hlocks hW hS dX7_held_6 h
/-- Panyard$Pan.isCracked -/
def f_X3_isCracked (N : Nt) (u : St) (k0 : Nat) : Option (Int32 × St) :=
  if (u 12 k0 0) < 300 then
    some (0, u)
  else
    some (1, u)
set_option maxRecDepth 100000 in
set_option maxHeartbeats 4000000 in
theorem c_X3_isCracked (l : Launch) (z : Zt) (ad : Ad) (N : Nt) (u : St) (k0 : Nat) (hk0 : vPan N k0) {r9 : Int32} {u9 : St} (h : f_X3_isCracked N u k0 = some (r9, u9)) : MC l z yX3_isCracked cX3_isCracked 1 (some .boolean) { frames := 0, cells := 0, slots := 0, locals := 0 } 0 0 [.ref (ad 12 k0)] ad (GC z ad N u) (QI z ad (GC z ad N u9) r9) := by
  refine Met.ofW (cc := cX3_isCracked) (maxL := 1) (ret := (some .boolean)) (by decide) rfl ?_
  intro p e s m args below meth c s₁ B hml hv
  obtain ⟨rfl, hSW, hW⟩ := hv
  have hx := B.exec; have hb := B.bytes; have hr := B.returns; have hlocks := B.notSynchronized
  have hown : s.vm.findClass RX3 = some m.cls := findClass_of_methodNamed B.named
  obtain ⟨hT, hK, hST⟩ := id hSW
  have hS : va_S (zA z) s.heap s.heap [] := va_S.rf
  have hl := lv_entry ([.ref (ad 12 k0)]) (n := 1) (Nat.le_of_ble_eq_true rfl)
  rw [lg_entry_eq]
  generalize (lg_sl ([.ref (ad 12 k0)]) ++ List.replicate (1 - (lg_sl ([.ref (ad 12 k0)])).length) Slot.unset).toArray = ls at hl ⊢
  have hl : lv_has ls 1 [(0, .ref (ad 12 k0))] := hl
  unfold f_X3_isCracked at h
  refine lv_aload_n hx hb dX3_isCracked_0 rfl (lv_at hl 0 rfl) ?_
  refine nb_get hx hb hT hK hown hW fl_X3_22 (kr_12 hk0) (v := .int (u 12 k0 0)) rfl dX3_isCracked_1 ?_
  refine lv_sipush (v := 300) hx hb dX3_isCracked_4 (by decide) ?_
  refine lv_icmp_lt (tgt := 14) hx hb dX3_isCracked_7 (by decide) (fun c1 => ?_) (fun c1 => ?_)
  · replace h := ite_t h c1
    refine lv_iconst (v := 0) hx hb dX3_isCracked_14 (by decide) ?_
    exact ne_iret hx hb hr rfl hlocks hW hS dX3_isCracked_15 h
  · replace h := ite_f h c1
    refine lv_iconst (v := 1) hx hb dX3_isCracked_10 (by decide) ?_
    refine lv_goto (tgt := 15) hx hb dX3_isCracked_11 (by decide) ?_
    exact ne_iret hx hb hr rfl hlocks hW hS dX3_isCracked_15 h
/-- Panyard$Pan.shift -/
def f_X3_shift (N : Nt) (u : St) (k0 : Nat) (x1 : Int32) (x2 : Int32) : Option (Unit × St) :=
  gd (inb x1 8) <|
  sb (f_X7_held N u ((u 14 k0 (ix x1)) + x2) (-99) 99) fun r2 u4 =>
  nm (sset u4 14 k0 (ix x1) r2) fun u5 =>
  some ((), u5)
set_option maxRecDepth 100000 in
set_option maxHeartbeats 4000000 in
theorem c_X3_shift (l : Launch) (z : Zt) (ad : Ad) (N : Nt) (u : St) (k0 : Nat) (x1 : Int32) (x2 : Int32) (hk0 : vPan N k0) {r9 : Unit} {u9 : St} (h : f_X3_shift N u k0 x1 x2 = some (r9, u9)) : MC l z yX3_shift cX3_shift 3 none { frames := 1, cells := 0, slots := 0, locals := 22 } 0 0 [.ref (ad 12 k0), .int x1, .int x2] ad (GC z ad N u) (QV z ad (GC z ad N u9)) := by
  refine Met.ofW (cc := cX3_shift) (maxL := 3) (ret := none) (by decide) rfl ?_
  intro p e s m args below meth c s₁ B hml hv
  obtain ⟨rfl, hSW, hW⟩ := hv
  have hx := B.exec; have hb := B.bytes; have hr := B.returns; have hlocks := B.notSynchronized
  have hown : s.vm.findClass RX3 = some m.cls := findClass_of_methodNamed B.named
  obtain ⟨hT, hK, hST⟩ := id hSW
  have hS : va_S (zA z) s.heap s.heap [] := va_S.rf
  have hl := lv_entry ([.ref (ad 12 k0), .int x1, .int x2]) (n := 3) (Nat.le_of_ble_eq_true rfl)
  rw [lg_entry_eq]
  generalize (lg_sl ([.ref (ad 12 k0), .int x1, .int x2]) ++ List.replicate (3 - (lg_sl ([.ref (ad 12 k0), .int x1, .int x2])).length) Slot.unset).toArray = ls at hl ⊢
  have hl : lv_has ls 3 [(0, .ref (ad 12 k0)), (1, .int x1), (2, .int x2)] := hl
  unfold f_X3_shift at h
  refine lv_aload_n hx hb dX3_shift_0 rfl (lv_at hl 0 rfl) ?_
  refine nb_get hx hb hT hK hown hW fl_X3_9 (kr_12 hk0) (v := .ref (ad 13 k0)) rfl dX3_shift_1 ?_
  refine lv_iload_n hx hb dX3_shift_4 rfl (lv_at hl 1 rfl) ?_
  refine lv_aload_n hx hb dX3_shift_5 rfl (lv_at hl 0 rfl) ?_
  refine nb_get hx hb hT hK hown hW fl_X3_9 (kr_12 hk0) (v := .ref (ad 13 k0)) rfl dX3_shift_6 ?_
  refine lv_iload_n hx hb dX3_shift_9 rfl (lv_at hl 1 rfl) ?_
  obtain ⟨g1, h⟩ := gd_s h
  refine nb_iald hx hb hK hW 0 (kr_13 hk0) rfl (inb_in g1) dX3_shift_10 ?_
  refine lv_iload_n hx hb dX3_shift_11 rfl (lv_at hl 2 rfl) ?_
  refine lv_iadd hx hb dX3_shift_12 ?_
  refine lv_bipush (v := (-99)) hx hb dX3_shift_13 (by decide) ?_
  refine lv_bipush (v := 99) hx hb dX3_shift_15 (by decide) ?_
  obtain ⟨r2, u4, h3, h⟩ := sb_s h
  refine nb_ci (nb_runS (As := [.int ((u 14 k0 (ix x1)) + x2), .int (-99), .int 99]) (rest := [.int x1, .ref (ad 13 k0)]) hx hb hml hown hSW hS hW (c_X7_held l z ad N u ((u 14 k0 (ix x1)) + x2) (-99) 99 h3) mf_X7_held lk_X3_53 rfl ⟨rfl, rfl⟩ ⟨Nat.le_of_ble_eq_true rfl, Nat.le_of_ble_eq_true rfl⟩ hl.1 (Nat.le_of_ble_eq_true rfl) dX3_shift_17 ⟨Nat.le_of_ble_eq_true rfl, Nat.le_of_ble_eq_true rfl⟩) hS (fun H locs (hW : GW z ad (GC z ad N u4) H) hS => ?_)
  obtain ⟨u5, eu5, h⟩ := nm_s h
  refine nb_iast hx hb hK hW hS 0 (kr_13 hk0) rfl (inb_in g1) ((gp_14 hk0).trans (congrArg (GC z ad N) eu5.symm)) dX3_shift_20 (fun H locs hW hS => ?_)
  exact ne_vret hx hb hr hlocks hW hS dX3_shift_21 h
/-- Panyard$Pan.strike -/
def f_X3_strike (N : Nt) (u : St) (k0 : Nat) (x1 : Int32) (x2 : Int32) : Option (Unit × St) :=
  sb (f_X3_shift N u k0 x1 x2) fun r1 u3 =>
  nm (irem (x1 + 1) 8) fun v4 =>
  sb (f_X3_shift N u3 k0 v4 (-(x2 / 4))) fun r5 u7 =>
  nm (irem ((x1 + 8) - 1) 8) fun v8 =>
  sb (f_X3_shift N u7 k0 v8 (-(x2 / 4))) fun r9 u11 =>
  nm (mabs x2) fun v12 =>
  nm (sset u11 12 k0 0 ((u11 12 k0 0) + v12)) fun u13 =>
  nm (sset u13 13 k0 0 ((u13 13 k0 0) + 1)) fun u14 =>
  some ((), u14)
set_option maxRecDepth 100000 in
set_option maxHeartbeats 4000000 in
theorem c_X3_strike (l : Launch) (z : Zt) (ad : Ad) (N : Nt) (u : St) (k0 : Nat) (x1 : Int32) (x2 : Int32) (hk0 : vPan N k0) {r9 : Unit} {u9 : St} (h : f_X3_strike N u k0 x1 x2 = some (r9, u9)) : MC l z yX3_strike cX3_strike 3 none { frames := 2, cells := 0, slots := 0, locals := 44 } 0 0 [.ref (ad 12 k0), .int x1, .int x2] ad (GC z ad N u) (QV z ad (GC z ad N u9)) := by
  refine Met.ofW (cc := cX3_strike) (maxL := 3) (ret := none) (by decide) rfl ?_
  intro p e s m args below meth c s₁ B hml hv
  obtain ⟨rfl, hSW, hW⟩ := hv
  have hx := B.exec; have hb := B.bytes; have hr := B.returns; have hlocks := B.notSynchronized
  have hown : s.vm.findClass RX3 = some m.cls := findClass_of_methodNamed B.named
  obtain ⟨hT, hK, hST⟩ := id hSW
  have hS : va_S (zA z) s.heap s.heap [] := va_S.rf
  have hl := lv_entry ([.ref (ad 12 k0), .int x1, .int x2]) (n := 3) (Nat.le_of_ble_eq_true rfl)
  rw [lg_entry_eq]
  generalize (lg_sl ([.ref (ad 12 k0), .int x1, .int x2]) ++ List.replicate (3 - (lg_sl ([.ref (ad 12 k0), .int x1, .int x2])).length) Slot.unset).toArray = ls at hl ⊢
  have hl : lv_has ls 3 [(0, .ref (ad 12 k0)), (1, .int x1), (2, .int x2)] := hl
  unfold f_X3_strike at h
  refine lv_aload_n hx hb dX3_strike_0 rfl (lv_at hl 0 rfl) ?_
  refine lv_iload_n hx hb dX3_strike_1 rfl (lv_at hl 1 rfl) ?_
  refine lv_iload_n hx hb dX3_strike_2 rfl (lv_at hl 2 rfl) ?_
  obtain ⟨r1, u3, h2, h⟩ := sb_s h
  refine nb_cv (nb_runV (As := [.int x1, .int x2]) (rest := []) hx hb hml hown hSW hS hW (c_X3_shift l z ad N u k0 x1 x2 hk0 h2) mf_X3_shift lk_X3_57 (kr_12 hk0) rfl rfl ⟨rfl, rfl⟩ ⟨Nat.le_of_ble_eq_true rfl, Nat.le_of_ble_eq_true rfl⟩ hl.1 (Nat.le_of_ble_eq_true rfl) dX3_strike_3 ⟨Nat.le_of_ble_eq_true rfl, Nat.le_of_ble_eq_true rfl⟩) hS (fun H locs (hW : GW z ad (GC z ad N u3) H) hS => ?_)
  refine lv_aload_n hx hb dX3_strike_6 rfl (lv_at hl 0 rfl) ?_
  refine lv_iload_n hx hb dX3_strike_7 rfl (lv_at hl 1 rfl) ?_
  refine lv_iconst (v := 1) hx hb dX3_strike_8 (by decide) ?_
  refine lv_iadd hx hb dX3_strike_9 ?_
  refine lv_bipush (v := 8) hx hb dX3_strike_10 (by decide) ?_
  refine lv_irem hx hb dX3_strike_12 (by decide) ?_
  refine lv_topi (fun v4 ev4 => ?_)
  replace h := nm_at ev4 h
  refine lv_iload_n hx hb dX3_strike_13 rfl (lv_at hl 2 rfl) ?_
  refine lv_iconst (v := 4) hx hb dX3_strike_14 (by decide) ?_
  refine lv_idiv hx hb dX3_strike_15 (by decide) ?_
  refine lv_ineg hx hb dX3_strike_16 ?_
  obtain ⟨r5, u7, h6, h⟩ := sb_s h
  refine nb_cv (nb_runV (As := [.int v4, .int (-(x2 / 4))]) (rest := []) hx hb hml hown hSW hS hW (c_X3_shift l z ad N u3 k0 v4 (-(x2 / 4)) hk0 h6) mf_X3_shift lk_X3_57 (kr_12 hk0) rfl rfl ⟨rfl, rfl⟩ ⟨Nat.le_of_ble_eq_true rfl, Nat.le_of_ble_eq_true rfl⟩ hl.1 (Nat.le_of_ble_eq_true rfl) dX3_strike_17 ⟨Nat.le_of_ble_eq_true rfl, Nat.le_of_ble_eq_true rfl⟩) hS (fun H locs (hW : GW z ad (GC z ad N u7) H) hS => ?_)
  refine lv_aload_n hx hb dX3_strike_20 rfl (lv_at hl 0 rfl) ?_
  refine lv_iload_n hx hb dX3_strike_21 rfl (lv_at hl 1 rfl) ?_
  refine lv_bipush (v := 8) hx hb dX3_strike_22 (by decide) ?_
  refine lv_iadd hx hb dX3_strike_24 ?_
  refine lv_iconst (v := 1) hx hb dX3_strike_25 (by decide) ?_
  refine lv_isub hx hb dX3_strike_26 ?_
  refine lv_bipush (v := 8) hx hb dX3_strike_27 (by decide) ?_
  refine lv_irem hx hb dX3_strike_29 (by decide) ?_
  refine lv_topi (fun v8 ev8 => ?_)
  replace h := nm_at ev8 h
  refine lv_iload_n hx hb dX3_strike_30 rfl (lv_at hl 2 rfl) ?_
  refine lv_iconst (v := 4) hx hb dX3_strike_31 (by decide) ?_
  refine lv_idiv hx hb dX3_strike_32 (by decide) ?_
  refine lv_ineg hx hb dX3_strike_33 ?_
  obtain ⟨r9, u11, h10, h⟩ := sb_s h
  refine nb_cv (nb_runV (As := [.int v8, .int (-(x2 / 4))]) (rest := []) hx hb hml hown hSW hS hW (c_X3_shift l z ad N u7 k0 v8 (-(x2 / 4)) hk0 h10) mf_X3_shift lk_X3_57 (kr_12 hk0) rfl rfl ⟨rfl, rfl⟩ ⟨Nat.le_of_ble_eq_true rfl, Nat.le_of_ble_eq_true rfl⟩ hl.1 (Nat.le_of_ble_eq_true rfl) dX3_strike_34 ⟨Nat.le_of_ble_eq_true rfl, Nat.le_of_ble_eq_true rfl⟩) hS (fun H locs (hW : GW z ad (GC z ad N u11) H) hS => ?_)
  refine lv_aload_n hx hb dX3_strike_37 rfl (lv_at hl 0 rfl) ?_
  refine lv_dup hx hb dX3_strike_38 rfl ?_
  refine nb_get hx hb hT hK hown hW fl_X3_22 (kr_12 hk0) (v := .int (u11 12 k0 0)) rfl dX3_strike_39 ?_
  refine lv_iload_n hx hb dX3_strike_42 rfl (lv_at hl 2 rfl) ?_
  refine nb_mabs hx hb hml hl.1 hown hT lm_X3_34 mf_Math_abs ⟨Nat.le_of_ble_eq_true rfl, Nat.le_of_ble_eq_true rfl⟩ ⟨Nat.le_of_ble_eq_true rfl, Nat.le_of_ble_eq_true rfl⟩ dX3_strike_43 ?_
  refine lv_topi (fun v12 ev12 => ?_)
  replace h := nm_at ev12 h
  refine lv_iadd hx hb dX3_strike_46 ?_
  obtain ⟨u13, eu13, h⟩ := nm_s h
  refine nb_put hx hb hT hK hown hW hS fl_X3_22 tyX3 tyX3_ok nmX3 (kr_12 hk0) (v := .int ((u11 12 k0 0) + v12)) rfl rfl rfl (Nat.le_of_ble_eq_true rfl) ((gp_12 hk0).trans (congrArg (GC z ad N) eu13.symm)) dX3_strike_47 (fun H locs hW hS => ?_)
  refine lv_aload_n hx hb dX3_strike_50 rfl (lv_at hl 0 rfl) ?_
  refine lv_dup hx hb dX3_strike_51 rfl ?_
  refine nb_get hx hb hT hK hown hW fl_X3_25 (kr_12 hk0) (v := .int (u13 13 k0 0)) rfl dX3_strike_52 ?_
  refine lv_iconst (v := 1) hx hb dX3_strike_55 (by decide) ?_
  refine lv_iadd hx hb dX3_strike_56 ?_
  obtain ⟨u14, eu14, h⟩ := nm_s h
  refine nb_put hx hb hT hK hown hW hS fl_X3_25 tyX3 tyX3_ok nmX3 (kr_12 hk0) (v := .int ((u13 13 k0 0) + 1)) rfl rfl rfl (Nat.le_of_ble_eq_true rfl) ((gp_13 hk0).trans (congrArg (GC z ad N) eu14.symm)) dX3_strike_57 (fun H locs hW hS => ?_)
  exact ne_vret hx hb hr hlocks hW hS dX3_strike_60 h
/-- Panyard$Pan.heat -/
def f_X3_heat_B32 (N : Nt) (k0 : Nat) (ih12 : Int32 → St → Option (Unit × St)) (y1 : Int32) (w0 : Int32) (w1 : Int32) (u : St) : Option (Unit × St) :=
  sb (f_X3_shift N u k0 w1 w0) fun r5 u7 =>
  nm (y1 + 1) fun v8 =>
  ih12 v8 u7
def f_X3_heat_L12b (N : Nt) (k0 : Nat) (ih12 : Int32 → St → Option (Unit × St)) (y1 : Int32) (u : St) : Option (Unit × St) :=
  if 8 ≤ y1 then
    some ((), u)
  else
    nm (irem y1 2) fun v3 =>
    if v3 = 0 then
      f_X3_heat_B32 N k0 ih12 y1 3 y1 u
    else
      f_X3_heat_B32 N k0 ih12 y1 (-3) y1 u
def f_X3_heat_L12 (N : Nt) (k0 : Nat) : Nat → Int32 → St → Option (Unit × St) := lp (fun _ _ => none) (f_X3_heat_L12b N k0)
def f_X3_heat (N : Nt) (u : St) (k0 : Nat) : Option (Unit × St) :=
  nm (sset u 12 k0 0 ((u 12 k0 0) / 2)) fun u1 =>
  f_X3_heat_L12 N k0 1000000 0 u1
set_option maxRecDepth 100000 in
set_option maxHeartbeats 4000000 in
theorem c_X3_heat (l : Launch) (z : Zt) (ad : Ad) (N : Nt) (u : St) (k0 : Nat) (hk0 : vPan N k0) {r9 : Unit} {u9 : St} (h : f_X3_heat N u k0 = some (r9, u9)) : MC l z yX3_heat cX3_heat 2 none { frames := 2, cells := 0, slots := 0, locals := 44 } 0 0 [.ref (ad 12 k0)] ad (GC z ad N u) (QV z ad (GC z ad N u9)) := by
  refine Met.ofW (cc := cX3_heat) (maxL := 2) (ret := none) (by decide) rfl ?_
  intro p e s m args below meth c s₁ B hml hv
  obtain ⟨rfl, hSW, hW⟩ := hv
  have hx := B.exec; have hb := B.bytes; have hr := B.returns; have hlocks := B.notSynchronized
  have hown : s.vm.findClass RX3 = some m.cls := findClass_of_methodNamed B.named
  obtain ⟨hT, hK, hST⟩ := id hSW
  have hS : va_S (zA z) s.heap s.heap [] := va_S.rf
  have hl := lv_entry ([.ref (ad 12 k0)]) (n := 2) (Nat.le_of_ble_eq_true rfl)
  rw [lg_entry_eq]
  generalize (lg_sl ([.ref (ad 12 k0)]) ++ List.replicate (2 - (lg_sl ([.ref (ad 12 k0)])).length) Slot.unset).toArray = ls at hl ⊢
  have hl : lv_has ls 2 [(0, .ref (ad 12 k0))] := hl
  let WW : Heap → List Loc → JFrame → Prop := fun H locs g => W p l e (headSpec [Cond.code yX3_heat cX3_heat 2 none] { frames := 2, cells := 0, slots := 0, locals := 44 }).room s m [.ref (ad 12 k0)].toArray below meth c H locs 0 0 (MQ below (QV z ad (GC z ad N u9)) [.ref (ad 12 k0)].toArray s 0 0 (zA z)) g
  have hB32 : ∀ (ih12 : Int32 → St → Option (Unit × St)) (hih12 : ∀ (y1 : Int32) (u : St) (H : Heap) (locs : List Loc) (ls : Array Slot), lv_has ls 2 [(1, .int y1), (0, .ref (ad 12 k0))] → GW z ad (GC z ad N u) H → va_S (zA z) s.heap H locs → ih12 y1 u = some (r9, u9) → WW H locs (F0 m 12 ls [])), ∀ (y1 : Int32) (w0 : Int32) (w1 : Int32) (u : St) (H : Heap) (locs : List Loc) (ls : Array Slot), lv_has ls 2 [(1, .int y1), (0, .ref (ad 12 k0))] → GW z ad (GC z ad N u) H → va_S (zA z) s.heap H locs → f_X3_heat_B32 N k0 ih12 y1 w0 w1 u = some (r9, u9) → WW H locs (F0 m 32 ls [.int w0, .int w1, .ref (ad 12 k0)]) := by
    intro ih12 hih12 y1 w0 w1 u H locs ls hl hW hS h
    change W p l e _ s m _ below meth c H locs 0 0 _ (F0 m 32 ls [.int w0, .int w1, .ref (ad 12 k0)])
    unfold f_X3_heat_B32 at h
    obtain ⟨r5, u7, h6, h⟩ := sb_s h
    refine nb_cv (nb_runV (As := [.int w1, .int w0]) (rest := []) hx hb hml hown hSW hS hW (c_X3_shift l z ad N u k0 w1 w0 hk0 h6) mf_X3_shift lk_X3_57 (kr_12 hk0) rfl rfl ⟨rfl, rfl⟩ ⟨Nat.le_of_ble_eq_true rfl, Nat.le_of_ble_eq_true rfl⟩ hl.1 (Nat.le_of_ble_eq_true rfl) dX3_heat_32 ⟨Nat.le_of_ble_eq_true rfl, Nat.le_of_ble_eq_true rfl⟩) hS (fun H locs (hW : GW z ad (GC z ad N u7) H) hS => ?_)
    obtain ⟨v8, ev8, h⟩ := nm_s h
    refine lv_iinc (v := v8) (lv' := [(1, .int v8), (0, .ref (ad 12 k0))]) hx hb dX3_heat_35 hl (k := 0) rfl (by rw [ev8]; rfl) (by decide) rfl (fun ls hl => ?_)
    refine lv_goto (tgt := 12) hx hb dX3_heat_38 (by decide) ?_
    exact hih12 _ _ _ _ _ (lv_sub hl [0, 1] rfl) hW hS h
  have hL12b : ∀ (ih12 : Int32 → St → Option (Unit × St)) (hih12 : ∀ (y1 : Int32) (u : St) (H : Heap) (locs : List Loc) (ls : Array Slot), lv_has ls 2 [(1, .int y1), (0, .ref (ad 12 k0))] → GW z ad (GC z ad N u) H → va_S (zA z) s.heap H locs → ih12 y1 u = some (r9, u9) → WW H locs (F0 m 12 ls [])), ∀ (y1 : Int32) (u : St) (H : Heap) (locs : List Loc) (ls : Array Slot), lv_has ls 2 [(1, .int y1), (0, .ref (ad 12 k0))] → GW z ad (GC z ad N u) H → va_S (zA z) s.heap H locs → f_X3_heat_L12b N k0 ih12 y1 u = some (r9, u9) → WW H locs (F0 m 12 ls []) := by
    intro ih12 hih12 y1 u H locs ls hl hW hS h
    change W p l e _ s m _ below meth c H locs 0 0 _ (F0 m 12 ls [])
    unfold f_X3_heat_L12b at h
    refine lv_iload_n hx hb dX3_heat_12 rfl (lv_at hl 0 rfl) ?_
    refine lv_bipush (v := 8) hx hb dX3_heat_13 (by decide) ?_
    refine lv_icmp_ge (tgt := 41) hx hb dX3_heat_15 (by decide) (fun c2 => ?_) (fun c2 => ?_)
    · replace h := ite_t h c2
      exact ne_vret hx hb hr hlocks hW hS dX3_heat_41 h
    · replace h := ite_f h c2
      refine lv_aload_n hx hb dX3_heat_18 rfl (lv_at hl 1 rfl) ?_
      refine lv_iload_n hx hb dX3_heat_19 rfl (lv_at hl 0 rfl) ?_
      refine lv_iload_n hx hb dX3_heat_20 rfl (lv_at hl 0 rfl) ?_
      refine lv_iconst (v := 2) hx hb dX3_heat_21 (by decide) ?_
      refine lv_irem hx hb dX3_heat_22 (by decide) ?_
      refine lv_topi (fun v3 ev3 => ?_)
      replace h := nm_at ev3 h
      refine lv_if_ne (tgt := 30) hx hb dX3_heat_23 (by decide) (fun c4 => ?_) (fun c4 => ?_)
      · replace h := ite_f h c4
        refine lv_bipush (v := (-3)) hx hb dX3_heat_30 (by decide) ?_
        exact hB32 ih12 hih12 _ _ _ _ _ _ _ (lv_sub hl [0, 1] rfl) hW hS h
      · replace h := ite_t h c4
        refine lv_iconst (v := 3) hx hb dX3_heat_26 (by decide) ?_
        refine lv_goto (tgt := 32) hx hb dX3_heat_27 (by decide) ?_
        exact hB32 ih12 hih12 _ _ _ _ _ _ _ (lv_sub hl [0, 1] rfl) hW hS h
  have hL12 : ∀ (n : Nat), ∀ (y1 : Int32) (u : St) (H : Heap) (locs : List Loc) (ls : Array Slot), lv_has ls 2 [(1, .int y1), (0, .ref (ad 12 k0))] → GW z ad (GC z ad N u) H → va_S (zA z) s.heap H locs → f_X3_heat_L12 N k0 n y1 u = some (r9, u9) → WW H locs (F0 m 12 ls []) := by
    intro n
    induction n with
    | zero => intro y1 u H locs ls hl hW hS h; exact absurd h (by intro q; cases q)
    | succ n ihn => intro y1 u H locs ls hl hW hS h; exact hL12b (f_X3_heat_L12 N k0 n) ihn y1 u H locs ls hl hW hS h
  unfold f_X3_heat at h
  refine lv_aload_n hx hb dX3_heat_0 rfl (lv_at hl 0 rfl) ?_
  refine lv_dup hx hb dX3_heat_1 rfl ?_
  refine nb_get hx hb hT hK hown hW fl_X3_22 (kr_12 hk0) (v := .int (u 12 k0 0)) rfl dX3_heat_2 ?_
  refine lv_iconst (v := 2) hx hb dX3_heat_5 (by decide) ?_
  refine lv_idiv hx hb dX3_heat_6 (by decide) ?_
  obtain ⟨u1, eu1, h⟩ := nm_s h
  refine nb_put hx hb hT hK hown hW hS fl_X3_22 tyX3 tyX3_ok nmX3 (kr_12 hk0) (v := .int ((u 12 k0 0) / 2)) rfl rfl rfl (Nat.le_of_ble_eq_true rfl) ((gp_12 hk0).trans (congrArg (GC z ad N) eu1.symm)) dX3_heat_7 (fun H locs hW hS => ?_)
  refine lv_iconst (v := 0) hx hb dX3_heat_10 (by decide) ?_
  refine lv_istore_n (lv' := [(1, .int 0), (0, .ref (ad 12 k0))]) hx hb dX3_heat_11 rfl hl (by decide) rfl (fun ls hl => ?_)
  exact hL12 1000000 _ _ _ _ _ (lv_sub hl [0, 1] rfl) hW hS h
/-- Panyard$Pan.warm -/
def f_X3_warm_L2b (N : Nt) (k0 : Nat) (ih2 : Int32 → St → Option (Unit × St)) (y1 : Int32) (u : St) : Option (Unit × St) :=
  if 8 ≤ y1 then
    some ((), u)
  else
    sb (f_X3_shift N u k0 y1 1) fun r2 u4 =>
    nm (y1 + 1) fun v5 =>
    ih2 v5 u4
def f_X3_warm_L2 (N : Nt) (k0 : Nat) : Nat → Int32 → St → Option (Unit × St) := lp (fun _ _ => none) (f_X3_warm_L2b N k0)
def f_X3_warm (N : Nt) (u : St) (k0 : Nat) : Option (Unit × St) :=
  f_X3_warm_L2 N k0 1000000 0 u
set_option maxRecDepth 100000 in
set_option maxHeartbeats 4000000 in
theorem c_X3_warm (l : Launch) (z : Zt) (ad : Ad) (N : Nt) (u : St) (k0 : Nat) (hk0 : vPan N k0) {r9 : Unit} {u9 : St} (h : f_X3_warm N u k0 = some (r9, u9)) : MC l z yX3_warm cX3_warm 2 none { frames := 2, cells := 0, slots := 0, locals := 44 } 0 0 [.ref (ad 12 k0)] ad (GC z ad N u) (QV z ad (GC z ad N u9)) := by
  refine Met.ofW (cc := cX3_warm) (maxL := 2) (ret := none) (by decide) rfl ?_
  intro p e s m args below meth c s₁ B hml hv
  obtain ⟨rfl, hSW, hW⟩ := hv
  have hx := B.exec; have hb := B.bytes; have hr := B.returns; have hlocks := B.notSynchronized
  have hown : s.vm.findClass RX3 = some m.cls := findClass_of_methodNamed B.named
  obtain ⟨hT, hK, hST⟩ := id hSW
  have hS : va_S (zA z) s.heap s.heap [] := va_S.rf
  have hl := lv_entry ([.ref (ad 12 k0)]) (n := 2) (Nat.le_of_ble_eq_true rfl)
  rw [lg_entry_eq]
  generalize (lg_sl ([.ref (ad 12 k0)]) ++ List.replicate (2 - (lg_sl ([.ref (ad 12 k0)])).length) Slot.unset).toArray = ls at hl ⊢
  have hl : lv_has ls 2 [(0, .ref (ad 12 k0))] := hl
  let WW : Heap → List Loc → JFrame → Prop := fun H locs g => W p l e (headSpec [Cond.code yX3_warm cX3_warm 2 none] { frames := 2, cells := 0, slots := 0, locals := 44 }).room s m [.ref (ad 12 k0)].toArray below meth c H locs 0 0 (MQ below (QV z ad (GC z ad N u9)) [.ref (ad 12 k0)].toArray s 0 0 (zA z)) g
  have hL2b : ∀ (ih2 : Int32 → St → Option (Unit × St)) (hih2 : ∀ (y1 : Int32) (u : St) (H : Heap) (locs : List Loc) (ls : Array Slot), lv_has ls 2 [(1, .int y1), (0, .ref (ad 12 k0))] → GW z ad (GC z ad N u) H → va_S (zA z) s.heap H locs → ih2 y1 u = some (r9, u9) → WW H locs (F0 m 2 ls [])), ∀ (y1 : Int32) (u : St) (H : Heap) (locs : List Loc) (ls : Array Slot), lv_has ls 2 [(1, .int y1), (0, .ref (ad 12 k0))] → GW z ad (GC z ad N u) H → va_S (zA z) s.heap H locs → f_X3_warm_L2b N k0 ih2 y1 u = some (r9, u9) → WW H locs (F0 m 2 ls []) := by
    intro ih2 hih2 y1 u H locs ls hl hW hS h
    change W p l e _ s m _ below meth c H locs 0 0 _ (F0 m 2 ls [])
    unfold f_X3_warm_L2b at h
    refine lv_iload_n hx hb dX3_warm_2 rfl (lv_at hl 0 rfl) ?_
    refine lv_bipush (v := 8) hx hb dX3_warm_3 (by decide) ?_
    refine lv_icmp_ge (tgt := 20) hx hb dX3_warm_5 (by decide) (fun c1 => ?_) (fun c1 => ?_)
    · replace h := ite_t h c1
      exact ne_vret hx hb hr hlocks hW hS dX3_warm_20 h
    · replace h := ite_f h c1
      refine lv_aload_n hx hb dX3_warm_8 rfl (lv_at hl 1 rfl) ?_
      refine lv_iload_n hx hb dX3_warm_9 rfl (lv_at hl 0 rfl) ?_
      refine lv_iconst (v := 1) hx hb dX3_warm_10 (by decide) ?_
      obtain ⟨r2, u4, h3, h⟩ := sb_s h
      refine nb_cv (nb_runV (As := [.int y1, .int 1]) (rest := []) hx hb hml hown hSW hS hW (c_X3_shift l z ad N u k0 y1 1 hk0 h3) mf_X3_shift lk_X3_57 (kr_12 hk0) rfl rfl ⟨rfl, rfl⟩ ⟨Nat.le_of_ble_eq_true rfl, Nat.le_of_ble_eq_true rfl⟩ hl.1 (Nat.le_of_ble_eq_true rfl) dX3_warm_11 ⟨Nat.le_of_ble_eq_true rfl, Nat.le_of_ble_eq_true rfl⟩) hS (fun H locs (hW : GW z ad (GC z ad N u4) H) hS => ?_)
      obtain ⟨v5, ev5, h⟩ := nm_s h
      refine lv_iinc (v := v5) (lv' := [(1, .int v5), (0, .ref (ad 12 k0))]) hx hb dX3_warm_14 hl (k := 0) rfl (by rw [ev5]; rfl) (by decide) rfl (fun ls hl => ?_)
      refine lv_goto (tgt := 2) hx hb dX3_warm_17 (by decide) ?_
      exact hih2 _ _ _ _ _ (lv_sub hl [0, 1] rfl) hW hS h
  have hL2 : ∀ (n : Nat), ∀ (y1 : Int32) (u : St) (H : Heap) (locs : List Loc) (ls : Array Slot), lv_has ls 2 [(1, .int y1), (0, .ref (ad 12 k0))] → GW z ad (GC z ad N u) H → va_S (zA z) s.heap H locs → f_X3_warm_L2 N k0 n y1 u = some (r9, u9) → WW H locs (F0 m 2 ls []) := by
    intro n
    induction n with
    | zero => intro y1 u H locs ls hl hW hS h; exact absurd h (by intro q; cases q)
    | succ n ihn => intro y1 u H locs ls hl hW hS h; exact hL2b (f_X3_warm_L2 N k0 n) ihn y1 u H locs ls hl hW hS h
  unfold f_X3_warm at h
  refine lv_iconst (v := 0) hx hb dX3_warm_0 (by decide) ?_
  refine lv_istore_n (lv' := [(1, .int 0), (0, .ref (ad 12 k0))]) hx hb dX3_warm_1 rfl hl (by decide) rfl (fun ls hl => ?_)
  exact hL2 1000000 _ _ _ _ _ (lv_sub hl [0, 1] rfl) hW hS h
/-- Panyard$Pan.wear -/
def f_X3_wear_B32 (N : Nt) (k0 : Nat) (ih2 : Int32 → Int32 → Int32 → St → Option (Unit × St)) (y3 : Int32) (y1 : Int32) (y2 : Int32) (w0 : Int32) (w1 : Int32) (u : St) : Option (Unit × St) :=
  sb (f_X3_shift N u k0 w1 w0) fun r6 u8 =>
  nm (y3 + 1) fun v9 =>
  ih2 v9 y1 y2 u8
def f_X3_wear_L2b (N : Nt) (k0 : Nat) (ih2 : Int32 → Int32 → Int32 → St → Option (Unit × St)) (y3 : Int32) (y1 : Int32) (y2 : Int32) (u : St) : Option (Unit × St) :=
  if 8 ≤ y3 then
    some ((), u)
  else
    if ((y1 >>> (y3 &&& 31)) &&& 1) = 1 then
      nm (irem (y3 + y2) 2) fun v4 =>
      if v4 = 0 then
        f_X3_wear_B32 N k0 ih2 y3 y1 y2 1 y3 u
      else
        f_X3_wear_B32 N k0 ih2 y3 y1 y2 (-1) y3 u
    else
      nm (y3 + 1) fun v3 =>
      ih2 v3 y1 y2 u
def f_X3_wear_L2 (N : Nt) (k0 : Nat) : Nat → Int32 → Int32 → Int32 → St → Option (Unit × St) := lp (fun _ _ _ _ => none) (f_X3_wear_L2b N k0)
def f_X3_wear (N : Nt) (u : St) (k0 : Nat) (x1 : Int32) (x2 : Int32) : Option (Unit × St) :=
  f_X3_wear_L2 N k0 1000000 0 x1 x2 u
set_option maxRecDepth 100000 in
set_option maxHeartbeats 4000000 in
theorem c_X3_wear (l : Launch) (z : Zt) (ad : Ad) (N : Nt) (u : St) (k0 : Nat) (x1 : Int32) (x2 : Int32) (hk0 : vPan N k0) {r9 : Unit} {u9 : St} (h : f_X3_wear N u k0 x1 x2 = some (r9, u9)) : MC l z yX3_wear cX3_wear 4 none { frames := 2, cells := 0, slots := 0, locals := 44 } 0 0 [.ref (ad 12 k0), .int x1, .int x2] ad (GC z ad N u) (QV z ad (GC z ad N u9)) := by
  refine Met.ofW (cc := cX3_wear) (maxL := 4) (ret := none) (by decide) rfl ?_
  intro p e s m args below meth c s₁ B hml hv
  obtain ⟨rfl, hSW, hW⟩ := hv
  have hx := B.exec; have hb := B.bytes; have hr := B.returns; have hlocks := B.notSynchronized
  have hown : s.vm.findClass RX3 = some m.cls := findClass_of_methodNamed B.named
  obtain ⟨hT, hK, hST⟩ := id hSW
  have hS : va_S (zA z) s.heap s.heap [] := va_S.rf
  have hl := lv_entry ([.ref (ad 12 k0), .int x1, .int x2]) (n := 4) (Nat.le_of_ble_eq_true rfl)
  rw [lg_entry_eq]
  generalize (lg_sl ([.ref (ad 12 k0), .int x1, .int x2]) ++ List.replicate (4 - (lg_sl ([.ref (ad 12 k0), .int x1, .int x2])).length) Slot.unset).toArray = ls at hl ⊢
  have hl : lv_has ls 4 [(0, .ref (ad 12 k0)), (1, .int x1), (2, .int x2)] := hl
  let WW : Heap → List Loc → JFrame → Prop := fun H locs g => W p l e (headSpec [Cond.code yX3_wear cX3_wear 4 none] { frames := 2, cells := 0, slots := 0, locals := 44 }).room s m [.ref (ad 12 k0), .int x1, .int x2].toArray below meth c H locs 0 0 (MQ below (QV z ad (GC z ad N u9)) [.ref (ad 12 k0), .int x1, .int x2].toArray s 0 0 (zA z)) g
  have hB32 : ∀ (ih2 : Int32 → Int32 → Int32 → St → Option (Unit × St)) (hih2 : ∀ (y3 : Int32) (y1 : Int32) (y2 : Int32) (u : St) (H : Heap) (locs : List Loc) (ls : Array Slot), lv_has ls 4 [(3, .int y3), (0, .ref (ad 12 k0)), (1, .int y1), (2, .int y2)] → GW z ad (GC z ad N u) H → va_S (zA z) s.heap H locs → ih2 y3 y1 y2 u = some (r9, u9) → WW H locs (F0 m 2 ls [])), ∀ (y3 : Int32) (y1 : Int32) (y2 : Int32) (w0 : Int32) (w1 : Int32) (u : St) (H : Heap) (locs : List Loc) (ls : Array Slot), lv_has ls 4 [(3, .int y3), (0, .ref (ad 12 k0)), (1, .int y1), (2, .int y2)] → GW z ad (GC z ad N u) H → va_S (zA z) s.heap H locs → f_X3_wear_B32 N k0 ih2 y3 y1 y2 w0 w1 u = some (r9, u9) → WW H locs (F0 m 32 ls [.int w0, .int w1, .ref (ad 12 k0)]) := by
    intro ih2 hih2 y3 y1 y2 w0 w1 u H locs ls hl hW hS h
    change W p l e _ s m _ below meth c H locs 0 0 _ (F0 m 32 ls [.int w0, .int w1, .ref (ad 12 k0)])
    unfold f_X3_wear_B32 at h
    obtain ⟨r6, u8, h7, h⟩ := sb_s h
    refine nb_cv (nb_runV (As := [.int w1, .int w0]) (rest := []) hx hb hml hown hSW hS hW (c_X3_shift l z ad N u k0 w1 w0 hk0 h7) mf_X3_shift lk_X3_57 (kr_12 hk0) rfl rfl ⟨rfl, rfl⟩ ⟨Nat.le_of_ble_eq_true rfl, Nat.le_of_ble_eq_true rfl⟩ hl.1 (Nat.le_of_ble_eq_true rfl) dX3_wear_32 ⟨Nat.le_of_ble_eq_true rfl, Nat.le_of_ble_eq_true rfl⟩) hS (fun H locs (hW : GW z ad (GC z ad N u8) H) hS => ?_)
    obtain ⟨v9, ev9, h⟩ := nm_s h
    refine lv_iinc (v := v9) (lv' := [(3, .int v9), (0, .ref (ad 12 k0)), (1, .int y1), (2, .int y2)]) hx hb dX3_wear_35 hl (k := 0) rfl (by rw [ev9]; rfl) (by decide) rfl (fun ls hl => ?_)
    refine lv_goto (tgt := 2) hx hb dX3_wear_38 (by decide) ?_
    exact hih2 _ _ _ _ _ _ _ (lv_sub hl [0, 1, 2, 3] rfl) hW hS h
  have hL2b : ∀ (ih2 : Int32 → Int32 → Int32 → St → Option (Unit × St)) (hih2 : ∀ (y3 : Int32) (y1 : Int32) (y2 : Int32) (u : St) (H : Heap) (locs : List Loc) (ls : Array Slot), lv_has ls 4 [(3, .int y3), (0, .ref (ad 12 k0)), (1, .int y1), (2, .int y2)] → GW z ad (GC z ad N u) H → va_S (zA z) s.heap H locs → ih2 y3 y1 y2 u = some (r9, u9) → WW H locs (F0 m 2 ls [])), ∀ (y3 : Int32) (y1 : Int32) (y2 : Int32) (u : St) (H : Heap) (locs : List Loc) (ls : Array Slot), lv_has ls 4 [(3, .int y3), (0, .ref (ad 12 k0)), (1, .int y1), (2, .int y2)] → GW z ad (GC z ad N u) H → va_S (zA z) s.heap H locs → f_X3_wear_L2b N k0 ih2 y3 y1 y2 u = some (r9, u9) → WW H locs (F0 m 2 ls []) := by
    intro ih2 hih2 y3 y1 y2 u H locs ls hl hW hS h
    change W p l e _ s m _ below meth c H locs 0 0 _ (F0 m 2 ls [])
    unfold f_X3_wear_L2b at h
    refine lv_iload_n hx hb dX3_wear_2 rfl (lv_at hl 0 rfl) ?_
    refine lv_bipush (v := 8) hx hb dX3_wear_3 (by decide) ?_
    refine lv_icmp_ge (tgt := 41) hx hb dX3_wear_5 (by decide) (fun c1 => ?_) (fun c1 => ?_)
    · replace h := ite_t h c1
      exact ne_vret hx hb hr hlocks hW hS dX3_wear_41 h
    · replace h := ite_f h c1
      refine lv_iload_n hx hb dX3_wear_8 rfl (lv_at hl 2 rfl) ?_
      refine lv_iload_n hx hb dX3_wear_9 rfl (lv_at hl 0 rfl) ?_
      refine lv_ishr hx hb dX3_wear_10 ?_
      refine lv_iconst (v := 1) hx hb dX3_wear_11 (by decide) ?_
      refine lv_iand hx hb dX3_wear_12 ?_
      refine lv_iconst (v := 1) hx hb dX3_wear_13 (by decide) ?_
      refine lv_icmp_ne (tgt := 35) hx hb dX3_wear_14 (by decide) (fun c2 => ?_) (fun c2 => ?_)
      · replace h := ite_f h c2
        obtain ⟨v3, ev3, h⟩ := nm_s h
        refine lv_iinc (v := v3) (lv' := [(3, .int v3), (0, .ref (ad 12 k0)), (1, .int y1), (2, .int y2)]) hx hb dX3_wear_35 hl (k := 0) rfl (by rw [ev3]; rfl) (by decide) rfl (fun ls hl => ?_)
        refine lv_goto (tgt := 2) hx hb dX3_wear_38 (by decide) ?_
        exact hih2 _ _ _ _ _ _ _ (lv_sub hl [0, 1, 2, 3] rfl) hW hS h
      · replace h := ite_t h c2
        refine lv_aload_n hx hb dX3_wear_17 rfl (lv_at hl 1 rfl) ?_
        refine lv_iload_n hx hb dX3_wear_18 rfl (lv_at hl 0 rfl) ?_
        refine lv_iload_n hx hb dX3_wear_19 rfl (lv_at hl 0 rfl) ?_
        refine lv_iload_n hx hb dX3_wear_20 rfl (lv_at hl 3 rfl) ?_
        refine lv_iadd hx hb dX3_wear_21 ?_
        refine lv_iconst (v := 2) hx hb dX3_wear_22 (by decide) ?_
        refine lv_irem hx hb dX3_wear_23 (by decide) ?_
        refine lv_topi (fun v4 ev4 => ?_)
        replace h := nm_at ev4 h
        refine lv_if_ne (tgt := 31) hx hb dX3_wear_24 (by decide) (fun c5 => ?_) (fun c5 => ?_)
        · replace h := ite_f h c5
          refine lv_iconst (v := (-1)) hx hb dX3_wear_31 (by decide) ?_
          exact hB32 ih2 hih2 _ _ _ _ _ _ _ _ _ (lv_sub hl [0, 1, 2, 3] rfl) hW hS h
        · replace h := ite_t h c5
          refine lv_iconst (v := 1) hx hb dX3_wear_27 (by decide) ?_
          refine lv_goto (tgt := 32) hx hb dX3_wear_28 (by decide) ?_
          exact hB32 ih2 hih2 _ _ _ _ _ _ _ _ _ (lv_sub hl [0, 1, 2, 3] rfl) hW hS h
  have hL2 : ∀ (n : Nat), ∀ (y3 : Int32) (y1 : Int32) (y2 : Int32) (u : St) (H : Heap) (locs : List Loc) (ls : Array Slot), lv_has ls 4 [(3, .int y3), (0, .ref (ad 12 k0)), (1, .int y1), (2, .int y2)] → GW z ad (GC z ad N u) H → va_S (zA z) s.heap H locs → f_X3_wear_L2 N k0 n y3 y1 y2 u = some (r9, u9) → WW H locs (F0 m 2 ls []) := by
    intro n
    induction n with
    | zero => intro y3 y1 y2 u H locs ls hl hW hS h; exact absurd h (by intro q; cases q)
    | succ n ihn => intro y3 y1 y2 u H locs ls hl hW hS h; exact hL2b (f_X3_wear_L2 N k0 n) ihn y3 y1 y2 u H locs ls hl hW hS h
  unfold f_X3_wear at h
  refine lv_iconst (v := 0) hx hb dX3_wear_0 (by decide) ?_
  refine lv_istore_n (lv' := [(3, .int 0), (0, .ref (ad 12 k0)), (1, .int x1), (2, .int x2)]) hx hb dX3_wear_1 rfl hl (by decide) rfl (fun ls hl => ?_)
  exact hL2 1000000 _ _ _ _ _ _ _ (lv_sub hl [0, 1, 2, 3] rfl) hW hS h
/-- Panyard$Pan.notesInTune -/
def f_X3_notesInTune_L14b (N : Nt) (k0 : Nat) (ih14 : Int32 → Int32 → Int32 → St → Option (Int32 × St)) (y3 : Int32) (y2 : Int32) (y1 : Int32) (u : St) : Option (Int32 × St) :=
  if 8 ≤ y3 then
    some (y2, u)
  else
    gd (inb y3 8) <|
    nm (mabs (u 14 k0 (ix y3))) fun v4 =>
    if y1 < v4 then
      nm (y3 + 1) fun v6 =>
      ih14 v6 y2 y1 u
    else
      nm (y2 ||| (1 <<< (y3 &&& 31))) fun v7 =>
      nm (y3 + 1) fun v8 =>
      ih14 v8 v7 y1 u
def f_X3_notesInTune_L14 (N : Nt) (k0 : Nat) : Nat → Int32 → Int32 → Int32 → St → Option (Int32 × St) := lp (fun _ _ _ _ => none) (f_X3_notesInTune_L14b N k0)
def f_X3_notesInTune (N : Nt) (u : St) (k0 : Nat) : Option (Int32 × St) :=
  nm (6 + (2 * (u 11 k0 0))) fun v1 =>
  f_X3_notesInTune_L14 N k0 1000000 0 0 v1 u
set_option maxRecDepth 100000 in
set_option maxHeartbeats 4000000 in
theorem c_X3_notesInTune (l : Launch) (z : Zt) (ad : Ad) (N : Nt) (u : St) (k0 : Nat) (hk0 : vPan N k0) {r9 : Int32} {u9 : St} (h : f_X3_notesInTune N u k0 = some (r9, u9)) : MC l z yX3_notesInTune cX3_notesInTune 4 (some .int) { frames := 1, cells := 0, slots := 0, locals := 21 } 0 0 [.ref (ad 12 k0)] ad (GC z ad N u) (QI z ad (GC z ad N u9) r9) := by
  refine Met.ofW (cc := cX3_notesInTune) (maxL := 4) (ret := (some .int)) (by decide) rfl ?_
  intro p e s m args below meth c s₁ B hml hv
  obtain ⟨rfl, hSW, hW⟩ := hv
  have hx := B.exec; have hb := B.bytes; have hr := B.returns; have hlocks := B.notSynchronized
  have hown : s.vm.findClass RX3 = some m.cls := findClass_of_methodNamed B.named
  obtain ⟨hT, hK, hST⟩ := id hSW
  have hS : va_S (zA z) s.heap s.heap [] := va_S.rf
  have hl := lv_entry ([.ref (ad 12 k0)]) (n := 4) (Nat.le_of_ble_eq_true rfl)
  rw [lg_entry_eq]
  generalize (lg_sl ([.ref (ad 12 k0)]) ++ List.replicate (4 - (lg_sl ([.ref (ad 12 k0)])).length) Slot.unset).toArray = ls at hl ⊢
  have hl : lv_has ls 4 [(0, .ref (ad 12 k0))] := hl
  let WW : Heap → List Loc → JFrame → Prop := fun H locs g => W p l e (headSpec [Cond.code yX3_notesInTune cX3_notesInTune 4 (some .int)] { frames := 1, cells := 0, slots := 0, locals := 21 }).room s m [.ref (ad 12 k0)].toArray below meth c H locs 0 0 (MQ below (QI z ad (GC z ad N u9) r9) [.ref (ad 12 k0)].toArray s 0 0 (zA z)) g
  have hL14b : ∀ (ih14 : Int32 → Int32 → Int32 → St → Option (Int32 × St)) (hih14 : ∀ (y3 : Int32) (y2 : Int32) (y1 : Int32) (u : St) (H : Heap) (locs : List Loc) (ls : Array Slot), lv_has ls 4 [(3, .int y3), (2, .int y2), (1, .int y1), (0, .ref (ad 12 k0))] → GW z ad (GC z ad N u) H → va_S (zA z) s.heap H locs → ih14 y3 y2 y1 u = some (r9, u9) → WW H locs (F0 m 14 ls [])), ∀ (y3 : Int32) (y2 : Int32) (y1 : Int32) (u : St) (H : Heap) (locs : List Loc) (ls : Array Slot), lv_has ls 4 [(3, .int y3), (2, .int y2), (1, .int y1), (0, .ref (ad 12 k0))] → GW z ad (GC z ad N u) H → va_S (zA z) s.heap H locs → f_X3_notesInTune_L14b N k0 ih14 y3 y2 y1 u = some (r9, u9) → WW H locs (F0 m 14 ls []) := by
    intro ih14 hih14 y3 y2 y1 u H locs ls hl hW hS h
    change W p l e _ s m _ below meth c H locs 0 0 _ (F0 m 14 ls [])
    unfold f_X3_notesInTune_L14b at h
    refine lv_iload_n hx hb dX3_notesInTune_14 rfl (lv_at hl 0 rfl) ?_
    refine lv_bipush (v := 8) hx hb dX3_notesInTune_15 (by decide) ?_
    refine lv_icmp_ge (tgt := 45) hx hb dX3_notesInTune_17 (by decide) (fun c2 => ?_) (fun c2 => ?_)
    · replace h := ite_t h c2
      refine lv_iload_n hx hb dX3_notesInTune_45 rfl (lv_at hl 1 rfl) ?_
      exact ne_iret hx hb hr rfl hlocks hW hS dX3_notesInTune_46 h
    · replace h := ite_f h c2
      refine lv_aload_n hx hb dX3_notesInTune_20 rfl (lv_at hl 3 rfl) ?_
      refine nb_get hx hb hT hK hown hW fl_X3_9 (kr_12 hk0) (v := .ref (ad 13 k0)) rfl dX3_notesInTune_21 ?_
      refine lv_iload_n hx hb dX3_notesInTune_24 rfl (lv_at hl 0 rfl) ?_
      obtain ⟨g3, h⟩ := gd_s h
      refine nb_iald hx hb hK hW 0 (kr_13 hk0) rfl (inb_in g3) dX3_notesInTune_25 ?_
      refine nb_mabs hx hb hml hl.1 hown hT lm_X3_34 mf_Math_abs ⟨Nat.le_of_ble_eq_true rfl, Nat.le_of_ble_eq_true rfl⟩ ⟨Nat.le_of_ble_eq_true rfl, Nat.le_of_ble_eq_true rfl⟩ dX3_notesInTune_26 ?_
      refine lv_topi (fun v4 ev4 => ?_)
      replace h := nm_at ev4 h
      refine lv_iload_n hx hb dX3_notesInTune_29 rfl (lv_at hl 2 rfl) ?_
      refine lv_icmp_gt (tgt := 39) hx hb dX3_notesInTune_30 (by decide) (fun c5 => ?_) (fun c5 => ?_)
      · replace h := ite_t h c5
        obtain ⟨v6, ev6, h⟩ := nm_s h
        refine lv_iinc (v := v6) (lv' := [(3, .int v6), (2, .int y2), (1, .int y1), (0, .ref (ad 12 k0))]) hx hb dX3_notesInTune_39 hl (k := 0) rfl (by rw [ev6]; rfl) (by decide) rfl (fun ls hl => ?_)
        refine lv_goto (tgt := 14) hx hb dX3_notesInTune_42 (by decide) ?_
        exact hih14 _ _ _ _ _ _ _ (lv_sub hl [0, 1, 2, 3] rfl) hW hS h
      · replace h := ite_f h c5
        refine lv_iload_n hx hb dX3_notesInTune_33 rfl (lv_at hl 1 rfl) ?_
        refine lv_iconst (v := 1) hx hb dX3_notesInTune_34 (by decide) ?_
        refine lv_iload_n hx hb dX3_notesInTune_35 rfl (lv_at hl 0 rfl) ?_
        refine lv_ishl hx hb dX3_notesInTune_36 ?_
        refine lv_ior hx hb dX3_notesInTune_37 ?_
        refine lv_topi (fun v7 ev7 => ?_)
        replace h := nm_at ev7 h
        refine lv_istore_n (lv' := [(2, .int v7), (3, .int y3), (1, .int y1), (0, .ref (ad 12 k0))]) hx hb dX3_notesInTune_38 rfl hl (by decide) rfl (fun ls hl => ?_)
        obtain ⟨v8, ev8, h⟩ := nm_s h
        refine lv_iinc (v := v8) (lv' := [(3, .int v8), (2, .int v7), (1, .int y1), (0, .ref (ad 12 k0))]) hx hb dX3_notesInTune_39 hl (k := 1) rfl (by rw [ev8]; rfl) (by decide) rfl (fun ls hl => ?_)
        refine lv_goto (tgt := 14) hx hb dX3_notesInTune_42 (by decide) ?_
        exact hih14 _ _ _ _ _ _ _ (lv_sub hl [0, 1, 2, 3] rfl) hW hS h
  have hL14 : ∀ (n : Nat), ∀ (y3 : Int32) (y2 : Int32) (y1 : Int32) (u : St) (H : Heap) (locs : List Loc) (ls : Array Slot), lv_has ls 4 [(3, .int y3), (2, .int y2), (1, .int y1), (0, .ref (ad 12 k0))] → GW z ad (GC z ad N u) H → va_S (zA z) s.heap H locs → f_X3_notesInTune_L14 N k0 n y3 y2 y1 u = some (r9, u9) → WW H locs (F0 m 14 ls []) := by
    intro n
    induction n with
    | zero => intro y3 y2 y1 u H locs ls hl hW hS h; exact absurd h (by intro q; cases q)
    | succ n ihn => intro y3 y2 y1 u H locs ls hl hW hS h; exact hL14b (f_X3_notesInTune_L14 N k0 n) ihn y3 y2 y1 u H locs ls hl hW hS h
  unfold f_X3_notesInTune at h
  refine lv_bipush (v := 6) hx hb dX3_notesInTune_0 (by decide) ?_
  refine lv_iconst (v := 2) hx hb dX3_notesInTune_2 (by decide) ?_
  refine lv_aload_n hx hb dX3_notesInTune_3 rfl (lv_at hl 0 rfl) ?_
  refine nb_get hx hb hT hK hown hW fl_X3_19 (kr_12 hk0) (v := .int (u 11 k0 0)) rfl dX3_notesInTune_4 ?_
  refine lv_imul hx hb dX3_notesInTune_7 ?_
  refine lv_iadd hx hb dX3_notesInTune_8 ?_
  refine lv_topi (fun v1 ev1 => ?_)
  replace h := nm_at ev1 h
  refine lv_istore_n (lv' := [(1, .int v1), (0, .ref (ad 12 k0))]) hx hb dX3_notesInTune_9 rfl hl (by decide) rfl (fun ls hl => ?_)
  refine lv_iconst (v := 0) hx hb dX3_notesInTune_10 (by decide) ?_
  refine lv_istore_n (lv' := [(2, .int 0), (1, .int v1), (0, .ref (ad 12 k0))]) hx hb dX3_notesInTune_11 rfl hl (by decide) rfl (fun ls hl => ?_)
  refine lv_iconst (v := 0) hx hb dX3_notesInTune_12 (by decide) ?_
  refine lv_istore_n (lv' := [(3, .int 0), (2, .int 0), (1, .int v1), (0, .ref (ad 12 k0))]) hx hb dX3_notesInTune_13 rfl hl (by decide) rfl (fun ls hl => ?_)
  exact hL14 1000000 _ _ _ _ _ _ _ (lv_sub hl [0, 1, 2, 3] rfl) hW hS h
