/-! 26b: the calls of the reference that make something, or write outside its own fields -/
theorem fmW_ne1 {z : Zt} {w : Int64} {c : ClassId} {n : Nat} {f : Nat → Int32} : fmW z w ≠ .inl (c, n, .inl f) := fun x => Bool.noConfusion (show (false : Bool) = true from congrArg (fun e : va_E => match e with | .inl (_, _, .inl _) => true | _ => false) x)
theorem FM.obj {z : Zt} {G G' : Gt} {A : Nat → Nat} {M : St} {b ci : Nat} {fs : List Value} (h : FM z G A M) (hE : Ext G G' b) (hb : G 99 b = some (.inr (ci, fs))) (h8 : ci ≠ 8) (h9 : ci ≠ 9) : FM z G' A M := by
  have n : ∀ {a : Nat} {e : va_E}, G 99 a = some e → e ≠ .inr (ci, fs) → G' 99 a = some e := fun {a e} ha hn => hE.ne (cell_ne ha hb hn) ha
  exact ⟨n h.1 (inr_ne h8.symm), fun k hk => n (h.2.1 k hk) (inr_ne h9.symm), h.2.2.1.elim fun f hf => ⟨f, n hf (fun x => nomatch x)⟩, n h.2.2.2.1 (fun x => nomatch x), n h.2.2.2.2.1 (fun x => nomatch x), fun i hi => n (h.2.2.2.2.2.1 i hi) (fun x => nomatch x), n h.2.2.2.2.2.2 (fun x => nomatch x)⟩
theorem lk_X11_71 : LK RX11 71 yX11_isNoFamily := Or.inl (List.mem_of_getElem? (i := 1084) (by decide +kernel))
theorem mf_X11_isNoFamily : MFs yX11_isNoFamily cX11_isNoFamily 1 (some .boolean) 1 := ⟨List.mem_of_getElem? (i := 1085) (by decide +kernel), List.mem_of_getElem? (i := 67) (by decide +kernel), List.mem_of_getElem? (i := 1086) (by decide +kernel), by decide +kernel, by decide +kernel, by decide +kernel⟩
theorem nw_X11_78 : kCl[11]? = some (RX8, TX8, 5) ∧ ((u_ws RX8 TX8 5).all (fun w => tbGood w && decide (w ∈ lw_tbl))) = true ∧ Cond.classLink RX11 78 RX8 ∈ lw_tbl ∧ Cond.instantiable RX8 5 ∈ lw_tbl ∧ Cond.initialized RX8 ∈ lw_tbl := ⟨rfl, uw_X8, List.mem_of_getElem? (i := 1102) (by decide +kernel), List.mem_of_getElem? (i := 1103) (by decide +kernel), List.mem_of_getElem? (i := 76) (by decide +kernel)⟩
theorem lk_X11_80 : LK RX11 80 yX8_init := Or.inl (List.mem_of_getElem? (i := 1104) (by decide +kernel))
theorem mf_X8_init : MFi yX8_init cX8_init 4 2 := ⟨List.mem_of_getElem? (i := 1105) (by decide +kernel), List.mem_of_getElem? (i := 76) (by decide +kernel), List.mem_of_getElem? (i := 1106) (by decide +kernel), by decide +kernel, by decide +kernel, by decide +kernel, rfl⟩
theorem lk_X11_83 : LK RX11 83 yJx4a65c_add_9ea2d := Or.inl (List.mem_of_getElem? (i := 1129) (by decide +kernel))
theorem nw_X11_121 : kCl[12]? = some (RX9, TX9, 4) ∧ ((u_ws RX9 TX9 4).all (fun w => tbGood w && decide (w ∈ lw_tbl))) = true ∧ Cond.classLink RX11 121 RX9 ∈ lw_tbl ∧ Cond.instantiable RX9 4 ∈ lw_tbl ∧ Cond.initialized RX9 ∈ lw_tbl := ⟨rfl, uw_X9, List.mem_of_getElem? (i := 1267) (by decide +kernel), List.mem_of_getElem? (i := 1268) (by decide +kernel), List.mem_of_getElem? (i := 85) (by decide +kernel)⟩
theorem lk_X11_123 : LK RX11 123 yX9_init := Or.inl (List.mem_of_getElem? (i := 1269) (by decide +kernel))
theorem mf_X9_init : MFi yX9_init cX9_init 4 3 := ⟨List.mem_of_getElem? (i := 1270) (by decide +kernel), List.mem_of_getElem? (i := 85) (by decide +kernel), List.mem_of_getElem? (i := 1271) (by decide +kernel), by decide +kernel, by decide +kernel, by decide +kernel, rfl⟩
theorem nw_X11_152 : kCl[13]? = some (RX10, TX10, 8) ∧ ((u_ws RX10 TX10 8).all (fun w => tbGood w && decide (w ∈ lw_tbl))) = true ∧ Cond.classLink RX11 152 RX10 ∈ lw_tbl ∧ Cond.instantiable RX10 8 ∈ lw_tbl ∧ Cond.initialized RX10 ∈ lw_tbl := ⟨rfl, uw_X10, List.mem_of_getElem? (i := 1343) (by decide +kernel), List.mem_of_getElem? (i := 1399) (by decide +kernel), List.mem_of_getElem? (i := 91) (by decide +kernel)⟩
theorem lk_X11_173 : LK RX11 173 yX10_init := Or.inl (List.mem_of_getElem? (i := 1400) (by decide +kernel))
theorem mf_X10_init : MFi yX10_init cX10_init 4 3 := ⟨List.mem_of_getElem? (i := 1401) (by decide +kernel), List.mem_of_getElem? (i := 91) (by decide +kernel), List.mem_of_getElem? (i := 1402) (by decide +kernel), by decide +kernel, by decide +kernel, by decide +kernel, rfl⟩
theorem mf_valueOf : MFs yJ6_valueOf_2dffe cJ6_valueOf_2dffe 1 (some (.object "java/lang/Integer")) 1 := ⟨List.mem_of_getElem? (i := 1358) (by decide +kernel), List.mem_of_getElem? (i := 87) (by decide +kernel), List.mem_of_getElem? (i := 1359) (by decide +kernel), by decide +kernel, by decide +kernel, by decide +kernel⟩
-- lean
def g_X11_lean (M : St) (x1 : Int32) (x2 : Int32) : Option (Int32 × Int32) :=
  ob (g_X11_isIn x1 0 2) fun r2 =>
  if r2 = 0 then
    ob2 (g_X11_start M 1 1) fun r27 u28 =>
    gd (r27 = 1) <|
    some (0, u28 0 0 0)
  else
    ob2 (g_X11_start M 0 1) fun r6 u7 =>
    gd (r6 = 0) <|
    ob (g_X11_isIn x2 (-9) 9) fun r11 =>
    if r11 = 0 then
      ob2 (g_X11_refuse u7 1 2) fun r22 u23 =>
      gd (r22 = 1) <|
      some (0, u23 0 0 0)
    else
      ob2 (g_X11_refuse u7 0 2) fun r15 u16 =>
      gd (r15 = 0) <|
      gd (inb x1 3) <|
      some (0, u16 0 0 0)
set_option maxRecDepth 100000 in
set_option maxHeartbeats 4000000 in
theorem m_X11_lean (l : Launch) (z : Zt) (ad : Ad) (G : Gt) (hA : Raw ad) (A : Nat → Nat) (M : St) (hF : FM z G A M) (x1 : Int32) (x2 : Int32) {r9 : Int32} {t9 : Int32} (h : g_X11_lean M x1 x2 = some (r9, t9)) : MC l z yX11_lean cX11_lean 4 (some .int) { frames := 2, cells := 0, slots := 0, locals := 44 } 0 0 [.ref (A 0), .int x1, .int x2] ad G (PWi z ad A r9 t9 (fmO M)) := by
  refine Met.ofW (cc := cX11_lean) (maxL := 4) (ret := (some .int)) (by decide) rfl ?_
  intro p e s m args below meth c s₁ B hml hv
  obtain ⟨rfl, hSW, hW⟩ := hv
  have hx := B.exec; have hb := B.bytes; have hr := B.returns; have hlocks := B.notSynchronized
  have hown : s.vm.findClass RX11 = some m.cls := findClass_of_methodNamed B.named
  obtain ⟨hT, hK, hST, hB0⟩ := id hSW
  have hS : va_S (zA z) s.heap s.heap [] := va_S.rf
  have hl := lv_entry ([.ref (A 0), .int x1, .int x2]) (n := 4) (Nat.le_of_ble_eq_true rfl)
  rw [lg_entry_eq]
  generalize (lg_sl ([.ref (A 0), .int x1, .int x2]) ++ List.replicate (4 - (lg_sl ([.ref (A 0), .int x1, .int x2])).length) Slot.unset).toArray = ls at hl ⊢
  have hl : lv_has ls 4 [(0, .ref (A 0)), (1, .int x1), (2, .int x2)] := hl
  have hw : fmO M = fmO M := rfl
  unfold g_X11_lean at h
  refine lv_aload_n hx hb dX11_lean_0 rfl (lv_at hl 0 rfl) ?_
  refine lv_iload_n hx hb dX11_lean_1 rfl (lv_at hl 1 rfl) ?_
  refine lv_iconst (v := 0) hx hb dX11_lean_2 (by decide) ?_
  refine lv_iconst (v := 2) hx hb dX11_lean_3 (by decide) ?_
  obtain ⟨r2, h1, h⟩ := ob_s h
  refine nb_ci (nb_runS (As := [.int x1, .int 0, .int 2]) (rest := [.ref (A 0)]) hx hb hml hown hSW hS hW (m_X11_isIn l z ad _ hA x1 0 2 h1) mf_X11_isIn lk_X11_63 rfl ⟨rfl, rfl⟩ ⟨Nat.le_of_ble_eq_true rfl, Nat.le_of_ble_eq_true rfl⟩ hl.1 (Nat.le_of_ble_eq_true rfl) dX11_lean_4 ⟨Nat.le_of_ble_eq_true rfl, Nat.le_of_ble_eq_true rfl⟩) hS (fun H locs hW hS => ?_)
  refine lv_if_ne (tgt := 14) hx hb dX11_lean_7 (by decide) (fun c4 => ?_) (fun c4 => ?_)
  · replace h := ite_f h c4
    refine lv_iconst (v := 0) hx hb dX11_lean_14 (by decide) ?_
    refine lv_iconst (v := 1) hx hb dX11_lean_15 (by decide) ?_
    obtain ⟨r6, u7, h5, h⟩ := ob2_s h
    obtain ⟨g09, hz8⟩ := gd_s h
    clear h
    subst g09
    have h := hz8
    clear hz8
    refine fm_cs (nb_runVr (As := [.int 0, .int 1]) (rest := []) hA hx hb hml hown hSW hS hW (m_X11_start l z ad _ hA A M hF 0 1 h5) mf_X11_start lk_X11_75 hF.1 rfl rfl ⟨rfl, rfl⟩ ⟨Nat.le_of_ble_eq_true rfl, Nat.le_of_ble_eq_true rfl⟩ hl.1 (Nat.le_of_ble_eq_true rfl) dX11_lean_16 ⟨Nat.le_of_ble_eq_true rfl, Nat.le_of_ble_eq_true rfl⟩) hS (fun H locs G8 hF hw2 hW hS => ?_)
    replace hw := hw2.trans hw
    clear hw2
    refine lv_if_ne (tgt := 46) hx hb dX11_lean_19 (by decide) (fun hc => absurd (by decide) hc) (fun _ => ?_)
    refine lv_aload_n hx hb dX11_lean_22 rfl (lv_at hl 0 rfl) ?_
    refine lv_iload_n hx hb dX11_lean_23 rfl (lv_at hl 2 rfl) ?_
    refine lv_bipush (v := (-9)) hx hb dX11_lean_24 (by decide) ?_
    refine lv_bipush (v := 9) hx hb dX11_lean_26 (by decide) ?_
    obtain ⟨r11, h10, h⟩ := ob_s h
    refine nb_ci (nb_runS (As := [.int x2, .int (-9), .int 9]) (rest := [.ref (A 0)]) hx hb hml hown hSW hS hW (m_X11_isIn l z ad _ hA x2 (-9) 9 h10) mf_X11_isIn lk_X11_63 rfl ⟨rfl, rfl⟩ ⟨Nat.le_of_ble_eq_true rfl, Nat.le_of_ble_eq_true rfl⟩ hl.1 (Nat.le_of_ble_eq_true rfl) dX11_lean_28 ⟨Nat.le_of_ble_eq_true rfl, Nat.le_of_ble_eq_true rfl⟩) hS (fun H locs hW hS => ?_)
    refine lv_if_ne (tgt := 38) hx hb dX11_lean_31 (by decide) (fun c13 => ?_) (fun c13 => ?_)
    · replace h := ite_f h c13
      refine lv_iconst (v := 0) hx hb dX11_lean_38 (by decide) ?_
      refine lv_iconst (v := 2) hx hb dX11_lean_39 (by decide) ?_
      obtain ⟨r15, u16, h14, h⟩ := ob2_s h
      obtain ⟨g18, hz8⟩ := gd_s h
      clear h
      subst g18
      have h := hz8
      clear hz8
      refine fm_cs (nb_runVr (As := [.int 0, .int 2]) (rest := []) hA hx hb hml hown hSW hS hW (m_X11_refuse l z ad _ hA A u7 hF 0 2 h14) mf_X11_refuse lk_X11_59 hF.1 rfl rfl ⟨rfl, rfl⟩ ⟨Nat.le_of_ble_eq_true rfl, Nat.le_of_ble_eq_true rfl⟩ hl.1 (Nat.le_of_ble_eq_true rfl) dX11_lean_40 ⟨Nat.le_of_ble_eq_true rfl, Nat.le_of_ble_eq_true rfl⟩) hS (fun H locs G17 hF hw2 hW hS => ?_)
      replace hw := hw2.trans hw
      clear hw2
      refine lv_if_eq (tgt := 48) hx hb dX11_lean_43 (by decide) (fun _ => ?_) (fun hc => absurd (by decide) hc)
      refine lv_aload_n hx hb dX11_lean_48 rfl (lv_at hl 0 rfl) ?_
      refine nb_getr hA hx hb hT hK hown hW fl_X11_41 hF.1 (v := .ref (A 7)) rfl dX11_lean_49 ?_
      refine lv_iload_n hx hb dX11_lean_52 rfl (lv_at hl 1 rfl) ?_
      obtain ⟨g19, h⟩ := gd_s h
      refine nb_iald_r hA hx hb hK hW 0 hF.2.2.2.1 rfl (inb_in g19) dX11_lean_53 ?_
      refine lv_istore_n (lv' := [(3, .int 0), (0, .ref (A 0)), (1, .int x1), (2, .int x2)]) hx hb dX11_lean_54 rfl hl (by decide) rfl (fun ls hl => ?_)
      refine lv_aload_n hx hb dX11_lean_55 rfl (lv_at hl 1 rfl) ?_
      refine nb_getr hA hx hb hT hK hown hW fl_X11_41 hF.1 (v := .ref (A 7)) rfl dX11_lean_56 ?_
      refine lv_iload_n hx hb dX11_lean_59 rfl (lv_at hl 2 rfl) ?_
      refine lv_iload_n hx hb dX11_lean_60 rfl (lv_at hl 3 rfl) ?_
      refine nb_iastr hA hx hb hK hW hS 0 hF.2.2.2.1 rfl (inb_in g19) dX11_lean_61 (fun H locs G20 hEG20 hcG20 hW hS => ?_)
      have h0 := hEG20.ne (cell_ne hF.1 hF.2.2.2.1 (fun x => nomatch x)) hF.1
      have ho : G20 99 (A 13) = some (fmW z (fmO M)) := by rw [← hw]; exact hEG20.ne (cell_ne hF.2.2.2.2.2.2 hF.2.2.2.1 fmW_ne1) hF.2.2.2.2.2.2
      refine lv_iload_n hx hb dX11_lean_62 rfl (lv_at hl 0 rfl) ?_
      refine W.widen (k := 0) (n := 0) (Nat.le_of_ble_eq_true rfl) (Nat.le_of_ble_eq_true rfl) ?_
      exact fm_iw hx hb hr rfl hlocks hW ⟨⟨_, h0, rfl, rfl⟩, ho⟩ hS dX11_lean_63 h
    · replace h := ite_t h c13
      refine lv_iconst (v := 1) hx hb dX11_lean_34 (by decide) ?_
      refine lv_goto (tgt := 39) hx hb dX11_lean_35 (by decide) ?_
      refine lv_iconst (v := 2) hx hb dX11_lean_39 (by decide) ?_
      obtain ⟨r22, u23, h21, h⟩ := ob2_s h
      obtain ⟨g25, hz8⟩ := gd_s h
      clear h
      subst g25
      have h := hz8
      clear hz8
      refine fm_cs (nb_runVr (As := [.int 1, .int 2]) (rest := []) hA hx hb hml hown hSW hS hW (m_X11_refuse l z ad _ hA A u7 hF 1 2 h21) mf_X11_refuse lk_X11_59 hF.1 rfl rfl ⟨rfl, rfl⟩ ⟨Nat.le_of_ble_eq_true rfl, Nat.le_of_ble_eq_true rfl⟩ hl.1 (Nat.le_of_ble_eq_true rfl) dX11_lean_40 ⟨Nat.le_of_ble_eq_true rfl, Nat.le_of_ble_eq_true rfl⟩) hS (fun H locs G24 hF hw2 hW hS => ?_)
      replace hw := hw2.trans hw
      clear hw2
      refine lv_if_eq (tgt := 48) hx hb dX11_lean_43 (by decide) (fun hc => absurd hc (by decide)) (fun _ => ?_)
      refine lv_iconst (v := 0) hx hb dX11_lean_46 (by decide) ?_
      refine W.widen (k := 0) (n := 0) (Nat.le_of_ble_eq_true rfl) (Nat.le_of_ble_eq_true rfl) ?_
      exact fm_iw hx hb hr rfl hlocks hW (hF.w hw) hS dX11_lean_47 h
  · replace h := ite_t h c4
    refine lv_iconst (v := 1) hx hb dX11_lean_10 (by decide) ?_
    refine lv_goto (tgt := 15) hx hb dX11_lean_11 (by decide) ?_
    refine lv_iconst (v := 1) hx hb dX11_lean_15 (by decide) ?_
    obtain ⟨r27, u28, h26, h⟩ := ob2_s h
    obtain ⟨g30, hz8⟩ := gd_s h
    clear h
    subst g30
    have h := hz8
    clear hz8
    refine fm_cs (nb_runVr (As := [.int 1, .int 1]) (rest := []) hA hx hb hml hown hSW hS hW (m_X11_start l z ad _ hA A M hF 1 1 h26) mf_X11_start lk_X11_75 hF.1 rfl rfl ⟨rfl, rfl⟩ ⟨Nat.le_of_ble_eq_true rfl, Nat.le_of_ble_eq_true rfl⟩ hl.1 (Nat.le_of_ble_eq_true rfl) dX11_lean_16 ⟨Nat.le_of_ble_eq_true rfl, Nat.le_of_ble_eq_true rfl⟩) hS (fun H locs G29 hF hw2 hW hS => ?_)
    replace hw := hw2.trans hw
    clear hw2
    refine lv_if_ne (tgt := 46) hx hb dX11_lean_19 (by decide) (fun _ => ?_) (fun hc => absurd hc (by decide))
    refine lv_iconst (v := 0) hx hb dX11_lean_46 (by decide) ?_
    refine W.widen (k := 0) (n := 0) (Nat.le_of_ble_eq_true rfl) (Nat.le_of_ble_eq_true rfl) ?_
    exact fm_iw hx hb hr rfl hlocks hW (hF.w hw) hS dX11_lean_47 h
-- pan
def g_X11_pan (M : St) (x1 : Int32) : Option (Int32 × Int32) :=
  ob (g_X11_isNoFamily x1) fun r2 =>
  ob2 (g_X11_start M r2 1) fun r5 u6 =>
  if r5 = 0 then
    ob2 (g_X11_refuse u6 0 2) fun r10 u11 =>
    gd (r10 = 0) <|
    nm (sset u11 12 0 0 ((u11 12 0 0) - 40)) fun u18 =>
    some (0, u18 0 0 0)
  else
    some (0, u6 0 0 0)
set_option maxRecDepth 100000 in
set_option maxHeartbeats 4000000 in
theorem m_X11_pan (l : Launch) (z : Zt) (ad : Ad) (G : Gt) (hA : Raw ad) (A : Nat → Nat) (M : St) (hF : FM z G A M) (o : Ot) (hA9 : A 9 = o.1) (x1 : Int32) {r9 : Int32} {t9 : Int32} (h : g_X11_pan M x1 = some (r9, t9)) : MO l z o yX11_pan cX11_pan 2 (some .int) { frames := 5, cells := 3, slots := 23, locals := 181 } 3 23 [.ref (A 0), .int x1] ad G (PWi z ad A r9 t9 (fmO M)) := by
  refine Met.ofW (cc := cX11_pan) (maxL := 2) (ret := (some .int)) (by decide) rfl ?_
  intro p e s m args below meth c s₁ B hml hv
  obtain ⟨rfl, hSW, hSO, hW⟩ := hv
  have hx := B.exec; have hb := B.bytes; have hr := B.returns; have hlocks := B.notSynchronized
  have hown : s.vm.findClass RX11 = some m.cls := findClass_of_methodNamed B.named
  obtain ⟨hT, hK, hST, hB0⟩ := id hSW
  have hS : va_S (zA z) s.heap s.heap [] := va_S.rf
  have hl := lv_entry ([.ref (A 0), .int x1]) (n := 2) (Nat.le_of_ble_eq_true rfl)
  rw [lg_entry_eq]
  generalize (lg_sl ([.ref (A 0), .int x1]) ++ List.replicate (2 - (lg_sl ([.ref (A 0), .int x1])).length) Slot.unset).toArray = ls at hl ⊢
  have hl : lv_has ls 2 [(0, .ref (A 0)), (1, .int x1)] := hl
  have hw : fmO M = fmO M := rfl
  unfold g_X11_pan at h
  refine lv_aload_n hx hb dX11_pan_0 rfl (lv_at hl 0 rfl) ?_
  refine lv_iload_n hx hb dX11_pan_1 rfl (lv_at hl 1 rfl) ?_
  obtain ⟨r2, h1, h⟩ := ob_s h
  refine nb_ci (nb_runS (As := [.int x1]) (rest := [.ref (A 0)]) hx hb hml hown hSW hS hW (m_X11_isNoFamily l z ad _ hA x1 h1) mf_X11_isNoFamily lk_X11_71 rfl ⟨rfl, rfl⟩ ⟨Nat.le_of_ble_eq_true rfl, Nat.le_of_ble_eq_true rfl⟩ hl.1 (Nat.le_of_ble_eq_true rfl) dX11_pan_2 ⟨Nat.le_of_ble_eq_true rfl, Nat.le_of_ble_eq_true rfl⟩) hS (fun H locs hW hS => ?_)
  refine lv_iconst (v := 1) hx hb dX11_pan_5 (by decide) ?_
  obtain ⟨r5, u6, h4, h⟩ := ob2_s h
  refine fm_cs (nb_runVr (As := [.int r2, .int 1]) (rest := []) hA hx hb hml hown hSW hS hW (m_X11_start l z ad _ hA A M hF r2 1 h4) mf_X11_start lk_X11_75 hF.1 rfl rfl ⟨rfl, rfl⟩ ⟨Nat.le_of_ble_eq_true rfl, Nat.le_of_ble_eq_true rfl⟩ hl.1 (Nat.le_of_ble_eq_true rfl) dX11_pan_6 ⟨Nat.le_of_ble_eq_true rfl, Nat.le_of_ble_eq_true rfl⟩) hS (fun H locs G7 hF hw2 hW hS => ?_)
  replace hw := hw2.trans hw
  clear hw2
  refine lv_if_ne (tgt := 37) hx hb dX11_pan_9 (by decide) (fun c8 => ?_) (fun c8 => ?_)
  · replace h := ite_f h c8
    refine lv_iconst (v := 0) hx hb dX11_pan_37 (by decide) ?_
    refine W.widen (k := 3) (n := 23) (Nat.le_of_ble_eq_true rfl) (Nat.le_of_ble_eq_true rfl) ?_
    exact fm_iw hx hb hr rfl hlocks hW (hF.w hw) hS dX11_pan_38 h
  · replace h := ite_t h c8
    refine lv_aload_n hx hb dX11_pan_12 rfl (lv_at hl 0 rfl) ?_
    refine lv_aload_n hx hb dX11_pan_13 rfl (lv_at hl 0 rfl) ?_
    refine nb_getr hA hx hb hT hK hown hW fl_X11_19 hF.1 (v := .ref (A 1)) rfl dX11_pan_14 ?_
    refine nb_ci (nb_runVr (As := []) (rest := [.ref (A 0)]) hA hx hb hml hown hSW hS hW (m_size l z ad _ hA (A 1) (hF.2.1 0 (by decide))) mf_Jx4a65c_size_8abf5 lk_X11_67 (hF.2.1 0 (by decide)) rfl rfl ⟨rfl, rfl⟩ ⟨Nat.le_of_ble_eq_true rfl, Nat.le_of_ble_eq_true rfl⟩ hl.1 (Nat.le_of_ble_eq_true rfl) dX11_pan_17 ⟨Nat.le_of_ble_eq_true rfl, Nat.le_of_ble_eq_true rfl⟩) hS (fun H locs hW hS => ?_)
    refine lv_bipush (v := 6) hx hb dX11_pan_20 (by decide) ?_
    refine lv_icmp_ne (tgt := 29) hx hb dX11_pan_22 (by decide) (fun _ => ?_) (fun hc => absurd hc (by decide))
    refine lv_iconst (v := 0) hx hb dX11_pan_29 (by decide) ?_
    refine lv_iconst (v := 2) hx hb dX11_pan_30 (by decide) ?_
    obtain ⟨r10, u11, h09, h⟩ := ob2_s h
    obtain ⟨g13, hz8⟩ := gd_s h
    clear h
    subst g13
    have h := hz8
    clear hz8
    refine fm_cs (nb_runVr (As := [.int 0, .int 2]) (rest := []) hA hx hb hml hown hSW hS hW (m_X11_refuse l z ad _ hA A u6 hF 0 2 h09) mf_X11_refuse lk_X11_59 hF.1 rfl rfl ⟨rfl, rfl⟩ ⟨Nat.le_of_ble_eq_true rfl, Nat.le_of_ble_eq_true rfl⟩ hl.1 (Nat.le_of_ble_eq_true rfl) dX11_pan_31 ⟨Nat.le_of_ble_eq_true rfl, Nat.le_of_ble_eq_true rfl⟩) hS (fun H locs G12 hF hw2 hW hS => ?_)
    replace hw := hw2.trans hw
    clear hw2
    refine lv_if_eq (tgt := 39) hx hb dX11_pan_34 (by decide) (fun _ => ?_) (fun hc => absurd (by decide) hc)
    refine lv_aload_n hx hb dX11_pan_39 rfl (lv_at hl 0 rfl) ?_
    refine nb_getr hA hx hb hT hK hown hW fl_X11_19 hF.1 (v := .ref (A 1)) rfl dX11_pan_40 ?_
    refine nb_new (fs := [.int 0, .null, .int 0, .int 0, .int 0]) hx hb hSW hown hA hW hS nw_X11_78 tyX8 tyX8_ok (fun j hj => by rcases (show j = 0 ∨ j = 1 ∨ j = 2 ∨ j = 3 ∨ j = 4 by omega) with rfl | rfl | rfl | rfl | rfl <;> rfl) ⟨Nat.le_of_ble_eq_true rfl, Nat.le_of_ble_eq_true rfl⟩ dX11_pan_43 (fun q14 H G15 hnq14 hEq14 hcq14 hW hS => ?_)
    replace hF := hF.ext0 hEq14
    refine lv_dup hx hb dX11_pan_46 rfl ?_
    refine lv_iload_n hx hb dX11_pan_47 rfl (lv_at hl 1 rfl) ?_
    refine lv_aload_n hx hb dX11_pan_48 rfl (lv_at hl 0 rfl) ?_
    refine nb_getr hA hx hb hT hK hown hW fl_X11_19 hF.1 (v := .ref (A 1)) rfl dX11_pan_49 ?_
    refine nb_ci (nb_runVr (As := []) (rest := [.int x1, .ref q14, .ref q14, .ref (A 1)]) hA hx hb hml hown hSW hS hW (m_size l z ad _ hA (A 1) (hF.2.1 0 (by decide))) mf_Jx4a65c_size_8abf5 lk_X11_67 (hF.2.1 0 (by decide)) rfl rfl ⟨rfl, rfl⟩ ⟨Nat.le_of_ble_eq_true rfl, Nat.le_of_ble_eq_true rfl⟩ hl.1 (Nat.le_of_ble_eq_true rfl) dX11_pan_52 ⟨Nat.le_of_ble_eq_true rfl, Nat.le_of_ble_eq_true rfl⟩) hS (fun H locs hW hS => ?_)
    refine va_callv (nb_runI (As := [.int x1, .int 0]) (rest := [.ref q14, .ref (A 1)]) hx hb hml hown hSW hS hW (c_X8_init l z ad _ hA q14 x1 0 hcq14) mf_X8_init lk_X11_80 rfl ⟨rfl, rfl⟩ ⟨Nat.le_of_ble_eq_true rfl, Nat.le_of_ble_eq_true rfl⟩ hl.1 (Nat.le_of_ble_eq_true rfl) dX11_pan_55 ⟨Nat.le_of_ble_eq_true rfl, Nat.le_of_ble_eq_true rfl⟩) hS (fun _ _ h => h) (fun _ h => h) (fun uG16 tG16 H locs htG16 _ hpG16 hWG16 _ _ hS => ?_)
    obtain ⟨n0_, F_, huG16, hJG16⟩ := hpG16
    rw [huG16] at hJG16
    subst htG16
    obtain ⟨G16, _⟩ := uG16
    replace hW : GW z ad G16 tG16.heap := hWG16
    replace hF := hF.obj hJG16.1 hcq14 (by decide) (by decide)
    have hqq14 := hJG16.2.1
    have hLk : _ = some (Sum.inr (9, [.int 0, .ref o.1, .int 0]) : va_E) := (hF.2.1 0 (by decide)).trans (by rw [← hA9]; rfl)
    refine va_calli (nb_runVo (As := [.ref q14]) (rest := []) hA hx hb hml hown hSW hSO hS hW (m_add1 l z o ad _ hA (A 1) q14 (Or.inl ⟨11, _, _, hqq14, by decide, rfl, List.mem_of_getElem? (i := 1679) (by decide +kernel)⟩) hLk) mf_add1 lk_X11_83 hLk rfl rfl ⟨rfl, rfl⟩ ⟨Nat.le_of_ble_eq_true rfl, Nat.le_of_ble_eq_true rfl⟩ hl.1 (Nat.le_of_ble_eq_true rfl) dX11_pan_58 ⟨Nat.le_of_ble_eq_true rfl, Nat.le_of_ble_eq_true rfl⟩) hS (fun _ _ h => h) (fun _ h => h) (fun rG17 G17 tG17 H locs htG17 _ hpG17 hWG17 _ _ hS => ?_)
    obtain ⟨rfl, hEG17, qG17, hL⟩ := hpG17
    subst htG17
    replace hW : GW z ad G17 tG17.heap := hWG17
    have h0 := hEG17.ne (cell_ne hF.1 hLk (inr_ne (by decide))) hF.1
    have ho : G17 99 (A 13) = some (fmW z (fmO M)) := by rw [← hw]; exact hEG17.ne (cell_ne hF.2.2.2.2.2.2 hLk (fun x => nomatch x)) hF.2.2.2.2.2.2
    refine lv_pop hx hb dX11_pan_61 rfl ?_
    refine lv_aload_n hx hb dX11_pan_62 rfl (lv_at hl 0 rfl) ?_
    refine lv_dup hx hb dX11_pan_63 rfl ?_
    refine nb_getr hA hx hb hT hK hown hW fl_X11_49 h0 (v := .int (u11 12 0 0)) rfl dX11_pan_64 ?_
    refine lv_bipush (v := 40) hx hb dX11_pan_67 (by decide) ?_
    refine lv_isub hx hb dX11_pan_69 ?_
    obtain ⟨u18, eu18, h⟩ := nm_s h
    refine nb_putr hA hx hb hT hK hown hW hS fl_X11_49 tyX11 tyX11_ok nmX11 h0 (v := .int ((u11 12 0 0) - 40)) rfl rfl rfl (Nat.le_of_ble_eq_true rfl) dX11_pan_70 (fun H locs G19 hEG19 hcG19 hW hS => ?_)
    replace hL := hEG19.ne (cell_ne hL h0 (inr_ne (by decide))) hL
    replace ho := hEG19.ne (cell_ne ho h0 (fun x => nomatch x)) ho
    replace h0 : G19 99 (A 0) = some (.inr (8, fmF A u18)) := by rw [hcG19, eu18]; rfl
    refine lv_aload_n hx hb dX11_pan_73 rfl (lv_at hl 0 rfl) ?_
    refine nb_getr hA hx hb hT hK hown hW fl_X11_19 h0 (v := .ref (A 1)) rfl dX11_pan_74 ?_
    refine nb_ci (nb_runVr (As := []) (rest := []) hA hx hb hml hown hSW hS hW (m_size l z ad _ hA (A 1) hL) mf_Jx4a65c_size_8abf5 lk_X11_67 hL rfl rfl ⟨rfl, rfl⟩ ⟨Nat.le_of_ble_eq_true rfl, Nat.le_of_ble_eq_true rfl⟩ hl.1 (Nat.le_of_ble_eq_true rfl) dX11_pan_77 ⟨Nat.le_of_ble_eq_true rfl, Nat.le_of_ble_eq_true rfl⟩) hS (fun H locs hW hS => ?_)
    refine lv_iconst (v := 1) hx hb dX11_pan_80 (by decide) ?_
    refine lv_isub hx hb dX11_pan_81 ?_
    refine lv_topc (v := 0) (by decide) ?_
    refine W.widen (k := 3) (n := 23) (Nat.le_of_ble_eq_true rfl) (Nat.le_of_ble_eq_true rfl) ?_
    exact fm_iw hx hb hr rfl hlocks hW ⟨⟨_, h0, rfl, rfl⟩, ho⟩ hS dX11_pan_82 h
-- phrase
def g_X11_phrase (M : St) (x1 : Int32) (x2 : Int32) (x3 : Int32) : Option (Int32 × Int32) :=
  ob (g_X11_isNoFamily x1) fun r2 =>
  ob2 (g_X11_start M r2 1) fun r5 u6 =>
  if r5 = 0 then
    ob (g_X11_isNoTold x2 x3) fun r10 =>
    ob2 (g_X11_refuse u6 r10 2) fun r13 u14 =>
    if r13 = 0 then
      ob2 (g_X11_refuse u14 0 3) fun r18 u19 =>
      gd (r18 = 0) <|
      some (0, u19 0 0 0)
    else
      some (0, u14 0 0 0)
  else
    some (0, u6 0 0 0)
set_option maxRecDepth 100000 in
set_option maxHeartbeats 4000000 in
theorem m_X11_phrase (l : Launch) (z : Zt) (ad : Ad) (G : Gt) (hA : Raw ad) (A : Nat → Nat) (M : St) (hF : FM z G A M) (o : Ot) (hA9 : A 9 = o.1) (x1 : Int32) (x2 : Int32) (x3 : Int32) {r9 : Int32} {t9 : Int32} (h : g_X11_phrase M x1 x2 x3 = some (r9, t9)) : MO l z o yX11_phrase cX11_phrase 4 (some .int) { frames := 5, cells := 2, slots := 14, locals := 181 } 2 14 [.ref (A 0), .int x1, .int x2, .int x3] ad G (PWi z ad A r9 t9 (fmO M)) := by
  refine Met.ofW (cc := cX11_phrase) (maxL := 4) (ret := (some .int)) (by decide) rfl ?_
  intro p e s m args below meth c s₁ B hml hv
  obtain ⟨rfl, hSW, hSO, hW⟩ := hv
  have hx := B.exec; have hb := B.bytes; have hr := B.returns; have hlocks := B.notSynchronized
  have hown : s.vm.findClass RX11 = some m.cls := findClass_of_methodNamed B.named
  obtain ⟨hT, hK, hST, hB0⟩ := id hSW
  have hS : va_S (zA z) s.heap s.heap [] := va_S.rf
  have hl := lv_entry ([.ref (A 0), .int x1, .int x2, .int x3]) (n := 4) (Nat.le_of_ble_eq_true rfl)
  rw [lg_entry_eq]
  generalize (lg_sl ([.ref (A 0), .int x1, .int x2, .int x3]) ++ List.replicate (4 - (lg_sl ([.ref (A 0), .int x1, .int x2, .int x3])).length) Slot.unset).toArray = ls at hl ⊢
  have hl : lv_has ls 4 [(0, .ref (A 0)), (1, .int x1), (2, .int x2), (3, .int x3)] := hl
  have hw : fmO M = fmO M := rfl
  unfold g_X11_phrase at h
  refine lv_aload_n hx hb dX11_phrase_0 rfl (lv_at hl 0 rfl) ?_
  refine lv_iload_n hx hb dX11_phrase_1 rfl (lv_at hl 1 rfl) ?_
  obtain ⟨r2, h1, h⟩ := ob_s h
  refine nb_ci (nb_runS (As := [.int x1]) (rest := [.ref (A 0)]) hx hb hml hown hSW hS hW (m_X11_isNoFamily l z ad _ hA x1 h1) mf_X11_isNoFamily lk_X11_71 rfl ⟨rfl, rfl⟩ ⟨Nat.le_of_ble_eq_true rfl, Nat.le_of_ble_eq_true rfl⟩ hl.1 (Nat.le_of_ble_eq_true rfl) dX11_phrase_2 ⟨Nat.le_of_ble_eq_true rfl, Nat.le_of_ble_eq_true rfl⟩) hS (fun H locs hW hS => ?_)
  refine lv_iconst (v := 1) hx hb dX11_phrase_5 (by decide) ?_
  obtain ⟨r5, u6, h4, h⟩ := ob2_s h
  refine fm_cs (nb_runVr (As := [.int r2, .int 1]) (rest := []) hA hx hb hml hown hSW hS hW (m_X11_start l z ad _ hA A M hF r2 1 h4) mf_X11_start lk_X11_75 hF.1 rfl rfl ⟨rfl, rfl⟩ ⟨Nat.le_of_ble_eq_true rfl, Nat.le_of_ble_eq_true rfl⟩ hl.1 (Nat.le_of_ble_eq_true rfl) dX11_phrase_6 ⟨Nat.le_of_ble_eq_true rfl, Nat.le_of_ble_eq_true rfl⟩) hS (fun H locs G7 hF hw2 hW hS => ?_)
  replace hw := hw2.trans hw
  clear hw2
  refine lv_if_ne (tgt := 50) hx hb dX11_phrase_9 (by decide) (fun c8 => ?_) (fun c8 => ?_)
  · replace h := ite_f h c8
    refine lv_iconst (v := 0) hx hb dX11_phrase_50 (by decide) ?_
    refine W.widen (k := 2) (n := 14) (Nat.le_of_ble_eq_true rfl) (Nat.le_of_ble_eq_true rfl) ?_
    exact fm_iw hx hb hr rfl hlocks hW (hF.w hw) hS dX11_phrase_51 h
  · replace h := ite_t h c8
    refine lv_aload_n hx hb dX11_phrase_12 rfl (lv_at hl 0 rfl) ?_
    refine lv_iload_n hx hb dX11_phrase_13 rfl (lv_at hl 2 rfl) ?_
    refine lv_iload_n hx hb dX11_phrase_14 rfl (lv_at hl 3 rfl) ?_
    obtain ⟨r10, h09, h⟩ := ob_s h
    refine nb_ci (nb_runS (As := [.int x2, .int x3]) (rest := [.ref (A 0)]) hx hb hml hown hSW hS hW (m_X11_isNoTold l z ad _ hA x2 x3 h09) mf_X11_isNoTold lk_X11_117 rfl ⟨rfl, rfl⟩ ⟨Nat.le_of_ble_eq_true rfl, Nat.le_of_ble_eq_true rfl⟩ hl.1 (Nat.le_of_ble_eq_true rfl) dX11_phrase_15 ⟨Nat.le_of_ble_eq_true rfl, Nat.le_of_ble_eq_true rfl⟩) hS (fun H locs hW hS => ?_)
    refine lv_iconst (v := 2) hx hb dX11_phrase_18 (by decide) ?_
    obtain ⟨r13, u14, h12, h⟩ := ob2_s h
    refine fm_cs (nb_runVr (As := [.int r10, .int 2]) (rest := []) hA hx hb hml hown hSW hS hW (m_X11_refuse l z ad _ hA A u6 hF r10 2 h12) mf_X11_refuse lk_X11_59 hF.1 rfl rfl ⟨rfl, rfl⟩ ⟨Nat.le_of_ble_eq_true rfl, Nat.le_of_ble_eq_true rfl⟩ hl.1 (Nat.le_of_ble_eq_true rfl) dX11_phrase_19 ⟨Nat.le_of_ble_eq_true rfl, Nat.le_of_ble_eq_true rfl⟩) hS (fun H locs G15 hF hw2 hW hS => ?_)
    replace hw := hw2.trans hw
    clear hw2
    refine lv_if_ne (tgt := 50) hx hb dX11_phrase_22 (by decide) (fun c16 => ?_) (fun c16 => ?_)
    · replace h := ite_f h c16
      refine lv_iconst (v := 0) hx hb dX11_phrase_50 (by decide) ?_
      refine W.widen (k := 2) (n := 14) (Nat.le_of_ble_eq_true rfl) (Nat.le_of_ble_eq_true rfl) ?_
      exact fm_iw hx hb hr rfl hlocks hW (hF.w hw) hS dX11_phrase_51 h
    · replace h := ite_t h c16
      refine lv_aload_n hx hb dX11_phrase_25 rfl (lv_at hl 0 rfl) ?_
      refine lv_aload_n hx hb dX11_phrase_26 rfl (lv_at hl 0 rfl) ?_
      refine nb_getr hA hx hb hT hK hown hW fl_X11_25 hF.1 (v := .ref (A 2)) rfl dX11_phrase_27 ?_
      refine nb_ci (nb_runVr (As := []) (rest := [.ref (A 0)]) hA hx hb hml hown hSW hS hW (m_size l z ad _ hA (A 2) (hF.2.1 1 (by decide))) mf_Jx4a65c_size_8abf5 lk_X11_67 (hF.2.1 1 (by decide)) rfl rfl ⟨rfl, rfl⟩ ⟨Nat.le_of_ble_eq_true rfl, Nat.le_of_ble_eq_true rfl⟩ hl.1 (Nat.le_of_ble_eq_true rfl) dX11_phrase_30 ⟨Nat.le_of_ble_eq_true rfl, Nat.le_of_ble_eq_true rfl⟩) hS (fun H locs hW hS => ?_)
      refine lv_bipush (v := 8) hx hb dX11_phrase_33 (by decide) ?_
      refine lv_icmp_ne (tgt := 42) hx hb dX11_phrase_35 (by decide) (fun _ => ?_) (fun hc => absurd hc (by decide))
      refine lv_iconst (v := 0) hx hb dX11_phrase_42 (by decide) ?_
      refine lv_iconst (v := 3) hx hb dX11_phrase_43 (by decide) ?_
      obtain ⟨r18, u19, h17, h⟩ := ob2_s h
      obtain ⟨g21, hz8⟩ := gd_s h
      clear h
      subst g21
      have h := hz8
      clear hz8
      refine fm_cs (nb_runVr (As := [.int 0, .int 3]) (rest := []) hA hx hb hml hown hSW hS hW (m_X11_refuse l z ad _ hA A u14 hF 0 3 h17) mf_X11_refuse lk_X11_59 hF.1 rfl rfl ⟨rfl, rfl⟩ ⟨Nat.le_of_ble_eq_true rfl, Nat.le_of_ble_eq_true rfl⟩ hl.1 (Nat.le_of_ble_eq_true rfl) dX11_phrase_44 ⟨Nat.le_of_ble_eq_true rfl, Nat.le_of_ble_eq_true rfl⟩) hS (fun H locs G20 hF hw2 hW hS => ?_)
      replace hw := hw2.trans hw
      clear hw2
      refine lv_if_eq (tgt := 52) hx hb dX11_phrase_47 (by decide) (fun _ => ?_) (fun hc => absurd (by decide) hc)
      refine lv_aload_n hx hb dX11_phrase_52 rfl (lv_at hl 0 rfl) ?_
      refine nb_getr hA hx hb hT hK hown hW fl_X11_25 hF.1 (v := .ref (A 2)) rfl dX11_phrase_53 ?_
      refine nb_new (fs := [.int 0, .int 0, .int 0, .int 0]) hx hb hSW hown hA hW hS nw_X11_121 tyX9 tyX9_ok (fun j hj => by rcases (show j = 0 ∨ j = 1 ∨ j = 2 ∨ j = 3 by omega) with rfl | rfl | rfl | rfl <;> rfl) ⟨Nat.le_of_ble_eq_true rfl, Nat.le_of_ble_eq_true rfl⟩ dX11_phrase_56 (fun q22 H G23 hnq22 hEq22 hcq22 hW hS => ?_)
      replace hF := hF.ext0 hEq22
      refine lv_dup hx hb dX11_phrase_59 rfl ?_
      refine lv_iload_n hx hb dX11_phrase_60 rfl (lv_at hl 1 rfl) ?_
      refine lv_iload_n hx hb dX11_phrase_61 rfl (lv_at hl 2 rfl) ?_
      refine lv_iload_n hx hb dX11_phrase_62 rfl (lv_at hl 3 rfl) ?_
      refine va_callv (nb_runI (As := [.int x1, .int x2, .int x3]) (rest := [.ref q22, .ref (A 2)]) hx hb hml hown hSW hS hW (c_X9_init l z ad _ hA q22 x1 x2 x3 hcq22) mf_X9_init lk_X11_123 rfl ⟨rfl, rfl⟩ ⟨Nat.le_of_ble_eq_true rfl, Nat.le_of_ble_eq_true rfl⟩ hl.1 (Nat.le_of_ble_eq_true rfl) dX11_phrase_63 ⟨Nat.le_of_ble_eq_true rfl, Nat.le_of_ble_eq_true rfl⟩) hS (fun _ _ h => h) (fun _ h => h) (fun uG24 tG24 H locs htG24 _ hpG24 hWG24 _ _ hS => ?_)
      obtain ⟨huG24, hJG24⟩ := hpG24
      rw [huG24] at hJG24
      subst htG24
      obtain ⟨G24, _⟩ := uG24
      replace hW : GW z ad G24 tG24.heap := hWG24
      replace hF := hF.obj hJG24.1 hcq22 (by decide) (by decide)
      have hqq22 := hJG24.2.1
      have hLk : _ = some (Sum.inr (9, [.int 0, .ref o.1, .int 0]) : va_E) := (hF.2.1 1 (by decide)).trans (by rw [← hA9]; rfl)
      refine va_calli (nb_runVo (As := [.ref q22]) (rest := []) hA hx hb hml hown hSW hSO hS hW (m_add1 l z o ad _ hA (A 2) q22 (Or.inl ⟨12, _, _, hqq22, by decide, rfl, List.mem_of_getElem? (i := 1681) (by decide +kernel)⟩) hLk) mf_add1 lk_X11_83 hLk rfl rfl ⟨rfl, rfl⟩ ⟨Nat.le_of_ble_eq_true rfl, Nat.le_of_ble_eq_true rfl⟩ hl.1 (Nat.le_of_ble_eq_true rfl) dX11_phrase_66 ⟨Nat.le_of_ble_eq_true rfl, Nat.le_of_ble_eq_true rfl⟩) hS (fun _ _ h => h) (fun _ h => h) (fun rG25 G25 tG25 H locs htG25 _ hpG25 hWG25 _ _ hS => ?_)
      obtain ⟨rfl, hEG25, qG25, hL⟩ := hpG25
      subst htG25
      replace hW : GW z ad G25 tG25.heap := hWG25
      have h0 := hEG25.ne (cell_ne hF.1 hLk (inr_ne (by decide))) hF.1
      have ho : G25 99 (A 13) = some (fmW z (fmO M)) := by rw [← hw]; exact hEG25.ne (cell_ne hF.2.2.2.2.2.2 hLk (fun x => nomatch x)) hF.2.2.2.2.2.2
      refine lv_pop hx hb dX11_phrase_69 rfl ?_
      refine lv_aload_n hx hb dX11_phrase_70 rfl (lv_at hl 0 rfl) ?_
      refine nb_getr hA hx hb hT hK hown hW fl_X11_25 h0 (v := .ref (A 2)) rfl dX11_phrase_71 ?_
      refine nb_ci (nb_runVr (As := []) (rest := []) hA hx hb hml hown hSW hS hW (m_size l z ad _ hA (A 2) hL) mf_Jx4a65c_size_8abf5 lk_X11_67 hL rfl rfl ⟨rfl, rfl⟩ ⟨Nat.le_of_ble_eq_true rfl, Nat.le_of_ble_eq_true rfl⟩ hl.1 (Nat.le_of_ble_eq_true rfl) dX11_phrase_74 ⟨Nat.le_of_ble_eq_true rfl, Nat.le_of_ble_eq_true rfl⟩) hS (fun H locs hW hS => ?_)
      refine lv_iconst (v := 1) hx hb dX11_phrase_77 (by decide) ?_
      refine lv_isub hx hb dX11_phrase_78 ?_
      refine lv_topc (v := 0) (by decide) ?_
      refine W.widen (k := 2) (n := 14) (Nat.le_of_ble_eq_true rfl) (Nat.le_of_ble_eq_true rfl) ?_
      exact fm_iw hx hb hr rfl hlocks hW ⟨⟨_, h0, rfl, rfl⟩, ho⟩ hS dX11_phrase_79 h
-- player
def g_X11_player (M : St) (x1 : Int32) (x2 : Int32) (x3 : Int32) : Option (Int32 × Int32) :=
  ob (g_X11_isNoFamily x1) fun r2 =>
  ob2 (g_X11_start M r2 1) fun r5 u6 =>
  if r5 = 0 then
    ob (g_X11_isIn x2 1 9) fun r10 =>
    if r10 = 0 then
      ob2 (g_X11_refuse u6 1 2) fun r14 u15 =>
      gd (r14 = 1) <|
      some (0, u15 0 0 0)
    else
      ob (g_X11_isIn x3 1 8) fun r19 =>
      if r19 = 0 then
        ob2 (g_X11_refuse u6 1 2) fun r37 u38 =>
        gd (r37 = 1) <|
        some (0, u38 0 0 0)
      else
        ob2 (g_X11_refuse u6 0 2) fun r23 u24 =>
        gd (r23 = 0) <|
        ob2 (g_X11_refuse u24 0 3) fun r28 u29 =>
        gd (r28 = 0) <|
        some (0, u29 0 0 0)
  else
    some (0, u6 0 0 0)
set_option maxRecDepth 100000 in
set_option maxHeartbeats 4000000 in
theorem m_X11_player (l : Launch) (z : Zt) (ad : Ad) (G : Gt) (hA : Raw ad) (A : Nat → Nat) (M : St) (hF : FM z G A M) (o : Ot) (hA9 : A 9 = o.1) (x1 : Int32) (x2 : Int32) (x3 : Int32) {r9 : Int32} {t9 : Int32} (h : g_X11_player M x1 x2 x3 = some (r9, t9)) : MO l z o yX11_player cX11_player 4 (some .int) { frames := 5, cells := 4, slots := 34, locals := 181 } 4 34 [.ref (A 0), .int x1, .int x2, .int x3] ad G (PWi z ad A r9 t9 (fmO M)) := by
  refine Met.ofW (cc := cX11_player) (maxL := 4) (ret := (some .int)) (by decide) rfl ?_
  intro p e s m args below meth c s₁ B hml hv
  obtain ⟨rfl, hSW, hSO, hW⟩ := hv
  have hx := B.exec; have hb := B.bytes; have hr := B.returns; have hlocks := B.notSynchronized
  have hown : s.vm.findClass RX11 = some m.cls := findClass_of_methodNamed B.named
  obtain ⟨hT, hK, hST, hB0⟩ := id hSW
  have hS : va_S (zA z) s.heap s.heap [] := va_S.rf
  have hl := lv_entry ([.ref (A 0), .int x1, .int x2, .int x3]) (n := 4) (Nat.le_of_ble_eq_true rfl)
  rw [lg_entry_eq]
  generalize (lg_sl ([.ref (A 0), .int x1, .int x2, .int x3]) ++ List.replicate (4 - (lg_sl ([.ref (A 0), .int x1, .int x2, .int x3])).length) Slot.unset).toArray = ls at hl ⊢
  have hl : lv_has ls 4 [(0, .ref (A 0)), (1, .int x1), (2, .int x2), (3, .int x3)] := hl
  have hw : fmO M = fmO M := rfl
  unfold g_X11_player at h
  refine lv_aload_n hx hb dX11_player_0 rfl (lv_at hl 0 rfl) ?_
  refine lv_iload_n hx hb dX11_player_1 rfl (lv_at hl 1 rfl) ?_
  obtain ⟨r2, h1, h⟩ := ob_s h
  refine nb_ci (nb_runS (As := [.int x1]) (rest := [.ref (A 0)]) hx hb hml hown hSW hS hW (m_X11_isNoFamily l z ad _ hA x1 h1) mf_X11_isNoFamily lk_X11_71 rfl ⟨rfl, rfl⟩ ⟨Nat.le_of_ble_eq_true rfl, Nat.le_of_ble_eq_true rfl⟩ hl.1 (Nat.le_of_ble_eq_true rfl) dX11_player_2 ⟨Nat.le_of_ble_eq_true rfl, Nat.le_of_ble_eq_true rfl⟩) hS (fun H locs hW hS => ?_)
  refine lv_iconst (v := 1) hx hb dX11_player_5 (by decide) ?_
  obtain ⟨r5, u6, h4, h⟩ := ob2_s h
  refine fm_cs (nb_runVr (As := [.int r2, .int 1]) (rest := []) hA hx hb hml hown hSW hS hW (m_X11_start l z ad _ hA A M hF r2 1 h4) mf_X11_start lk_X11_75 hF.1 rfl rfl ⟨rfl, rfl⟩ ⟨Nat.le_of_ble_eq_true rfl, Nat.le_of_ble_eq_true rfl⟩ hl.1 (Nat.le_of_ble_eq_true rfl) dX11_player_6 ⟨Nat.le_of_ble_eq_true rfl, Nat.le_of_ble_eq_true rfl⟩) hS (fun H locs G7 hF hw2 hW hS => ?_)
  replace hw := hw2.trans hw
  clear hw2
  refine lv_if_ne (tgt := 70) hx hb dX11_player_9 (by decide) (fun c8 => ?_) (fun c8 => ?_)
  · replace h := ite_f h c8
    refine lv_iconst (v := 0) hx hb dX11_player_70 (by decide) ?_
    refine W.widen (k := 4) (n := 34) (Nat.le_of_ble_eq_true rfl) (Nat.le_of_ble_eq_true rfl) ?_
    exact fm_iw hx hb hr rfl hlocks hW (hF.w hw) hS dX11_player_71 h
  · replace h := ite_t h c8
    refine lv_aload_n hx hb dX11_player_12 rfl (lv_at hl 0 rfl) ?_
    refine lv_iload_n hx hb dX11_player_13 rfl (lv_at hl 2 rfl) ?_
    refine lv_iconst (v := 1) hx hb dX11_player_14 (by decide) ?_
    refine lv_bipush (v := 9) hx hb dX11_player_15 (by decide) ?_
    obtain ⟨r10, h09, h⟩ := ob_s h
    refine nb_ci (nb_runS (As := [.int x2, .int 1, .int 9]) (rest := [.ref (A 0)]) hx hb hml hown hSW hS hW (m_X11_isIn l z ad _ hA x2 1 9 h09) mf_X11_isIn lk_X11_63 rfl ⟨rfl, rfl⟩ ⟨Nat.le_of_ble_eq_true rfl, Nat.le_of_ble_eq_true rfl⟩ hl.1 (Nat.le_of_ble_eq_true rfl) dX11_player_17 ⟨Nat.le_of_ble_eq_true rfl, Nat.le_of_ble_eq_true rfl⟩) hS (fun H locs hW hS => ?_)
    refine lv_if_eq (tgt := 33) hx hb dX11_player_20 (by decide) (fun c12 => ?_) (fun c12 => ?_)
    · replace h := ite_t h c12
      refine lv_iconst (v := 1) hx hb dX11_player_33 (by decide) ?_
      refine lv_goto (tgt := 38) hx hb dX11_player_34 (by decide) ?_
      refine lv_iconst (v := 2) hx hb dX11_player_38 (by decide) ?_
      obtain ⟨r14, u15, h13, h⟩ := ob2_s h
      obtain ⟨g17, hz8⟩ := gd_s h
      clear h
      subst g17
      have h := hz8
      clear hz8
      refine fm_cs (nb_runVr (As := [.int 1, .int 2]) (rest := []) hA hx hb hml hown hSW hS hW (m_X11_refuse l z ad _ hA A u6 hF 1 2 h13) mf_X11_refuse lk_X11_59 hF.1 rfl rfl ⟨rfl, rfl⟩ ⟨Nat.le_of_ble_eq_true rfl, Nat.le_of_ble_eq_true rfl⟩ hl.1 (Nat.le_of_ble_eq_true rfl) dX11_player_39 ⟨Nat.le_of_ble_eq_true rfl, Nat.le_of_ble_eq_true rfl⟩) hS (fun H locs G16 hF hw2 hW hS => ?_)
      replace hw := hw2.trans hw
      clear hw2
      refine lv_if_ne (tgt := 70) hx hb dX11_player_42 (by decide) (fun _ => ?_) (fun hc => absurd hc (by decide))
      refine lv_iconst (v := 0) hx hb dX11_player_70 (by decide) ?_
      refine W.widen (k := 4) (n := 34) (Nat.le_of_ble_eq_true rfl) (Nat.le_of_ble_eq_true rfl) ?_
      exact fm_iw hx hb hr rfl hlocks hW (hF.w hw) hS dX11_player_71 h
    · replace h := ite_f h c12
      refine lv_iload_n hx hb dX11_player_23 rfl (lv_at hl 3 rfl) ?_
      refine lv_iconst (v := 1) hx hb dX11_player_24 (by decide) ?_
      refine lv_bipush (v := 8) hx hb dX11_player_25 (by decide) ?_
      obtain ⟨r19, h18, h⟩ := ob_s h
      refine nb_ci (nb_runS (As := [.int x3, .int 1, .int 8]) (rest := [.ref (A 0)]) hx hb hml hown hSW hS hW (m_X11_isIn l z ad _ hA x3 1 8 h18) mf_X11_isIn lk_X11_63 rfl ⟨rfl, rfl⟩ ⟨Nat.le_of_ble_eq_true rfl, Nat.le_of_ble_eq_true rfl⟩ hl.1 (Nat.le_of_ble_eq_true rfl) dX11_player_27 ⟨Nat.le_of_ble_eq_true rfl, Nat.le_of_ble_eq_true rfl⟩) hS (fun H locs hW hS => ?_)
      refine lv_if_ne (tgt := 37) hx hb dX11_player_30 (by decide) (fun c21 => ?_) (fun c21 => ?_)
      · replace h := ite_f h c21
        refine lv_iconst (v := 0) hx hb dX11_player_37 (by decide) ?_
        refine lv_iconst (v := 2) hx hb dX11_player_38 (by decide) ?_
        obtain ⟨r23, u24, h22, h⟩ := ob2_s h
        obtain ⟨g26, hz8⟩ := gd_s h
        clear h
        subst g26
        have h := hz8
        clear hz8
        refine fm_cs (nb_runVr (As := [.int 0, .int 2]) (rest := []) hA hx hb hml hown hSW hS hW (m_X11_refuse l z ad _ hA A u6 hF 0 2 h22) mf_X11_refuse lk_X11_59 hF.1 rfl rfl ⟨rfl, rfl⟩ ⟨Nat.le_of_ble_eq_true rfl, Nat.le_of_ble_eq_true rfl⟩ hl.1 (Nat.le_of_ble_eq_true rfl) dX11_player_39 ⟨Nat.le_of_ble_eq_true rfl, Nat.le_of_ble_eq_true rfl⟩) hS (fun H locs G25 hF hw2 hW hS => ?_)
        replace hw := hw2.trans hw
        clear hw2
        refine lv_if_ne (tgt := 70) hx hb dX11_player_42 (by decide) (fun hc => absurd (by decide) hc) (fun _ => ?_)
        refine lv_aload_n hx hb dX11_player_45 rfl (lv_at hl 0 rfl) ?_
        refine lv_aload_n hx hb dX11_player_46 rfl (lv_at hl 0 rfl) ?_
        refine nb_getr hA hx hb hT hK hown hW fl_X11_31 hF.1 (v := .ref (A 4)) rfl dX11_player_47 ?_
        refine nb_ci (nb_runVr (As := []) (rest := [.ref (A 0)]) hA hx hb hml hown hSW hS hW (m_size l z ad _ hA (A 4) (hF.2.1 3 (by decide))) mf_Jx4a65c_size_8abf5 lk_X11_67 (hF.2.1 3 (by decide)) rfl rfl ⟨rfl, rfl⟩ ⟨Nat.le_of_ble_eq_true rfl, Nat.le_of_ble_eq_true rfl⟩ hl.1 (Nat.le_of_ble_eq_true rfl) dX11_player_50 ⟨Nat.le_of_ble_eq_true rfl, Nat.le_of_ble_eq_true rfl⟩) hS (fun H locs hW hS => ?_)
        refine lv_bipush (v := 8) hx hb dX11_player_53 (by decide) ?_
        refine lv_icmp_ne (tgt := 62) hx hb dX11_player_55 (by decide) (fun _ => ?_) (fun hc => absurd hc (by decide))
        refine lv_iconst (v := 0) hx hb dX11_player_62 (by decide) ?_
        refine lv_iconst (v := 3) hx hb dX11_player_63 (by decide) ?_
        obtain ⟨r28, u29, h27, h⟩ := ob2_s h
        obtain ⟨g31, hz8⟩ := gd_s h
        clear h
        subst g31
        have h := hz8
        clear hz8
        refine fm_cs (nb_runVr (As := [.int 0, .int 3]) (rest := []) hA hx hb hml hown hSW hS hW (m_X11_refuse l z ad _ hA A u24 hF 0 3 h27) mf_X11_refuse lk_X11_59 hF.1 rfl rfl ⟨rfl, rfl⟩ ⟨Nat.le_of_ble_eq_true rfl, Nat.le_of_ble_eq_true rfl⟩ hl.1 (Nat.le_of_ble_eq_true rfl) dX11_player_64 ⟨Nat.le_of_ble_eq_true rfl, Nat.le_of_ble_eq_true rfl⟩) hS (fun H locs G30 hF hw2 hW hS => ?_)
        replace hw := hw2.trans hw
        clear hw2
        refine lv_if_eq (tgt := 72) hx hb dX11_player_67 (by decide) (fun _ => ?_) (fun hc => absurd (by decide) hc)
        refine lv_aload_n hx hb dX11_player_72 rfl (lv_at hl 0 rfl) ?_
        refine nb_getr hA hx hb hT hK hown hW fl_X11_31 hF.1 (v := .ref (A 4)) rfl dX11_player_73 ?_
        refine nb_new (fs := [.int 0, .int 0, .int 0, .int 0, .int 0, .int 0, .null, .null]) hx hb hSW hown hA hW hS nw_X11_152 tyX10 tyX10_ok (fun j hj => by rcases (show j = 0 ∨ j = 1 ∨ j = 2 ∨ j = 3 ∨ j = 4 ∨ j = 5 ∨ j = 6 ∨ j = 7 by omega) with rfl | rfl | rfl | rfl | rfl | rfl | rfl | rfl <;> rfl) ⟨Nat.le_of_ble_eq_true rfl, Nat.le_of_ble_eq_true rfl⟩ dX11_player_76 (fun q32 H G33 hnq32 hEq32 hcq32 hW hS => ?_)
        replace hF := hF.ext0 hEq32
        refine lv_dup hx hb dX11_player_79 rfl ?_
        refine lv_iload_n hx hb dX11_player_80 rfl (lv_at hl 1 rfl) ?_
        refine lv_iload_n hx hb dX11_player_81 rfl (lv_at hl 2 rfl) ?_
        refine lv_iload_n hx hb dX11_player_82 rfl (lv_at hl 3 rfl) ?_
        refine va_callv (nb_runI (As := [.int x1, .int x2, .int x3]) (rest := [.ref q32, .ref (A 4)]) hx hb hml hown hSW hS hW (c_X10_init l z ad _ hA q32 x1 x2 x3 hcq32) mf_X10_init lk_X11_173 rfl ⟨rfl, rfl⟩ ⟨Nat.le_of_ble_eq_true rfl, Nat.le_of_ble_eq_true rfl⟩ hl.1 (Nat.le_of_ble_eq_true rfl) dX11_player_83 ⟨Nat.le_of_ble_eq_true rfl, Nat.le_of_ble_eq_true rfl⟩) hS (fun _ _ h => h) (fun _ h => h) (fun uG34 tG34 H locs htG34 _ hpG34 hWG34 _ _ hS => ?_)
        obtain ⟨n0_, n1_, huG34, hJG34⟩ := hpG34
        rw [huG34] at hJG34
        subst htG34
        obtain ⟨G34, _⟩ := uG34
        replace hW : GW z ad G34 tG34.heap := hWG34
        replace hF := hF.obj hJG34.1 hcq32 (by decide) (by decide)
        have hqq32 := hJG34.2.1
        have hLk : _ = some (Sum.inr (9, [.int 0, .ref o.1, .int 0]) : va_E) := (hF.2.1 3 (by decide)).trans (by rw [← hA9]; rfl)
        refine va_calli (nb_runVo (As := [.ref q32]) (rest := []) hA hx hb hml hown hSW hSO hS hW (m_add1 l z o ad _ hA (A 4) q32 (Or.inl ⟨13, _, _, hqq32, by decide, rfl, List.mem_of_getElem? (i := 1683) (by decide +kernel)⟩) hLk) mf_add1 lk_X11_83 hLk rfl rfl ⟨rfl, rfl⟩ ⟨Nat.le_of_ble_eq_true rfl, Nat.le_of_ble_eq_true rfl⟩ hl.1 (Nat.le_of_ble_eq_true rfl) dX11_player_86 ⟨Nat.le_of_ble_eq_true rfl, Nat.le_of_ble_eq_true rfl⟩) hS (fun _ _ h => h) (fun _ h => h) (fun rG35 G35 tG35 H locs htG35 _ hpG35 hWG35 _ _ hS => ?_)
        obtain ⟨rfl, hEG35, qG35, hL⟩ := hpG35
        subst htG35
        replace hW : GW z ad G35 tG35.heap := hWG35
        have h0 := hEG35.ne (cell_ne hF.1 hLk (inr_ne (by decide))) hF.1
        have ho : G35 99 (A 13) = some (fmW z (fmO M)) := by rw [← hw]; exact hEG35.ne (cell_ne hF.2.2.2.2.2.2 hLk (fun x => nomatch x)) hF.2.2.2.2.2.2
        refine lv_pop hx hb dX11_player_89 rfl ?_
        refine lv_aload_n hx hb dX11_player_90 rfl (lv_at hl 0 rfl) ?_
        refine nb_getr hA hx hb hT hK hown hW fl_X11_31 h0 (v := .ref (A 4)) rfl dX11_player_91 ?_
        refine nb_ci (nb_runVr (As := []) (rest := []) hA hx hb hml hown hSW hS hW (m_size l z ad _ hA (A 4) hL) mf_Jx4a65c_size_8abf5 lk_X11_67 hL rfl rfl ⟨rfl, rfl⟩ ⟨Nat.le_of_ble_eq_true rfl, Nat.le_of_ble_eq_true rfl⟩ hl.1 (Nat.le_of_ble_eq_true rfl) dX11_player_94 ⟨Nat.le_of_ble_eq_true rfl, Nat.le_of_ble_eq_true rfl⟩) hS (fun H locs hW hS => ?_)
        refine lv_iconst (v := 1) hx hb dX11_player_97 (by decide) ?_
        refine lv_isub hx hb dX11_player_98 ?_
        refine lv_topc (v := 0) (by decide) ?_
        refine W.widen (k := 4) (n := 34) (Nat.le_of_ble_eq_true rfl) (Nat.le_of_ble_eq_true rfl) ?_
        exact fm_iw hx hb hr rfl hlocks hW ⟨⟨_, h0, rfl, rfl⟩, ho⟩ hS dX11_player_99 h
      · replace h := ite_t h c21
        refine lv_iconst (v := 1) hx hb dX11_player_33 (by decide) ?_
        refine lv_goto (tgt := 38) hx hb dX11_player_34 (by decide) ?_
        refine lv_iconst (v := 2) hx hb dX11_player_38 (by decide) ?_
        obtain ⟨r37, u38, h36, h⟩ := ob2_s h
        obtain ⟨g40, hz8⟩ := gd_s h
        clear h
        subst g40
        have h := hz8
        clear hz8
        refine fm_cs (nb_runVr (As := [.int 1, .int 2]) (rest := []) hA hx hb hml hown hSW hS hW (m_X11_refuse l z ad _ hA A u6 hF 1 2 h36) mf_X11_refuse lk_X11_59 hF.1 rfl rfl ⟨rfl, rfl⟩ ⟨Nat.le_of_ble_eq_true rfl, Nat.le_of_ble_eq_true rfl⟩ hl.1 (Nat.le_of_ble_eq_true rfl) dX11_player_39 ⟨Nat.le_of_ble_eq_true rfl, Nat.le_of_ble_eq_true rfl⟩) hS (fun H locs G39 hF hw2 hW hS => ?_)
        replace hw := hw2.trans hw
        clear hw2
        refine lv_if_ne (tgt := 70) hx hb dX11_player_42 (by decide) (fun _ => ?_) (fun hc => absurd hc (by decide))
        refine lv_iconst (v := 0) hx hb dX11_player_70 (by decide) ?_
        refine W.widen (k := 4) (n := 34) (Nat.le_of_ble_eq_true rfl) (Nat.le_of_ble_eq_true rfl) ?_
        exact fm_iw hx hb hr rfl hlocks hW (hF.w hw) hS dX11_player_71 h
-- rival
def g_X11_rival (M : St) (x1 : Int32) : Option (Int32 × Int32) :=
  ob (g_X11_isIn x1 0 400) fun r2 =>
  if r2 = 0 then
    ob2 (g_X11_start M 1 1) fun r20 u21 =>
    gd (r20 = 1) <|
    some (0, u21 0 0 0)
  else
    ob2 (g_X11_start M 0 1) fun r6 u7 =>
    gd (r6 = 0) <|
    ob2 (g_X11_refuse u7 0 2) fun r11 u12 =>
    gd (r11 = 0) <|
    gd (0 ≤ Int32.toInt x1) <|
    some (0, u12 0 0 0)
set_option maxRecDepth 100000 in
set_option maxHeartbeats 4000000 in
theorem m_X11_rival (l : Launch) (z : Zt) (ad : Ad) (G : Gt) (hA : Raw ad) (A : Nat → Nat) (M : St) (hF : FM z G A M) (o : Ot) (hA9 : A 9 = o.1) (x1 : Int32) {r9 : Int32} {t9 : Int32} (h : g_X11_rival M x1 = some (r9, t9)) : MO l z o yX11_rival cX11_rival 2 (some .int) { frames := 5, cells := 2, slots := 11, locals := 181 } 2 11 [.ref (A 0), .int x1] ad G (PWi z ad A r9 t9 (fmO M)) := by
  refine Met.ofW (cc := cX11_rival) (maxL := 2) (ret := (some .int)) (by decide) rfl ?_
  intro p e s m args below meth c s₁ B hml hv
  obtain ⟨rfl, hSW, hSO, hW⟩ := hv
  have hx := B.exec; have hb := B.bytes; have hr := B.returns; have hlocks := B.notSynchronized
  have hown : s.vm.findClass RX11 = some m.cls := findClass_of_methodNamed B.named
  obtain ⟨hT, hK, hST, hB0⟩ := id hSW
  have hS : va_S (zA z) s.heap s.heap [] := va_S.rf
  have hl := lv_entry ([.ref (A 0), .int x1]) (n := 2) (Nat.le_of_ble_eq_true rfl)
  rw [lg_entry_eq]
  generalize (lg_sl ([.ref (A 0), .int x1]) ++ List.replicate (2 - (lg_sl ([.ref (A 0), .int x1])).length) Slot.unset).toArray = ls at hl ⊢
  have hl : lv_has ls 2 [(0, .ref (A 0)), (1, .int x1)] := hl
  have hw : fmO M = fmO M := rfl
  unfold g_X11_rival at h
  refine lv_aload_n hx hb dX11_rival_0 rfl (lv_at hl 0 rfl) ?_
  refine lv_iload_n hx hb dX11_rival_1 rfl (lv_at hl 1 rfl) ?_
  refine lv_iconst (v := 0) hx hb dX11_rival_2 (by decide) ?_
  refine lv_sipush (v := 400) hx hb dX11_rival_3 (by decide) ?_
  obtain ⟨r2, h1, h⟩ := ob_s h
  refine nb_ci (nb_runS (As := [.int x1, .int 0, .int 400]) (rest := [.ref (A 0)]) hx hb hml hown hSW hS hW (m_X11_isIn l z ad _ hA x1 0 400 h1) mf_X11_isIn lk_X11_63 rfl ⟨rfl, rfl⟩ ⟨Nat.le_of_ble_eq_true rfl, Nat.le_of_ble_eq_true rfl⟩ hl.1 (Nat.le_of_ble_eq_true rfl) dX11_rival_6 ⟨Nat.le_of_ble_eq_true rfl, Nat.le_of_ble_eq_true rfl⟩) hS (fun H locs hW hS => ?_)
  refine lv_if_ne (tgt := 16) hx hb dX11_rival_9 (by decide) (fun c4 => ?_) (fun c4 => ?_)
  · replace h := ite_f h c4
    refine lv_iconst (v := 0) hx hb dX11_rival_16 (by decide) ?_
    refine lv_iconst (v := 1) hx hb dX11_rival_17 (by decide) ?_
    obtain ⟨r6, u7, h5, h⟩ := ob2_s h
    obtain ⟨g09, hz8⟩ := gd_s h
    clear h
    subst g09
    have h := hz8
    clear hz8
    refine fm_cs (nb_runVr (As := [.int 0, .int 1]) (rest := []) hA hx hb hml hown hSW hS hW (m_X11_start l z ad _ hA A M hF 0 1 h5) mf_X11_start lk_X11_75 hF.1 rfl rfl ⟨rfl, rfl⟩ ⟨Nat.le_of_ble_eq_true rfl, Nat.le_of_ble_eq_true rfl⟩ hl.1 (Nat.le_of_ble_eq_true rfl) dX11_rival_18 ⟨Nat.le_of_ble_eq_true rfl, Nat.le_of_ble_eq_true rfl⟩) hS (fun H locs G8 hF hw2 hW hS => ?_)
    replace hw := hw2.trans hw
    clear hw2
    refine lv_if_ne (tgt := 49) hx hb dX11_rival_21 (by decide) (fun hc => absurd (by decide) hc) (fun _ => ?_)
    refine lv_aload_n hx hb dX11_rival_24 rfl (lv_at hl 0 rfl) ?_
    refine lv_aload_n hx hb dX11_rival_25 rfl (lv_at hl 0 rfl) ?_
    refine nb_getr hA hx hb hT hK hown hW fl_X11_34 hF.1 (v := .ref (A 5)) rfl dX11_rival_26 ?_
    refine nb_ci (nb_runVr (As := []) (rest := [.ref (A 0)]) hA hx hb hml hown hSW hS hW (m_size l z ad _ hA (A 5) (hF.2.1 4 (by decide))) mf_Jx4a65c_size_8abf5 lk_X11_67 (hF.2.1 4 (by decide)) rfl rfl ⟨rfl, rfl⟩ ⟨Nat.le_of_ble_eq_true rfl, Nat.le_of_ble_eq_true rfl⟩ hl.1 (Nat.le_of_ble_eq_true rfl) dX11_rival_29 ⟨Nat.le_of_ble_eq_true rfl, Nat.le_of_ble_eq_true rfl⟩) hS (fun H locs hW hS => ?_)
    refine lv_bipush (v := 6) hx hb dX11_rival_32 (by decide) ?_
    refine lv_icmp_ne (tgt := 41) hx hb dX11_rival_34 (by decide) (fun _ => ?_) (fun hc => absurd hc (by decide))
    refine lv_iconst (v := 0) hx hb dX11_rival_41 (by decide) ?_
    refine lv_iconst (v := 2) hx hb dX11_rival_42 (by decide) ?_
    obtain ⟨r11, u12, h10, h⟩ := ob2_s h
    obtain ⟨g14, hz8⟩ := gd_s h
    clear h
    subst g14
    have h := hz8
    clear hz8
    refine fm_cs (nb_runVr (As := [.int 0, .int 2]) (rest := []) hA hx hb hml hown hSW hS hW (m_X11_refuse l z ad _ hA A u7 hF 0 2 h10) mf_X11_refuse lk_X11_59 hF.1 rfl rfl ⟨rfl, rfl⟩ ⟨Nat.le_of_ble_eq_true rfl, Nat.le_of_ble_eq_true rfl⟩ hl.1 (Nat.le_of_ble_eq_true rfl) dX11_rival_43 ⟨Nat.le_of_ble_eq_true rfl, Nat.le_of_ble_eq_true rfl⟩) hS (fun H locs G13 hF hw2 hW hS => ?_)
    replace hw := hw2.trans hw
    clear hw2
    refine lv_if_eq (tgt := 51) hx hb dX11_rival_46 (by decide) (fun _ => ?_) (fun hc => absurd (by decide) hc)
    refine lv_aload_n hx hb dX11_rival_51 rfl (lv_at hl 0 rfl) ?_
    refine nb_getr hA hx hb hT hK hown hW fl_X11_34 hF.1 (v := .ref (A 5)) rfl dX11_rival_52 ?_
    refine lv_iload_n hx hb dX11_rival_55 rfl (lv_at hl 1 rfl) ?_
    obtain ⟨g15, h⟩ := gd_s h
    refine va_callr (nb_runSo (As := [.int x1]) (rest := [.ref (A 5)]) hx hb hml hown hSW hSO hS hW (m_valueOf l z o ad _ hA x1 g15) mf_valueOf (List.mem_of_getElem? (i := 1357) (by decide +kernel)) rfl ⟨rfl, rfl⟩ ⟨Nat.le_of_ble_eq_true rfl, Nat.le_of_ble_eq_true rfl⟩ hl.1 (Nat.le_of_ble_eq_true rfl) dX11_rival_56 ⟨Nat.le_of_ble_eq_true rfl, Nat.le_of_ble_eq_true rfl⟩) hS (fun _ _ h => h) (fun _ h => h) (fun G17 q16 tG17 H locs htG17 _ hEG17 hpG17 _ _ hS => ?_)
    subst htG17
    obtain ⟨hW, hbxq16⟩ := hpG17
    replace hF := hF.ext0 hEG17
    have hLk : _ = some (Sum.inr (9, [.int 0, .ref o.1, .int 0]) : va_E) := (hF.2.1 4 (by decide)).trans (by rw [← hA9]; rfl)
    refine va_calli (nb_runVo (As := [.ref q16]) (rest := []) hA hx hb hml hown hSW hSO hS hW (m_add1 l z o ad _ hA (A 5) q16 hbxq16 hLk) mf_add1 lk_X11_83 hLk rfl rfl ⟨rfl, rfl⟩ ⟨Nat.le_of_ble_eq_true rfl, Nat.le_of_ble_eq_true rfl⟩ hl.1 (Nat.le_of_ble_eq_true rfl) dX11_rival_59 ⟨Nat.le_of_ble_eq_true rfl, Nat.le_of_ble_eq_true rfl⟩) hS (fun _ _ h => h) (fun _ h => h) (fun rG18 G18 tG18 H locs htG18 _ hpG18 hWG18 _ _ hS => ?_)
    obtain ⟨rfl, hEG18, qG18, hL⟩ := hpG18
    subst htG18
    replace hW : GW z ad G18 tG18.heap := hWG18
    have h0 := hEG18.ne (cell_ne hF.1 hLk (inr_ne (by decide))) hF.1
    have ho : G18 99 (A 13) = some (fmW z (fmO M)) := by rw [← hw]; exact hEG18.ne (cell_ne hF.2.2.2.2.2.2 hLk (fun x => nomatch x)) hF.2.2.2.2.2.2
    refine lv_pop hx hb dX11_rival_62 rfl ?_
    refine lv_aload_n hx hb dX11_rival_63 rfl (lv_at hl 0 rfl) ?_
    refine nb_getr hA hx hb hT hK hown hW fl_X11_34 h0 (v := .ref (A 5)) rfl dX11_rival_64 ?_
    refine nb_ci (nb_runVr (As := []) (rest := []) hA hx hb hml hown hSW hS hW (m_size l z ad _ hA (A 5) hL) mf_Jx4a65c_size_8abf5 lk_X11_67 hL rfl rfl ⟨rfl, rfl⟩ ⟨Nat.le_of_ble_eq_true rfl, Nat.le_of_ble_eq_true rfl⟩ hl.1 (Nat.le_of_ble_eq_true rfl) dX11_rival_67 ⟨Nat.le_of_ble_eq_true rfl, Nat.le_of_ble_eq_true rfl⟩) hS (fun H locs hW hS => ?_)
    refine lv_iconst (v := 1) hx hb dX11_rival_70 (by decide) ?_
    refine lv_isub hx hb dX11_rival_71 ?_
    refine lv_topc (v := 0) (by decide) ?_
    refine W.widen (k := 2) (n := 11) (Nat.le_of_ble_eq_true rfl) (Nat.le_of_ble_eq_true rfl) ?_
    exact fm_iw hx hb hr rfl hlocks hW ⟨⟨_, h0, rfl, rfl⟩, ho⟩ hS dX11_rival_72 h
  · replace h := ite_t h c4
    refine lv_iconst (v := 1) hx hb dX11_rival_12 (by decide) ?_
    refine lv_goto (tgt := 17) hx hb dX11_rival_13 (by decide) ?_
    refine lv_iconst (v := 1) hx hb dX11_rival_17 (by decide) ?_
    obtain ⟨r20, u21, h19, h⟩ := ob2_s h
    obtain ⟨g23, hz8⟩ := gd_s h
    clear h
    subst g23
    have h := hz8
    clear hz8
    refine fm_cs (nb_runVr (As := [.int 1, .int 1]) (rest := []) hA hx hb hml hown hSW hS hW (m_X11_start l z ad _ hA A M hF 1 1 h19) mf_X11_start lk_X11_75 hF.1 rfl rfl ⟨rfl, rfl⟩ ⟨Nat.le_of_ble_eq_true rfl, Nat.le_of_ble_eq_true rfl⟩ hl.1 (Nat.le_of_ble_eq_true rfl) dX11_rival_18 ⟨Nat.le_of_ble_eq_true rfl, Nat.le_of_ble_eq_true rfl⟩) hS (fun H locs G22 hF hw2 hW hS => ?_)
    replace hw := hw2.trans hw
    clear hw2
    refine lv_if_ne (tgt := 49) hx hb dX11_rival_21 (by decide) (fun _ => ?_) (fun hc => absurd hc (by decide))
    refine lv_iconst (v := 0) hx hb dX11_rival_49 (by decide) ?_
    refine W.widen (k := 2) (n := 11) (Nat.le_of_ble_eq_true rfl) (Nat.le_of_ble_eq_true rfl) ?_
    exact fm_iw hx hb hr rfl hlocks hW (hF.w hw) hS dX11_rival_50 h
