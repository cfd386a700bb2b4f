/-! 24e: the constructors of the reference -/
theorem JJ.ofE {G G1 : Gt} {a : Nat} {c : va_E} (hE : Ext G G1 a) (hc : G1 99 a = some c) : JJ G G1 a c [] := ⟨hE, hc, fun _ h => (by cases h), newl_0⟩
theorem JJ.atq {G0 G : Gt} {a q : Nat} {c e : va_E} {T : List (Nat × va_E)} (h : JJ G0 G a c T) (i : Nat) (hi : T[i]? = some (q, e)) : G 99 q = some e := (h.2.2.1 _ (List.mem_of_getElem? hi)).1
theorem JJ.setq {G0 G G1 : Gt} {a q : Nat} {c e e' : va_E} {T : List (Nat × va_E)} (h : JJ G0 G a c T) (hE : Ext G G1 q) (hq : G1 99 q = some e') (i : Nat) (hi : T[i]? = some (q, e)) : JJ G0 G1 a c (T.set i (q, e')) := by
  have hm : (q, e) ∈ T := List.mem_of_getElem? hi
  have hlt : i < T.length := (List.getElem?_eq_some_iff.mp hi).1
  have hqa : q ≠ a := (h.2.2.1 _ hm).2
  have hn : G0 99 q = none := h.2.2.2.2 q (List.mem_map.mpr ⟨_, hm, rfl⟩)
  have hmap : (T.set i (q, e')).map Prod.fst = T.map Prod.fst := by
    apply List.ext_getElem?
    intro j
    rw [List.getElem?_map, List.getElem?_map]
    by_cases hj : i = j
    · subst hj
      rw [List.getElem?_set_self hlt, hi]; rfl
    · rw [List.getElem?_set_ne hj]
  refine ⟨fun kd k e9 hne hk => hE _ _ _ (fun z => by rw [z.1, z.2, hn] at hk; cases hk) (h.1 _ _ _ hne hk), hE _ _ _ (fun z => hqa z.2.symm) h.2.1, fun x hx => ?_, by rw [hmap]; exact h.2.2.2⟩
  obtain ⟨j, hj⟩ := List.getElem?_of_mem hx
  by_cases hij : i = j
  · subst hij
    rw [List.getElem?_set_self hlt] at hj
    cases hj
    exact ⟨hq, hqa⟩
  · rw [List.getElem?_set_ne hij] at hj
    have hxm := List.mem_of_getElem? hj
    have hne : x.1 ≠ q := fun he => hij ((List.getElem?_inj (l := T.map Prod.fst) (by rw [List.length_map]; exact hlt) h.2.2.2.1).mp (by rw [List.getElem?_map, List.getElem?_map, hi, hj]; exact congrArg some he.symm))
    exact ⟨hE.ne hne (h.2.2.1 x hxm).1, (h.2.2.1 x hxm).2⟩
theorem uw_X8 : ((u_ws RX8 TX8 5).all (fun w => tbGood w && decide (w ∈ lw_tbl))) = true := by decide +kernel
theorem uw_X9 : ((u_ws RX9 TX9 4).all (fun w => tbGood w && decide (w ∈ lw_tbl))) = true := by decide +kernel
theorem uw_X10 : ((u_ws RX10 TX10 8).all (fun w => tbGood w && decide (w ∈ lw_tbl))) = true := by decide +kernel
theorem lo_X8_3 : Cond.methodLink RX8 3 objectInit ∈ lw_tbl ∧ Cond.instanceMethod objectInit ∈ lw_tbl ∧ Cond.code objectInit ⟨#[0xb1]⟩ 1 none ∈ lw_tbl := ⟨List.mem_of_getElem? (i := 1107) (by decide +kernel), List.mem_of_getElem? (i := 98) (by decide +kernel), List.mem_of_getElem? (i := 99) (by decide +kernel)⟩
theorem fl_X8_9 : FL RX8 9 11 1 RX8 TX8 5 := ⟨rfl, uw_X8, by decide, rfl, Or.inl (List.mem_of_getElem? (i := 1110) (by decide +kernel))⟩
theorem fl_X8_15 : FL RX8 15 11 0 RX8 TX8 5 := ⟨rfl, uw_X8, by decide, rfl, Or.inl (List.mem_of_getElem? (i := 1108) (by decide +kernel))⟩
theorem lo_X9_1 : Cond.methodLink RX9 1 objectInit ∈ lw_tbl ∧ Cond.instanceMethod objectInit ∈ lw_tbl ∧ Cond.code objectInit ⟨#[0xb1]⟩ 1 none ∈ lw_tbl := ⟨List.mem_of_getElem? (i := 1272) (by decide +kernel), List.mem_of_getElem? (i := 98) (by decide +kernel), List.mem_of_getElem? (i := 99) (by decide +kernel)⟩
theorem fl_X9_7 : FL RX9 7 12 0 RX9 TX9 4 := ⟨rfl, uw_X9, by decide, rfl, Or.inl (List.mem_of_getElem? (i := 1273) (by decide +kernel))⟩
theorem fl_X9_13 : FL RX9 13 12 1 RX9 TX9 4 := ⟨rfl, uw_X9, by decide, rfl, Or.inl (List.mem_of_getElem? (i := 1275) (by decide +kernel))⟩
theorem fl_X9_16 : FL RX9 16 12 2 RX9 TX9 4 := ⟨rfl, uw_X9, by decide, rfl, Or.inl (List.mem_of_getElem? (i := 1277) (by decide +kernel))⟩
theorem lo_X10_3 : Cond.methodLink RX10 3 objectInit ∈ lw_tbl ∧ Cond.instanceMethod objectInit ∈ lw_tbl ∧ Cond.code objectInit ⟨#[0xb1]⟩ 1 none ∈ lw_tbl := ⟨List.mem_of_getElem? (i := 1403) (by decide +kernel), List.mem_of_getElem? (i := 98) (by decide +kernel), List.mem_of_getElem? (i := 99) (by decide +kernel)⟩
theorem fl_X10_9 : FL RX10 9 13 3 RX10 TX10 8 := ⟨rfl, uw_X10, by decide, rfl, Or.inl (List.mem_of_getElem? (i := 1410) (by decide +kernel))⟩
theorem fl_X10_15 : FL RX10 15 13 6 RX10 TX10 8 := ⟨rfl, uw_X10, by decide, rfl, Or.inl (List.mem_of_getElem? (i := 1414) (by decide +kernel))⟩
theorem wd_arrZ : Cond.arrayClass .boolean ∈ lw_tbl := List.mem_of_getElem? (i := 1435) (by decide +kernel)
theorem fl_X10_19 : FL RX10 19 13 7 RX10 TX10 8 := ⟨rfl, uw_X10, by decide, rfl, Or.inl (List.mem_of_getElem? (i := 1416) (by decide +kernel))⟩
theorem fl_X10_23 : FL RX10 23 13 0 RX10 TX10 8 := ⟨rfl, uw_X10, by decide, rfl, Or.inl (List.mem_of_getElem? (i := 1404) (by decide +kernel))⟩
theorem fl_X10_26 : FL RX10 26 13 1 RX10 TX10 8 := ⟨rfl, uw_X10, by decide, rfl, Or.inl (List.mem_of_getElem? (i := 1406) (by decide +kernel))⟩
theorem fl_X10_29 : FL RX10 29 13 2 RX10 TX10 8 := ⟨rfl, uw_X10, by decide, rfl, Or.inl (List.mem_of_getElem? (i := 1408) (by decide +kernel))⟩
theorem lo_X11_10 : Cond.methodLink RX11 10 objectInit ∈ lw_tbl ∧ Cond.instanceMethod objectInit ∈ lw_tbl ∧ Cond.code objectInit ⟨#[0xb1]⟩ 1 none ∈ lw_tbl := ⟨List.mem_of_getElem? (i := 996) (by decide +kernel), List.mem_of_getElem? (i := 98) (by decide +kernel), List.mem_of_getElem? (i := 99) (by decide +kernel)⟩
theorem nw_X11_16 : kCl[9]? = some (RJx4a65c, TJx4a65c, 3) ∧ ((u_ws RJx4a65c TJx4a65c 3).all (fun w => tbGood w && decide (w ∈ lw_tbl))) = true ∧ Cond.classLink RX11 16 RJx4a65c ∈ lw_tbl ∧ Cond.instantiable RJx4a65c 3 ∈ lw_tbl ∧ Cond.initialized RJx4a65c ∈ lw_tbl := ⟨rfl, uw_Jx4a65c, List.mem_of_getElem? (i := 997) (by decide +kernel), List.mem_of_getElem? (i := 998) (by decide +kernel), List.mem_of_getElem? (i := 70) (by decide +kernel)⟩
theorem lk_X11_18 : LK RX11 18 yJx4a65c_init_da8c8 := Or.inl (List.mem_of_getElem? (i := 999) (by decide +kernel))
set_option maxRecDepth 100000 in
set_option maxHeartbeats 8000000 in
theorem c_X8_init (l : Launch) (z : Zt) (ad : Ad) (G : Gt) (hA : Raw ad) (a : Nat) (x1 : Int32) (x2 : Int32) (h0 : G 99 a = some (.inr (11, [.int 0, .null, .int 0, .int 0, .int 0]))) : MC l z yX8_init cX8_init 4 none { frames := 1, cells := 1, slots := 8, locals := 12 } 1 8 [.ref a, .int x1, .int x2] ad G (va_Qv (S := Gt × List (Nat × va_E)) (fun u => ∃ (n0 : Nat) (F : Nat → Int32), u.2 = [(n0, .inl (z.2.2 0, 8, .inl F))] ∧ JJ G u.1 a (.inr (11, [.int x1, .ref n0, .int 0, .int 0, .int 0])) u.2) (fun u t => GW z ad u.1 t.heap) (zA z)) := by
  refine Met.ofW (cc := cX8_init) (maxL := 4) (ret := none) (by decide) rfl ?_
  intro p e s m args below meth c s₁ B hml hv
  obtain ⟨rfl, hSW, hW⟩ := hv
  have hx := B.exec; have hb := B.bytes; have hr := B.returns; have hlocks := B.notSynchronized
  have hown : s.vm.findClass RX8 = some m.cls := findClass_of_methodNamed B.named
  have hin : meth.name = "<init>" := (name_of_methodNamed B.named B.method).1
  obtain ⟨hT, hK, hST, hB0⟩ := id hSW
  have hS : va_S (zA z) s.heap s.heap [] := va_S.rf
  have hl := lv_entry ([.ref a, .int x1, .int x2]) (n := 4) (Nat.le_of_ble_eq_true rfl)
  rw [lg_entry_eq]
  generalize (lg_sl ([.ref a, .int x1, .int x2]) ++ List.replicate (4 - (lg_sl ([.ref a, .int x1, .int x2])).length) Slot.unset).toArray = ls at hl ⊢
  have hl : lv_has ls 4 [(0, .ref a), (1, .int x1), (2, .int x2)] := hl
  have hJ : JJ G G a (.inr (11, [.int 0, .null, .int 0, .int 0, .int 0])) [] := JJ.start h0
  refine lv_aload_n hx hb dX8_init_0 rfl (lv_at hl 0 rfl) ?_
  refine nb_obj hx hb hml hl.1 hT hown lo_X8_3 ⟨Nat.le_of_ble_eq_true rfl, Nat.le_of_ble_eq_true rfl⟩ dX8_init_1 ?_
  refine lv_aload_n hx hb dX8_init_4 rfl (lv_at hl 0 rfl) ?_
  refine lv_bipush (v := 8) hx hb dX8_init_5 (by decide) ?_
  refine nb_newi hx hb hSW hA hW hS wd_arrI (by decide) (N' := 8) (by decide) (by decide) ⟨Nat.le_of_ble_eq_true rfl, Nat.le_of_ble_eq_true rfl⟩ dX8_init_7 (fun q1 H G2 hnq1 hEq1 hcq1 hW hS => ?_)
  replace hJ := hJ.arr hnq1 hEq1 hcq1
  have hJ : JJ G G2 a (.inr (11, [.int 0, .null, .int 0, .int 0, .int 0])) [(q1, .inl (z.2.2 0, 8, .inl (fun _ => 0)))] := hJ
  refine nb_putFr hA hx hb hT hK hown hW hS fl_X8_9 (List.mem_of_getElem? (i := 1110) (by decide +kernel)) tyX8 tyX8_ok nmX8 hJ.2.1 (v := .ref q1) rfl hin rfl rfl (Nat.le_of_ble_eq_true rfl) dX8_init_9 (fun H locs G3 hEG3 hcG3 hW hS => ?_)
  replace hJ := hJ.put hEG3 hcG3
  have hJ : JJ G G3 a (.inr (11, [.int 0, .ref q1, .int 0, .int 0, .int 0])) [(q1, .inl (z.2.2 0, 8, .inl (fun _ => 0)))] := hJ
  refine lv_aload_n hx hb dX8_init_12 rfl (lv_at hl 0 rfl) ?_
  refine lv_iload_n hx hb dX8_init_13 rfl (lv_at hl 1 rfl) ?_
  refine nb_putFr hA hx hb hT hK hown hW hS fl_X8_15 (List.mem_of_getElem? (i := 1108) (by decide +kernel)) tyX8 tyX8_ok nmX8 hJ.2.1 (v := .int x1) rfl hin rfl rfl (Nat.le_of_ble_eq_true rfl) dX8_init_14 (fun H locs G4 hEG4 hcG4 hW hS => ?_)
  replace hJ := hJ.put hEG4 hcG4
  have hJ : JJ G G4 a (.inr (11, [.int x1, .ref q1, .int 0, .int 0, .int 0])) [(q1, .inl (z.2.2 0, 8, .inl (fun _ => 0)))] := hJ
  refine lv_iconst (v := 0) hx hb dX8_init_17 (by decide) ?_
  refine lv_istore_n (lv' := [(3, .int 0), (0, .ref a), (1, .int x1), (2, .int x2)]) hx hb dX8_init_18 rfl hl (by decide) rfl (fun ls hl => ?_)
  refine lv_iload_n hx hb dX8_init_19 rfl (lv_at hl 0 rfl) ?_
  refine lv_bipush (v := 8) hx hb dX8_init_20 (by decide) ?_
  refine lv_icmp_ge (tgt := 55) hx hb dX8_init_22 (by decide) (fun hc => absurd hc (by decide)) (fun _ => ?_)
  refine lv_aload_n hx hb dX8_init_25 rfl (lv_at hl 1 rfl) ?_
  refine nb_getr hA hx hb hT hK hown hW fl_X8_9 hJ.2.1 (v := .ref q1) rfl dX8_init_26 ?_
  refine lv_iload_n hx hb dX8_init_29 rfl (lv_at hl 0 rfl) ?_
  refine lv_bipush (v := 7) hx hb dX8_init_30 (by decide) ?_
  refine lv_iload_n hx hb dX8_init_32 rfl (lv_at hl 3 rfl) ?_
  refine lv_imul hx hb dX8_init_33 ?_
  refine lv_iconst (v := 5) hx hb dX8_init_34 (by decide) ?_
  refine lv_iload_n hx hb dX8_init_35 rfl (lv_at hl 0 rfl) ?_
  refine lv_imul hx hb dX8_init_36 ?_
  refine lv_iadd hx hb dX8_init_37 ?_
  refine lv_iconst (v := 3) hx hb dX8_init_38 (by decide) ?_
  refine lv_iload_n hx hb dX8_init_39 rfl (lv_at hl 2 rfl) ?_
  refine lv_imul hx hb dX8_init_40 ?_
  refine lv_iadd hx hb dX8_init_41 ?_
  refine lv_bipush (v := 31) hx hb dX8_init_42 (by decide) ?_
  refine lv_irem hx hb dX8_init_44 (by decide) ?_
  refine lv_bipush (v := 15) hx hb dX8_init_45 (by decide) ?_
  refine lv_isub hx hb dX8_init_47 ?_
  refine lv_topi (fun v5 ev5 => ?_)
  refine nb_iastr hA hx hb hK hW hS 0 hJ.last rfl (inb_in (by decide)) dX8_init_48 (fun H locs G6 hEG6 hcG6 hW hS => ?_)
  replace hJ := hJ.upd hEG6 hcG6
  have hJ : JJ G G6 a (.inr (11, [.int x1, .ref q1, .int 0, .int 0, .int 0])) [(q1, .inl (z.2.2 0, 8, .inl (upd (fun _ => 0) 0 v5)))] := hJ
  refine lv_iinc (v := 1) (lv' := [(3, .int 1), (0, .ref a), (1, .int x1), (2, .int x2)]) hx hb dX8_init_49 hl (k := 0) rfl (by decide) (by decide) rfl (fun ls hl => ?_)
  refine lv_goto (tgt := 19) hx hb dX8_init_52 (by decide) ?_
  refine lv_iload_n hx hb dX8_init_19 rfl (lv_at hl 0 rfl) ?_
  refine lv_bipush (v := 8) hx hb dX8_init_20 (by decide) ?_
  refine lv_icmp_ge (tgt := 55) hx hb dX8_init_22 (by decide) (fun hc => absurd hc (by decide)) (fun _ => ?_)
  refine lv_aload_n hx hb dX8_init_25 rfl (lv_at hl 1 rfl) ?_
  refine nb_getr hA hx hb hT hK hown hW fl_X8_9 hJ.2.1 (v := .ref q1) rfl dX8_init_26 ?_
  refine lv_iload_n hx hb dX8_init_29 rfl (lv_at hl 0 rfl) ?_
  refine lv_bipush (v := 7) hx hb dX8_init_30 (by decide) ?_
  refine lv_iload_n hx hb dX8_init_32 rfl (lv_at hl 3 rfl) ?_
  refine lv_imul hx hb dX8_init_33 ?_
  refine lv_iconst (v := 5) hx hb dX8_init_34 (by decide) ?_
  refine lv_iload_n hx hb dX8_init_35 rfl (lv_at hl 0 rfl) ?_
  refine lv_imul hx hb dX8_init_36 ?_
  refine lv_iadd hx hb dX8_init_37 ?_
  refine lv_iconst (v := 3) hx hb dX8_init_38 (by decide) ?_
  refine lv_iload_n hx hb dX8_init_39 rfl (lv_at hl 2 rfl) ?_
  refine lv_imul hx hb dX8_init_40 ?_
  refine lv_iadd hx hb dX8_init_41 ?_
  refine lv_bipush (v := 31) hx hb dX8_init_42 (by decide) ?_
  refine lv_irem hx hb dX8_init_44 (by decide) ?_
  refine lv_bipush (v := 15) hx hb dX8_init_45 (by decide) ?_
  refine lv_isub hx hb dX8_init_47 ?_
  refine lv_topi (fun v7 ev7 => ?_)
  refine nb_iastr hA hx hb hK hW hS 0 hJ.last rfl (inb_in (by decide)) dX8_init_48 (fun H locs G8 hEG8 hcG8 hW hS => ?_)
  replace hJ := hJ.upd hEG8 hcG8
  have hJ : JJ G G8 a (.inr (11, [.int x1, .ref q1, .int 0, .int 0, .int 0])) [(q1, .inl (z.2.2 0, 8, .inl (upd (upd (fun _ => 0) 0 v5) 1 v7)))] := hJ
  refine lv_iinc (v := 2) (lv' := [(3, .int 2), (0, .ref a), (1, .int x1), (2, .int x2)]) hx hb dX8_init_49 hl (k := 0) rfl (by decide) (by decide) rfl (fun ls hl => ?_)
  refine lv_goto (tgt := 19) hx hb dX8_init_52 (by decide) ?_
  refine lv_iload_n hx hb dX8_init_19 rfl (lv_at hl 0 rfl) ?_
  refine lv_bipush (v := 8) hx hb dX8_init_20 (by decide) ?_
  refine lv_icmp_ge (tgt := 55) hx hb dX8_init_22 (by decide) (fun hc => absurd hc (by decide)) (fun _ => ?_)
  refine lv_aload_n hx hb dX8_init_25 rfl (lv_at hl 1 rfl) ?_
  refine nb_getr hA hx hb hT hK hown hW fl_X8_9 hJ.2.1 (v := .ref q1) rfl dX8_init_26 ?_
  refine lv_iload_n hx hb dX8_init_29 rfl (lv_at hl 0 rfl) ?_
  refine lv_bipush (v := 7) hx hb dX8_init_30 (by decide) ?_
  refine lv_iload_n hx hb dX8_init_32 rfl (lv_at hl 3 rfl) ?_
  refine lv_imul hx hb dX8_init_33 ?_
  refine lv_iconst (v := 5) hx hb dX8_init_34 (by decide) ?_
  refine lv_iload_n hx hb dX8_init_35 rfl (lv_at hl 0 rfl) ?_
  refine lv_imul hx hb dX8_init_36 ?_
  refine lv_iadd hx hb dX8_init_37 ?_
  refine lv_iconst (v := 3) hx hb dX8_init_38 (by decide) ?_
  refine lv_iload_n hx hb dX8_init_39 rfl (lv_at hl 2 rfl) ?_
  refine lv_imul hx hb dX8_init_40 ?_
  refine lv_iadd hx hb dX8_init_41 ?_
  refine lv_bipush (v := 31) hx hb dX8_init_42 (by decide) ?_
  refine lv_irem hx hb dX8_init_44 (by decide) ?_
  refine lv_bipush (v := 15) hx hb dX8_init_45 (by decide) ?_
  refine lv_isub hx hb dX8_init_47 ?_
  refine lv_topi (fun v9 ev9 => ?_)
  refine nb_iastr hA hx hb hK hW hS 0 hJ.last rfl (inb_in (by decide)) dX8_init_48 (fun H locs G10 hEG10 hcG10 hW hS => ?_)
  replace hJ := hJ.upd hEG10 hcG10
  have hJ : JJ G G10 a (.inr (11, [.int x1, .ref q1, .int 0, .int 0, .int 0])) [(q1, .inl (z.2.2 0, 8, .inl (upd (upd (upd (fun _ => 0) 0 v5) 1 v7) 2 v9)))] := hJ
  refine lv_iinc (v := 3) (lv' := [(3, .int 3), (0, .ref a), (1, .int x1), (2, .int x2)]) hx hb dX8_init_49 hl (k := 0) rfl (by decide) (by decide) rfl (fun ls hl => ?_)
  refine lv_goto (tgt := 19) hx hb dX8_init_52 (by decide) ?_
  refine lv_iload_n hx hb dX8_init_19 rfl (lv_at hl 0 rfl) ?_
  refine lv_bipush (v := 8) hx hb dX8_init_20 (by decide) ?_
  refine lv_icmp_ge (tgt := 55) hx hb dX8_init_22 (by decide) (fun hc => absurd hc (by decide)) (fun _ => ?_)
  refine lv_aload_n hx hb dX8_init_25 rfl (lv_at hl 1 rfl) ?_
  refine nb_getr hA hx hb hT hK hown hW fl_X8_9 hJ.2.1 (v := .ref q1) rfl dX8_init_26 ?_
  refine lv_iload_n hx hb dX8_init_29 rfl (lv_at hl 0 rfl) ?_
  refine lv_bipush (v := 7) hx hb dX8_init_30 (by decide) ?_
  refine lv_iload_n hx hb dX8_init_32 rfl (lv_at hl 3 rfl) ?_
  refine lv_imul hx hb dX8_init_33 ?_
  refine lv_iconst (v := 5) hx hb dX8_init_34 (by decide) ?_
  refine lv_iload_n hx hb dX8_init_35 rfl (lv_at hl 0 rfl) ?_
  refine lv_imul hx hb dX8_init_36 ?_
  refine lv_iadd hx hb dX8_init_37 ?_
  refine lv_iconst (v := 3) hx hb dX8_init_38 (by decide) ?_
  refine lv_iload_n hx hb dX8_init_39 rfl (lv_at hl 2 rfl) ?_
  refine lv_imul hx hb dX8_init_40 ?_
  refine lv_iadd hx hb dX8_init_41 ?_
  refine lv_bipush (v := 31) hx hb dX8_init_42 (by decide) ?_
  refine lv_irem hx hb dX8_init_44 (by decide) ?_
  refine lv_bipush (v := 15) hx hb dX8_init_45 (by decide) ?_
  refine lv_isub hx hb dX8_init_47 ?_
  refine lv_topi (fun v11 ev11 => ?_)
  refine nb_iastr hA hx hb hK hW hS 0 hJ.last rfl (inb_in (by decide)) dX8_init_48 (fun H locs G12 hEG12 hcG12 hW hS => ?_)
  replace hJ := hJ.upd hEG12 hcG12
  have hJ : JJ G G12 a (.inr (11, [.int x1, .ref q1, .int 0, .int 0, .int 0])) [(q1, .inl (z.2.2 0, 8, .inl (upd (upd (upd (upd (fun _ => 0) 0 v5) 1 v7) 2 v9) 3 v11)))] := hJ
  refine lv_iinc (v := 4) (lv' := [(3, .int 4), (0, .ref a), (1, .int x1), (2, .int x2)]) hx hb dX8_init_49 hl (k := 0) rfl (by decide) (by decide) rfl (fun ls hl => ?_)
  refine lv_goto (tgt := 19) hx hb dX8_init_52 (by decide) ?_
  refine lv_iload_n hx hb dX8_init_19 rfl (lv_at hl 0 rfl) ?_
  refine lv_bipush (v := 8) hx hb dX8_init_20 (by decide) ?_
  refine lv_icmp_ge (tgt := 55) hx hb dX8_init_22 (by decide) (fun hc => absurd hc (by decide)) (fun _ => ?_)
  refine lv_aload_n hx hb dX8_init_25 rfl (lv_at hl 1 rfl) ?_
  refine nb_getr hA hx hb hT hK hown hW fl_X8_9 hJ.2.1 (v := .ref q1) rfl dX8_init_26 ?_
  refine lv_iload_n hx hb dX8_init_29 rfl (lv_at hl 0 rfl) ?_
  refine lv_bipush (v := 7) hx hb dX8_init_30 (by decide) ?_
  refine lv_iload_n hx hb dX8_init_32 rfl (lv_at hl 3 rfl) ?_
  refine lv_imul hx hb dX8_init_33 ?_
  refine lv_iconst (v := 5) hx hb dX8_init_34 (by decide) ?_
  refine lv_iload_n hx hb dX8_init_35 rfl (lv_at hl 0 rfl) ?_
  refine lv_imul hx hb dX8_init_36 ?_
  refine lv_iadd hx hb dX8_init_37 ?_
  refine lv_iconst (v := 3) hx hb dX8_init_38 (by decide) ?_
  refine lv_iload_n hx hb dX8_init_39 rfl (lv_at hl 2 rfl) ?_
  refine lv_imul hx hb dX8_init_40 ?_
  refine lv_iadd hx hb dX8_init_41 ?_
  refine lv_bipush (v := 31) hx hb dX8_init_42 (by decide) ?_
  refine lv_irem hx hb dX8_init_44 (by decide) ?_
  refine lv_bipush (v := 15) hx hb dX8_init_45 (by decide) ?_
  refine lv_isub hx hb dX8_init_47 ?_
  refine lv_topi (fun v13 ev13 => ?_)
  refine nb_iastr hA hx hb hK hW hS 0 hJ.last rfl (inb_in (by decide)) dX8_init_48 (fun H locs G14 hEG14 hcG14 hW hS => ?_)
  replace hJ := hJ.upd hEG14 hcG14
  have hJ : JJ G G14 a (.inr (11, [.int x1, .ref q1, .int 0, .int 0, .int 0])) [(q1, .inl (z.2.2 0, 8, .inl (upd (upd (upd (upd (upd (fun _ => 0) 0 v5) 1 v7) 2 v9) 3 v11) 4 v13)))] := hJ
  refine lv_iinc (v := 5) (lv' := [(3, .int 5), (0, .ref a), (1, .int x1), (2, .int x2)]) hx hb dX8_init_49 hl (k := 0) rfl (by decide) (by decide) rfl (fun ls hl => ?_)
  refine lv_goto (tgt := 19) hx hb dX8_init_52 (by decide) ?_
  refine lv_iload_n hx hb dX8_init_19 rfl (lv_at hl 0 rfl) ?_
  refine lv_bipush (v := 8) hx hb dX8_init_20 (by decide) ?_
  refine lv_icmp_ge (tgt := 55) hx hb dX8_init_22 (by decide) (fun hc => absurd hc (by decide)) (fun _ => ?_)
  refine lv_aload_n hx hb dX8_init_25 rfl (lv_at hl 1 rfl) ?_
  refine nb_getr hA hx hb hT hK hown hW fl_X8_9 hJ.2.1 (v := .ref q1) rfl dX8_init_26 ?_
  refine lv_iload_n hx hb dX8_init_29 rfl (lv_at hl 0 rfl) ?_
  refine lv_bipush (v := 7) hx hb dX8_init_30 (by decide) ?_
  refine lv_iload_n hx hb dX8_init_32 rfl (lv_at hl 3 rfl) ?_
  refine lv_imul hx hb dX8_init_33 ?_
  refine lv_iconst (v := 5) hx hb dX8_init_34 (by decide) ?_
  refine lv_iload_n hx hb dX8_init_35 rfl (lv_at hl 0 rfl) ?_
  refine lv_imul hx hb dX8_init_36 ?_
  refine lv_iadd hx hb dX8_init_37 ?_
  refine lv_iconst (v := 3) hx hb dX8_init_38 (by decide) ?_
  refine lv_iload_n hx hb dX8_init_39 rfl (lv_at hl 2 rfl) ?_
  refine lv_imul hx hb dX8_init_40 ?_
  refine lv_iadd hx hb dX8_init_41 ?_
  refine lv_bipush (v := 31) hx hb dX8_init_42 (by decide) ?_
  refine lv_irem hx hb dX8_init_44 (by decide) ?_
  refine lv_bipush (v := 15) hx hb dX8_init_45 (by decide) ?_
  refine lv_isub hx hb dX8_init_47 ?_
  refine lv_topi (fun v15 ev15 => ?_)
  refine nb_iastr hA hx hb hK hW hS 0 hJ.last rfl (inb_in (by decide)) dX8_init_48 (fun H locs G16 hEG16 hcG16 hW hS => ?_)
  replace hJ := hJ.upd hEG16 hcG16
  have hJ : JJ G G16 a (.inr (11, [.int x1, .ref q1, .int 0, .int 0, .int 0])) [(q1, .inl (z.2.2 0, 8, .inl (upd (upd (upd (upd (upd (upd (fun _ => 0) 0 v5) 1 v7) 2 v9) 3 v11) 4 v13) 5 v15)))] := hJ
  refine lv_iinc (v := 6) (lv' := [(3, .int 6), (0, .ref a), (1, .int x1), (2, .int x2)]) hx hb dX8_init_49 hl (k := 0) rfl (by decide) (by decide) rfl (fun ls hl => ?_)
  refine lv_goto (tgt := 19) hx hb dX8_init_52 (by decide) ?_
  refine lv_iload_n hx hb dX8_init_19 rfl (lv_at hl 0 rfl) ?_
  refine lv_bipush (v := 8) hx hb dX8_init_20 (by decide) ?_
  refine lv_icmp_ge (tgt := 55) hx hb dX8_init_22 (by decide) (fun hc => absurd hc (by decide)) (fun _ => ?_)
  refine lv_aload_n hx hb dX8_init_25 rfl (lv_at hl 1 rfl) ?_
  refine nb_getr hA hx hb hT hK hown hW fl_X8_9 hJ.2.1 (v := .ref q1) rfl dX8_init_26 ?_
  refine lv_iload_n hx hb dX8_init_29 rfl (lv_at hl 0 rfl) ?_
  refine lv_bipush (v := 7) hx hb dX8_init_30 (by decide) ?_
  refine lv_iload_n hx hb dX8_init_32 rfl (lv_at hl 3 rfl) ?_
  refine lv_imul hx hb dX8_init_33 ?_
  refine lv_iconst (v := 5) hx hb dX8_init_34 (by decide) ?_
  refine lv_iload_n hx hb dX8_init_35 rfl (lv_at hl 0 rfl) ?_
  refine lv_imul hx hb dX8_init_36 ?_
  refine lv_iadd hx hb dX8_init_37 ?_
  refine lv_iconst (v := 3) hx hb dX8_init_38 (by decide) ?_
  refine lv_iload_n hx hb dX8_init_39 rfl (lv_at hl 2 rfl) ?_
  refine lv_imul hx hb dX8_init_40 ?_
  refine lv_iadd hx hb dX8_init_41 ?_
  refine lv_bipush (v := 31) hx hb dX8_init_42 (by decide) ?_
  refine lv_irem hx hb dX8_init_44 (by decide) ?_
  refine lv_bipush (v := 15) hx hb dX8_init_45 (by decide) ?_
  refine lv_isub hx hb dX8_init_47 ?_
  refine lv_topi (fun v17 ev17 => ?_)
  refine nb_iastr hA hx hb hK hW hS 0 hJ.last rfl (inb_in (by decide)) dX8_init_48 (fun H locs G18 hEG18 hcG18 hW hS => ?_)
  replace hJ := hJ.upd hEG18 hcG18
  have hJ : JJ G G18 a (.inr (11, [.int x1, .ref q1, .int 0, .int 0, .int 0])) [(q1, .inl (z.2.2 0, 8, .inl (upd (upd (upd (upd (upd (upd (upd (fun _ => 0) 0 v5) 1 v7) 2 v9) 3 v11) 4 v13) 5 v15) 6 v17)))] := hJ
  refine lv_iinc (v := 7) (lv' := [(3, .int 7), (0, .ref a), (1, .int x1), (2, .int x2)]) hx hb dX8_init_49 hl (k := 0) rfl (by decide) (by decide) rfl (fun ls hl => ?_)
  refine lv_goto (tgt := 19) hx hb dX8_init_52 (by decide) ?_
  refine lv_iload_n hx hb dX8_init_19 rfl (lv_at hl 0 rfl) ?_
  refine lv_bipush (v := 8) hx hb dX8_init_20 (by decide) ?_
  refine lv_icmp_ge (tgt := 55) hx hb dX8_init_22 (by decide) (fun hc => absurd hc (by decide)) (fun _ => ?_)
  refine lv_aload_n hx hb dX8_init_25 rfl (lv_at hl 1 rfl) ?_
  refine nb_getr hA hx hb hT hK hown hW fl_X8_9 hJ.2.1 (v := .ref q1) rfl dX8_init_26 ?_
  refine lv_iload_n hx hb dX8_init_29 rfl (lv_at hl 0 rfl) ?_
  refine lv_bipush (v := 7) hx hb dX8_init_30 (by decide) ?_
  refine lv_iload_n hx hb dX8_init_32 rfl (lv_at hl 3 rfl) ?_
  refine lv_imul hx hb dX8_init_33 ?_
  refine lv_iconst (v := 5) hx hb dX8_init_34 (by decide) ?_
  refine lv_iload_n hx hb dX8_init_35 rfl (lv_at hl 0 rfl) ?_
  refine lv_imul hx hb dX8_init_36 ?_
  refine lv_iadd hx hb dX8_init_37 ?_
  refine lv_iconst (v := 3) hx hb dX8_init_38 (by decide) ?_
  refine lv_iload_n hx hb dX8_init_39 rfl (lv_at hl 2 rfl) ?_
  refine lv_imul hx hb dX8_init_40 ?_
  refine lv_iadd hx hb dX8_init_41 ?_
  refine lv_bipush (v := 31) hx hb dX8_init_42 (by decide) ?_
  refine lv_irem hx hb dX8_init_44 (by decide) ?_
  refine lv_bipush (v := 15) hx hb dX8_init_45 (by decide) ?_
  refine lv_isub hx hb dX8_init_47 ?_
  refine lv_topi (fun v19 ev19 => ?_)
  refine nb_iastr hA hx hb hK hW hS 0 hJ.last rfl (inb_in (by decide)) dX8_init_48 (fun H locs G20 hEG20 hcG20 hW hS => ?_)
  replace hJ := hJ.upd hEG20 hcG20
  have hJ : JJ G G20 a (.inr (11, [.int x1, .ref q1, .int 0, .int 0, .int 0])) [(q1, .inl (z.2.2 0, 8, .inl (upd (upd (upd (upd (upd (upd (upd (upd (fun _ => 0) 0 v5) 1 v7) 2 v9) 3 v11) 4 v13) 5 v15) 6 v17) 7 v19)))] := hJ
  refine lv_iinc (v := 8) (lv' := [(3, .int 8), (0, .ref a), (1, .int x1), (2, .int x2)]) hx hb dX8_init_49 hl (k := 0) rfl (by decide) (by decide) rfl (fun ls hl => ?_)
  refine lv_goto (tgt := 19) hx hb dX8_init_52 (by decide) ?_
  refine lv_iload_n hx hb dX8_init_19 rfl (lv_at hl 0 rfl) ?_
  refine lv_bipush (v := 8) hx hb dX8_init_20 (by decide) ?_
  refine lv_icmp_ge (tgt := 55) hx hb dX8_init_22 (by decide) (fun _ => ?_) (fun hc => absurd (by decide) hc)
  exact W.vret hx hb hr (fun t ht _ => ⟨⟨(G20, _), rfl, ⟨q1, (upd (upd (upd (upd (upd (upd (upd (upd (fun _ => 0) 0 v5) 1 v7) 2 v9) 3 v11) 4 v13) 5 v15) 6 v17) 7 v19), rfl, hJ⟩, by show GW z ad G20 t.heap; rw [ht]; exact hW⟩, hS.F ht⟩) hS.2.2 dX8_init_55 hlocks
set_option maxRecDepth 100000 in
set_option maxHeartbeats 8000000 in
theorem c_X9_init (l : Launch) (z : Zt) (ad : Ad) (G : Gt) (hA : Raw ad) (a : Nat) (x1 : Int32) (x2 : Int32) (x3 : Int32) (h0 : G 99 a = some (.inr (12, [.int 0, .int 0, .int 0, .int 0]))) : MC l z yX9_init cX9_init 4 none { frames := 1, cells := 0, slots := 0, locals := 12 } 0 0 [.ref a, .int x1, .int x2, .int x3] ad G (va_Qv (S := Gt × List (Nat × va_E)) (fun u => u.2 = [] ∧ JJ G u.1 a (.inr (12, [.int x1, .int x2, .int x3, .int 0])) u.2) (fun u t => GW z ad u.1 t.heap) (zA z)) := by
  refine Met.ofW (cc := cX9_init) (maxL := 4) (ret := none) (by decide) rfl ?_
  intro p e s m args below meth c s₁ B hml hv
  obtain ⟨rfl, hSW, hW⟩ := hv
  have hx := B.exec; have hb := B.bytes; have hr := B.returns; have hlocks := B.notSynchronized
  have hown : s.vm.findClass RX9 = some m.cls := findClass_of_methodNamed B.named
  have hin : meth.name = "<init>" := (name_of_methodNamed B.named B.method).1
  obtain ⟨hT, hK, hST, hB0⟩ := id hSW
  have hS : va_S (zA z) s.heap s.heap [] := va_S.rf
  have hl := lv_entry ([.ref a, .int x1, .int x2, .int x3]) (n := 4) (Nat.le_of_ble_eq_true rfl)
  rw [lg_entry_eq]
  generalize (lg_sl ([.ref a, .int x1, .int x2, .int x3]) ++ List.replicate (4 - (lg_sl ([.ref a, .int x1, .int x2, .int x3])).length) Slot.unset).toArray = ls at hl ⊢
  have hl : lv_has ls 4 [(0, .ref a), (1, .int x1), (2, .int x2), (3, .int x3)] := hl
  have hJ : JJ G G a (.inr (12, [.int 0, .int 0, .int 0, .int 0])) [] := JJ.start h0
  refine lv_aload_n hx hb dX9_init_0 rfl (lv_at hl 0 rfl) ?_
  refine nb_obj hx hb hml hl.1 hT hown lo_X9_1 ⟨Nat.le_of_ble_eq_true rfl, Nat.le_of_ble_eq_true rfl⟩ dX9_init_1 ?_
  refine lv_aload_n hx hb dX9_init_4 rfl (lv_at hl 0 rfl) ?_
  refine lv_iload_n hx hb dX9_init_5 rfl (lv_at hl 1 rfl) ?_
  refine nb_putFr hA hx hb hT hK hown hW hS fl_X9_7 (List.mem_of_getElem? (i := 1273) (by decide +kernel)) tyX9 tyX9_ok nmX9 hJ.2.1 (v := .int x1) rfl hin rfl rfl (Nat.le_of_ble_eq_true rfl) dX9_init_6 (fun H locs G1 hEG1 hcG1 hW hS => ?_)
  replace hJ := hJ.put hEG1 hcG1
  have hJ : JJ G G1 a (.inr (12, [.int x1, .int 0, .int 0, .int 0])) [] := hJ
  refine lv_aload_n hx hb dX9_init_9 rfl (lv_at hl 0 rfl) ?_
  refine lv_iload_n hx hb dX9_init_10 rfl (lv_at hl 2 rfl) ?_
  refine nb_putr hA hx hb hT hK hown hW hS fl_X9_13 tyX9 tyX9_ok nmX9 hJ.2.1 (v := .int x2) rfl rfl rfl (Nat.le_of_ble_eq_true rfl) dX9_init_11 (fun H locs G2 hEG2 hcG2 hW hS => ?_)
  replace hJ := hJ.put hEG2 hcG2
  have hJ : JJ G G2 a (.inr (12, [.int x1, .int x2, .int 0, .int 0])) [] := hJ
  refine lv_aload_n hx hb dX9_init_14 rfl (lv_at hl 0 rfl) ?_
  refine lv_iload_n hx hb dX9_init_15 rfl (lv_at hl 3 rfl) ?_
  refine nb_putr hA hx hb hT hK hown hW hS fl_X9_16 tyX9 tyX9_ok nmX9 hJ.2.1 (v := .int x3) rfl rfl rfl (Nat.le_of_ble_eq_true rfl) dX9_init_16 (fun H locs G3 hEG3 hcG3 hW hS => ?_)
  replace hJ := hJ.put hEG3 hcG3
  have hJ : JJ G G3 a (.inr (12, [.int x1, .int x2, .int x3, .int 0])) [] := hJ
  have hJ9 : JJ G G3 a (.inr (12, [.int x1, .int x2, .int x3, .int 0])) [] := hJ
  exact W.vret hx hb hr (fun t ht _ => ⟨⟨(G3, _), rfl, ⟨rfl, hJ9⟩, by show GW z ad G3 t.heap; rw [ht]; exact hW⟩, hS.F ht⟩) hS.2.2 dX9_init_19 hlocks
set_option maxRecDepth 100000 in
set_option maxHeartbeats 8000000 in
theorem c_X10_init (l : Launch) (z : Zt) (ad : Ad) (G : Gt) (hA : Raw ad) (a : Nat) (x1 : Int32) (x2 : Int32) (x3 : Int32) (h0 : G 99 a = some (.inr (13, [.int 0, .int 0, .int 0, .int 0, .int 0, .int 0, .null, .null]))) : MC l z yX10_init cX10_init 4 none { frames := 1, cells := 2, slots := 16, locals := 12 } 2 16 [.ref a, .int x1, .int x2, .int x3] ad G (va_Qv (S := Gt × List (Nat × va_E)) (fun u => ∃ (n0 : Nat) (n1 : Nat), u.2 = [(n0, .inl (z.2.2 0, 8, .inl (fun _ => 0))), (n1, .inl (z.2.2 7, 8, .inl (fun _ => 0)))] ∧ JJ G u.1 a (.inr (13, [.int x1, .int x2, .int x3, .int (-1), .int 0, .int 0, .ref n0, .ref n1])) u.2) (fun u t => GW z ad u.1 t.heap) (zA z)) := by
  refine Met.ofW (cc := cX10_init) (maxL := 4) (ret := none) (by decide) rfl ?_
  intro p e s m args below meth c s₁ B hml hv
  obtain ⟨rfl, hSW, hW⟩ := hv
  have hx := B.exec; have hb := B.bytes; have hr := B.returns; have hlocks := B.notSynchronized
  have hown : s.vm.findClass RX10 = some m.cls := findClass_of_methodNamed B.named
  have hin : meth.name = "<init>" := (name_of_methodNamed B.named B.method).1
  obtain ⟨hT, hK, hST, hB0⟩ := id hSW
  have hS : va_S (zA z) s.heap s.heap [] := va_S.rf
  have hl := lv_entry ([.ref a, .int x1, .int x2, .int x3]) (n := 4) (Nat.le_of_ble_eq_true rfl)
  rw [lg_entry_eq]
  generalize (lg_sl ([.ref a, .int x1, .int x2, .int x3]) ++ List.replicate (4 - (lg_sl ([.ref a, .int x1, .int x2, .int x3])).length) Slot.unset).toArray = ls at hl ⊢
  have hl : lv_has ls 4 [(0, .ref a), (1, .int x1), (2, .int x2), (3, .int x3)] := hl
  have hJ : JJ G G a (.inr (13, [.int 0, .int 0, .int 0, .int 0, .int 0, .int 0, .null, .null])) [] := JJ.start h0
  refine lv_aload_n hx hb dX10_init_0 rfl (lv_at hl 0 rfl) ?_
  refine nb_obj hx hb hml hl.1 hT hown lo_X10_3 ⟨Nat.le_of_ble_eq_true rfl, Nat.le_of_ble_eq_true rfl⟩ dX10_init_1 ?_
  refine lv_aload_n hx hb dX10_init_4 rfl (lv_at hl 0 rfl) ?_
  refine lv_iconst (v := (-1)) hx hb dX10_init_5 (by decide) ?_
  refine nb_putr hA hx hb hT hK hown hW hS fl_X10_9 tyX10 tyX10_ok nmX10 hJ.2.1 (v := .int (-1)) rfl rfl rfl (Nat.le_of_ble_eq_true rfl) dX10_init_6 (fun H locs G1 hEG1 hcG1 hW hS => ?_)
  replace hJ := hJ.put hEG1 hcG1
  have hJ : JJ G G1 a (.inr (13, [.int 0, .int 0, .int 0, .int (-1), .int 0, .int 0, .null, .null])) [] := hJ
  refine lv_aload_n hx hb dX10_init_9 rfl (lv_at hl 0 rfl) ?_
  refine lv_bipush (v := 8) hx hb dX10_init_10 (by decide) ?_
  refine nb_newi hx hb hSW hA hW hS wd_arrI (by decide) (N' := 8) (by decide) (by decide) ⟨Nat.le_of_ble_eq_true rfl, Nat.le_of_ble_eq_true rfl⟩ dX10_init_12 (fun q2 H G3 hnq2 hEq2 hcq2 hW hS => ?_)
  replace hJ := hJ.arr hnq2 hEq2 hcq2
  have hJ : JJ G G3 a (.inr (13, [.int 0, .int 0, .int 0, .int (-1), .int 0, .int 0, .null, .null])) [(q2, .inl (z.2.2 0, 8, .inl (fun _ => 0)))] := hJ
  refine nb_putFr hA hx hb hT hK hown hW hS fl_X10_15 (List.mem_of_getElem? (i := 1414) (by decide +kernel)) tyX10 tyX10_ok nmX10 hJ.2.1 (v := .ref q2) rfl hin rfl rfl (Nat.le_of_ble_eq_true rfl) dX10_init_14 (fun H locs G4 hEG4 hcG4 hW hS => ?_)
  replace hJ := hJ.put hEG4 hcG4
  have hJ : JJ G G4 a (.inr (13, [.int 0, .int 0, .int 0, .int (-1), .int 0, .int 0, .ref q2, .null])) [(q2, .inl (z.2.2 0, 8, .inl (fun _ => 0)))] := hJ
  refine lv_aload_n hx hb dX10_init_17 rfl (lv_at hl 0 rfl) ?_
  refine lv_bipush (v := 8) hx hb dX10_init_18 (by decide) ?_
  refine nb_newz hx hb hSW hA hW hS wd_arrZ (by decide) (N' := 8) (by decide) (by decide) ⟨Nat.le_of_ble_eq_true rfl, Nat.le_of_ble_eq_true rfl⟩ dX10_init_20 (fun q5 H G6 hnq5 hEq5 hcq5 hW hS => ?_)
  replace hJ := hJ.arr hnq5 hEq5 hcq5
  have hJ : JJ G G6 a (.inr (13, [.int 0, .int 0, .int 0, .int (-1), .int 0, .int 0, .ref q2, .null])) [(q2, .inl (z.2.2 0, 8, .inl (fun _ => 0))), (q5, .inl (z.2.2 7, 8, .inl (fun _ => 0)))] := hJ
  refine nb_putFr hA hx hb hT hK hown hW hS fl_X10_19 (List.mem_of_getElem? (i := 1416) (by decide +kernel)) tyX10 tyX10_ok nmX10 hJ.2.1 (v := .ref q5) rfl hin rfl rfl (Nat.le_of_ble_eq_true rfl) dX10_init_22 (fun H locs G7 hEG7 hcG7 hW hS => ?_)
  replace hJ := hJ.put hEG7 hcG7
  have hJ : JJ G G7 a (.inr (13, [.int 0, .int 0, .int 0, .int (-1), .int 0, .int 0, .ref q2, .ref q5])) [(q2, .inl (z.2.2 0, 8, .inl (fun _ => 0))), (q5, .inl (z.2.2 7, 8, .inl (fun _ => 0)))] := hJ
  refine lv_aload_n hx hb dX10_init_25 rfl (lv_at hl 0 rfl) ?_
  refine lv_iload_n hx hb dX10_init_26 rfl (lv_at hl 1 rfl) ?_
  refine nb_putFr hA hx hb hT hK hown hW hS fl_X10_23 (List.mem_of_getElem? (i := 1404) (by decide +kernel)) tyX10 tyX10_ok nmX10 hJ.2.1 (v := .int x1) rfl hin rfl rfl (Nat.le_of_ble_eq_true rfl) dX10_init_27 (fun H locs G8 hEG8 hcG8 hW hS => ?_)
  replace hJ := hJ.put hEG8 hcG8
  have hJ : JJ G G8 a (.inr (13, [.int x1, .int 0, .int 0, .int (-1), .int 0, .int 0, .ref q2, .ref q5])) [(q2, .inl (z.2.2 0, 8, .inl (fun _ => 0))), (q5, .inl (z.2.2 7, 8, .inl (fun _ => 0)))] := hJ
  refine lv_aload_n hx hb dX10_init_30 rfl (lv_at hl 0 rfl) ?_
  refine lv_iload_n hx hb dX10_init_31 rfl (lv_at hl 2 rfl) ?_
  refine nb_putFr hA hx hb hT hK hown hW hS fl_X10_26 (List.mem_of_getElem? (i := 1406) (by decide +kernel)) tyX10 tyX10_ok nmX10 hJ.2.1 (v := .int x2) rfl hin rfl rfl (Nat.le_of_ble_eq_true rfl) dX10_init_32 (fun H locs G9 hEG9 hcG9 hW hS => ?_)
  replace hJ := hJ.put hEG9 hcG9
  have hJ : JJ G G9 a (.inr (13, [.int x1, .int x2, .int 0, .int (-1), .int 0, .int 0, .ref q2, .ref q5])) [(q2, .inl (z.2.2 0, 8, .inl (fun _ => 0))), (q5, .inl (z.2.2 7, 8, .inl (fun _ => 0)))] := hJ
  refine lv_aload_n hx hb dX10_init_35 rfl (lv_at hl 0 rfl) ?_
  refine lv_iload_n hx hb dX10_init_36 rfl (lv_at hl 3 rfl) ?_
  refine nb_putFr hA hx hb hT hK hown hW hS fl_X10_29 (List.mem_of_getElem? (i := 1408) (by decide +kernel)) tyX10 tyX10_ok nmX10 hJ.2.1 (v := .int x3) rfl hin rfl rfl (Nat.le_of_ble_eq_true rfl) dX10_init_37 (fun H locs G10 hEG10 hcG10 hW hS => ?_)
  replace hJ := hJ.put hEG10 hcG10
  have hJ : JJ G G10 a (.inr (13, [.int x1, .int x2, .int x3, .int (-1), .int 0, .int 0, .ref q2, .ref q5])) [(q2, .inl (z.2.2 0, 8, .inl (fun _ => 0))), (q5, .inl (z.2.2 7, 8, .inl (fun _ => 0)))] := hJ
  have hJ9 : JJ G G10 a (.inr (13, [.int x1, .int x2, .int x3, .int (-1), .int 0, .int 0, .ref q2, .ref q5])) [(q2, .inl (z.2.2 0, 8, .inl (fun _ => 0))), (q5, .inl (z.2.2 7, 8, .inl (fun _ => 0)))] := hJ
  exact W.vret hx hb hr (fun t ht _ => ⟨⟨(G10, _), rfl, ⟨q2, q5, rfl, hJ9⟩, by show GW z ad G10 t.heap; rw [ht]; exact hW⟩, hS.F ht⟩) hS.2.2 dX10_init_40 hlocks
set_option maxRecDepth 100000 in
set_option maxHeartbeats 8000000 in
theorem c_X11_init (l : Launch) (z : Zt) (o : Ot) (ad : Ad) (G : Gt) (hA : Raw ad) (a : Nat) (h0 : G 99 a = some (.inr (8, [.int 0, .null, .null, .null, .null, .null, .null, .null, .null, .int 0, .int 0, .int 0, .int 0, .int 0, .int 0, .int 0]))) : MO l z o yX11_init cX11_init 1 none { frames := 4, cells := 11, slots := 31, locals := 120 } 11 31 [.ref a] ad G (va_Qv (S := Gt) (fun u => ∃ (n0 : Nat) (n1 : Nat) (n2 : Nat) (n3 : Nat) (n4 : Nat) (n5 : Nat) (n6 : Nat) (n7 : Nat) (n8 : Nat) (n9 : Nat) (n10 : Nat), JJ G u a (.inr (8, [.int 0, .ref n0, .ref n1, .ref n2, .ref n3, .ref n4, .ref n5, .ref n6, .ref n7, .int 0, .int 0, .int 0, .int 200, .int 0, .int (-1), .int 0])) [(n0, .inr (9, [.int 0, .ref o.1, .int 0])), (n1, .inr (9, [.int 0, .ref o.1, .int 0])), (n2, .inr (9, [.int 0, .ref o.1, .int 0])), (n3, .inr (9, [.int 0, .ref o.1, .int 0])), (n4, .inr (9, [.int 0, .ref o.1, .int 0])), (n5, .inl (z.2.2 0, 4, .inl (fun _ => 0))), (n6, .inl (z.2.2 0, 3, .inl (fun _ => 0))), (n7, .inl (z.2.2 1, 3, .inr (.inr (.inr (.inr (va_up (va_up (va_up (fun _ => none) 0 (some n8)) 1 (some n9)) 2 (some n10))))))), (n8, .inl (z.2.2 0, 2, .inl (fun _ => -1))), (n9, .inl (z.2.2 0, 2, .inl (fun _ => -1))), (n10, .inl (z.2.2 0, 2, .inl (fun _ => -1)))]) (fun u t => GW z ad u t.heap) (zA z)) := by
  refine Met.ofW (cc := cX11_init) (maxL := 1) (ret := none) (by decide) rfl ?_
  intro p e s m args below meth c s₁ B hml hv
  obtain ⟨rfl, hSW, hSO, hW⟩ := hv
  have hx := B.exec; have hb := B.bytes; have hr := B.returns; have hlocks := B.notSynchronized
  have hown : s.vm.findClass RX11 = some m.cls := findClass_of_methodNamed B.named
  have hin : meth.name = "<init>" := (name_of_methodNamed B.named B.method).1
  obtain ⟨hT, hK, hST, hB0⟩ := id hSW
  have hS : va_S (zA z) s.heap s.heap [] := va_S.rf
  have hl := lv_entry ([.ref a]) (n := 1) (Nat.le_of_ble_eq_true rfl)
  rw [lg_entry_eq]
  generalize (lg_sl ([.ref a]) ++ List.replicate (1 - (lg_sl ([.ref a])).length) Slot.unset).toArray = ls at hl ⊢
  have hl : lv_has ls 1 [(0, .ref a)] := hl
  have hJ : JJ G G a (.inr (8, [.int 0, .null, .null, .null, .null, .null, .null, .null, .null, .int 0, .int 0, .int 0, .int 0, .int 0, .int 0, .int 0])) [] := JJ.start h0
  refine lv_aload_n hx hb dX11_init_0 rfl (lv_at hl 0 rfl) ?_
  refine nb_obj hx hb hml hl.1 hT hown lo_X11_10 ⟨Nat.le_of_ble_eq_true rfl, Nat.le_of_ble_eq_true rfl⟩ dX11_init_1 ?_
  refine lv_aload_n hx hb dX11_init_4 rfl (lv_at hl 0 rfl) ?_
  refine nb_new (fs := [.int 0, .null, .int 0]) hx hb hSW hown hA hW hS nw_X11_16 tyJx4a65c tyJx4a65c_ok (fun j hj => by rcases (show j = 0 ∨ j = 1 ∨ j = 2 by omega) with rfl | rfl | rfl <;> rfl) ⟨Nat.le_of_ble_eq_true rfl, Nat.le_of_ble_eq_true rfl⟩ dX11_init_5 (fun b1 H G2 hnb1 hEb1 hbb1 hW hS => ?_)
  refine lv_dup hx hb dX11_init_8 rfl ?_
  refine va_callv (nb_runIo (As := []) (rest := [.ref b1, .ref a]) hx hb hml hown hSW hSO hS hW (m_ALi l z o ad G2 hA b1 hbb1) mf_ALi lk_X11_18 rfl ⟨rfl, rfl⟩ ⟨Nat.le_of_ble_eq_true rfl, Nat.le_of_ble_eq_true rfl⟩ hl.1 (Nat.le_of_ble_eq_true rfl) dX11_init_9 ⟨Nat.le_of_ble_eq_true rfl, Nat.le_of_ble_eq_true rfl⟩) hS (fun _ _ h => h) (fun _ h => h) (fun G3 tG3 H locs ht _ hpG3 hW _ _ hS => ?_)
  subst ht
  replace hW : GW z ad G3 tG3.heap := hW
  replace hJ := hJ.obj hnb1 hEb1 (JJ.ofE hpG3.1 hpG3.2)
  have hJ : JJ G G3 a (.inr (8, [.int 0, .null, .null, .null, .null, .null, .null, .null, .null, .int 0, .int 0, .int 0, .int 0, .int 0, .int 0, .int 0])) [(b1, .inr (9, [.int 0, .ref o.1, .int 0]))] := hJ
  refine nb_putFr hA hx hb hT hK hown hW hS fl_X11_19 (List.mem_of_getElem? (i := 1028) (by decide +kernel)) tyX11 tyX11_ok nmX11 hJ.2.1 (v := .ref b1) rfl hin rfl rfl (Nat.le_of_ble_eq_true rfl) dX11_init_12 (fun H locs G4 hEG4 hcG4 hW hS => ?_)
  replace hJ := hJ.put hEG4 hcG4
  have hJ : JJ G G4 a (.inr (8, [.int 0, .ref b1, .null, .null, .null, .null, .null, .null, .null, .int 0, .int 0, .int 0, .int 0, .int 0, .int 0, .int 0])) [(b1, .inr (9, [.int 0, .ref o.1, .int 0]))] := hJ
  refine lv_aload_n hx hb dX11_init_15 rfl (lv_at hl 0 rfl) ?_
  refine nb_new (fs := [.int 0, .null, .int 0]) hx hb hSW hown hA hW hS nw_X11_16 tyJx4a65c tyJx4a65c_ok (fun j hj => by rcases (show j = 0 ∨ j = 1 ∨ j = 2 by omega) with rfl | rfl | rfl <;> rfl) ⟨Nat.le_of_ble_eq_true rfl, Nat.le_of_ble_eq_true rfl⟩ dX11_init_16 (fun b5 H G6 hnb5 hEb5 hbb5 hW hS => ?_)
  refine lv_dup hx hb dX11_init_19 rfl ?_
  refine va_callv (nb_runIo (As := []) (rest := [.ref b5, .ref a]) hx hb hml hown hSW hSO hS hW (m_ALi l z o ad G6 hA b5 hbb5) mf_ALi lk_X11_18 rfl ⟨rfl, rfl⟩ ⟨Nat.le_of_ble_eq_true rfl, Nat.le_of_ble_eq_true rfl⟩ hl.1 (Nat.le_of_ble_eq_true rfl) dX11_init_20 ⟨Nat.le_of_ble_eq_true rfl, Nat.le_of_ble_eq_true rfl⟩) hS (fun _ _ h => h) (fun _ h => h) (fun G7 tG7 H locs ht _ hpG7 hW _ _ hS => ?_)
  subst ht
  replace hW : GW z ad G7 tG7.heap := hW
  replace hJ := hJ.obj hnb5 hEb5 (JJ.ofE hpG7.1 hpG7.2)
  have hJ : JJ G G7 a (.inr (8, [.int 0, .ref b1, .null, .null, .null, .null, .null, .null, .null, .int 0, .int 0, .int 0, .int 0, .int 0, .int 0, .int 0])) [(b1, .inr (9, [.int 0, .ref o.1, .int 0])), (b5, .inr (9, [.int 0, .ref o.1, .int 0]))] := hJ
  refine nb_putFr hA hx hb hT hK hown hW hS fl_X11_25 (List.mem_of_getElem? (i := 1029) (by decide +kernel)) tyX11 tyX11_ok nmX11 hJ.2.1 (v := .ref b5) rfl hin rfl rfl (Nat.le_of_ble_eq_true rfl) dX11_init_23 (fun H locs G8 hEG8 hcG8 hW hS => ?_)
  replace hJ := hJ.put hEG8 hcG8
  have hJ : JJ G G8 a (.inr (8, [.int 0, .ref b1, .ref b5, .null, .null, .null, .null, .null, .null, .int 0, .int 0, .int 0, .int 0, .int 0, .int 0, .int 0])) [(b1, .inr (9, [.int 0, .ref o.1, .int 0])), (b5, .inr (9, [.int 0, .ref o.1, .int 0]))] := hJ
  refine lv_aload_n hx hb dX11_init_26 rfl (lv_at hl 0 rfl) ?_
  refine nb_new (fs := [.int 0, .null, .int 0]) hx hb hSW hown hA hW hS nw_X11_16 tyJx4a65c tyJx4a65c_ok (fun j hj => by rcases (show j = 0 ∨ j = 1 ∨ j = 2 by omega) with rfl | rfl | rfl <;> rfl) ⟨Nat.le_of_ble_eq_true rfl, Nat.le_of_ble_eq_true rfl⟩ dX11_init_27 (fun b9 H G10 hnb9 hEb9 hbb9 hW hS => ?_)
  refine lv_dup hx hb dX11_init_30 rfl ?_
  refine va_callv (nb_runIo (As := []) (rest := [.ref b9, .ref a]) hx hb hml hown hSW hSO hS hW (m_ALi l z o ad G10 hA b9 hbb9) mf_ALi lk_X11_18 rfl ⟨rfl, rfl⟩ ⟨Nat.le_of_ble_eq_true rfl, Nat.le_of_ble_eq_true rfl⟩ hl.1 (Nat.le_of_ble_eq_true rfl) dX11_init_31 ⟨Nat.le_of_ble_eq_true rfl, Nat.le_of_ble_eq_true rfl⟩) hS (fun _ _ h => h) (fun _ h => h) (fun G11 tG11 H locs ht _ hpG11 hW _ _ hS => ?_)
  subst ht
  replace hW : GW z ad G11 tG11.heap := hW
  replace hJ := hJ.obj hnb9 hEb9 (JJ.ofE hpG11.1 hpG11.2)
  have hJ : JJ G G11 a (.inr (8, [.int 0, .ref b1, .ref b5, .null, .null, .null, .null, .null, .null, .int 0, .int 0, .int 0, .int 0, .int 0, .int 0, .int 0])) [(b1, .inr (9, [.int 0, .ref o.1, .int 0])), (b5, .inr (9, [.int 0, .ref o.1, .int 0])), (b9, .inr (9, [.int 0, .ref o.1, .int 0]))] := hJ
  refine nb_putFr hA hx hb hT hK hown hW hS fl_X11_28 (List.mem_of_getElem? (i := 1030) (by decide +kernel)) tyX11 tyX11_ok nmX11 hJ.2.1 (v := .ref b9) rfl hin rfl rfl (Nat.le_of_ble_eq_true rfl) dX11_init_34 (fun H locs G12 hEG12 hcG12 hW hS => ?_)
  replace hJ := hJ.put hEG12 hcG12
  have hJ : JJ G G12 a (.inr (8, [.int 0, .ref b1, .ref b5, .ref b9, .null, .null, .null, .null, .null, .int 0, .int 0, .int 0, .int 0, .int 0, .int 0, .int 0])) [(b1, .inr (9, [.int 0, .ref o.1, .int 0])), (b5, .inr (9, [.int 0, .ref o.1, .int 0])), (b9, .inr (9, [.int 0, .ref o.1, .int 0]))] := hJ
  refine lv_aload_n hx hb dX11_init_37 rfl (lv_at hl 0 rfl) ?_
  refine nb_new (fs := [.int 0, .null, .int 0]) hx hb hSW hown hA hW hS nw_X11_16 tyJx4a65c tyJx4a65c_ok (fun j hj => by rcases (show j = 0 ∨ j = 1 ∨ j = 2 by omega) with rfl | rfl | rfl <;> rfl) ⟨Nat.le_of_ble_eq_true rfl, Nat.le_of_ble_eq_true rfl⟩ dX11_init_38 (fun b13 H G14 hnb13 hEb13 hbb13 hW hS => ?_)
  refine lv_dup hx hb dX11_init_41 rfl ?_
  refine va_callv (nb_runIo (As := []) (rest := [.ref b13, .ref a]) hx hb hml hown hSW hSO hS hW (m_ALi l z o ad G14 hA b13 hbb13) mf_ALi lk_X11_18 rfl ⟨rfl, rfl⟩ ⟨Nat.le_of_ble_eq_true rfl, Nat.le_of_ble_eq_true rfl⟩ hl.1 (Nat.le_of_ble_eq_true rfl) dX11_init_42 ⟨Nat.le_of_ble_eq_true rfl, Nat.le_of_ble_eq_true rfl⟩) hS (fun _ _ h => h) (fun _ h => h) (fun G15 tG15 H locs ht _ hpG15 hW _ _ hS => ?_)
  subst ht
  replace hW : GW z ad G15 tG15.heap := hW
  replace hJ := hJ.obj hnb13 hEb13 (JJ.ofE hpG15.1 hpG15.2)
  have hJ : JJ G G15 a (.inr (8, [.int 0, .ref b1, .ref b5, .ref b9, .null, .null, .null, .null, .null, .int 0, .int 0, .int 0, .int 0, .int 0, .int 0, .int 0])) [(b1, .inr (9, [.int 0, .ref o.1, .int 0])), (b5, .inr (9, [.int 0, .ref o.1, .int 0])), (b9, .inr (9, [.int 0, .ref o.1, .int 0])), (b13, .inr (9, [.int 0, .ref o.1, .int 0]))] := hJ
  refine nb_putFr hA hx hb hT hK hown hW hS fl_X11_31 (List.mem_of_getElem? (i := 1031) (by decide +kernel)) tyX11 tyX11_ok nmX11 hJ.2.1 (v := .ref b13) rfl hin rfl rfl (Nat.le_of_ble_eq_true rfl) dX11_init_45 (fun H locs G16 hEG16 hcG16 hW hS => ?_)
  replace hJ := hJ.put hEG16 hcG16
  have hJ : JJ G G16 a (.inr (8, [.int 0, .ref b1, .ref b5, .ref b9, .ref b13, .null, .null, .null, .null, .int 0, .int 0, .int 0, .int 0, .int 0, .int 0, .int 0])) [(b1, .inr (9, [.int 0, .ref o.1, .int 0])), (b5, .inr (9, [.int 0, .ref o.1, .int 0])), (b9, .inr (9, [.int 0, .ref o.1, .int 0])), (b13, .inr (9, [.int 0, .ref o.1, .int 0]))] := hJ
  refine lv_aload_n hx hb dX11_init_48 rfl (lv_at hl 0 rfl) ?_
  refine nb_new (fs := [.int 0, .null, .int 0]) hx hb hSW hown hA hW hS nw_X11_16 tyJx4a65c tyJx4a65c_ok (fun j hj => by rcases (show j = 0 ∨ j = 1 ∨ j = 2 by omega) with rfl | rfl | rfl <;> rfl) ⟨Nat.le_of_ble_eq_true rfl, Nat.le_of_ble_eq_true rfl⟩ dX11_init_49 (fun b17 H G18 hnb17 hEb17 hbb17 hW hS => ?_)
  refine lv_dup hx hb dX11_init_52 rfl ?_
  refine va_callv (nb_runIo (As := []) (rest := [.ref b17, .ref a]) hx hb hml hown hSW hSO hS hW (m_ALi l z o ad G18 hA b17 hbb17) mf_ALi lk_X11_18 rfl ⟨rfl, rfl⟩ ⟨Nat.le_of_ble_eq_true rfl, Nat.le_of_ble_eq_true rfl⟩ hl.1 (Nat.le_of_ble_eq_true rfl) dX11_init_53 ⟨Nat.le_of_ble_eq_true rfl, Nat.le_of_ble_eq_true rfl⟩) hS (fun _ _ h => h) (fun _ h => h) (fun G19 tG19 H locs ht _ hpG19 hW _ _ hS => ?_)
  subst ht
  replace hW : GW z ad G19 tG19.heap := hW
  replace hJ := hJ.obj hnb17 hEb17 (JJ.ofE hpG19.1 hpG19.2)
  have hJ : JJ G G19 a (.inr (8, [.int 0, .ref b1, .ref b5, .ref b9, .ref b13, .null, .null, .null, .null, .int 0, .int 0, .int 0, .int 0, .int 0, .int 0, .int 0])) [(b1, .inr (9, [.int 0, .ref o.1, .int 0])), (b5, .inr (9, [.int 0, .ref o.1, .int 0])), (b9, .inr (9, [.int 0, .ref o.1, .int 0])), (b13, .inr (9, [.int 0, .ref o.1, .int 0])), (b17, .inr (9, [.int 0, .ref o.1, .int 0]))] := hJ
  refine nb_putFr hA hx hb hT hK hown hW hS fl_X11_34 (List.mem_of_getElem? (i := 1032) (by decide +kernel)) tyX11 tyX11_ok nmX11 hJ.2.1 (v := .ref b17) rfl hin rfl rfl (Nat.le_of_ble_eq_true rfl) dX11_init_56 (fun H locs G20 hEG20 hcG20 hW hS => ?_)
  replace hJ := hJ.put hEG20 hcG20
  have hJ : JJ G G20 a (.inr (8, [.int 0, .ref b1, .ref b5, .ref b9, .ref b13, .ref b17, .null, .null, .null, .int 0, .int 0, .int 0, .int 0, .int 0, .int 0, .int 0])) [(b1, .inr (9, [.int 0, .ref o.1, .int 0])), (b5, .inr (9, [.int 0, .ref o.1, .int 0])), (b9, .inr (9, [.int 0, .ref o.1, .int 0])), (b13, .inr (9, [.int 0, .ref o.1, .int 0])), (b17, .inr (9, [.int 0, .ref o.1, .int 0]))] := hJ
  refine lv_aload_n hx hb dX11_init_59 rfl (lv_at hl 0 rfl) ?_
  refine lv_iconst (v := 4) hx hb dX11_init_60 (by decide) ?_
  refine nb_newi hx hb hSW hA hW hS wd_arrI (by decide) (N' := 4) (by decide) (by decide) ⟨Nat.le_of_ble_eq_true rfl, Nat.le_of_ble_eq_true rfl⟩ dX11_init_61 (fun q21 H G22 hnq21 hEq21 hcq21 hW hS => ?_)
  replace hJ := hJ.arr hnq21 hEq21 hcq21
  have hJ : JJ G G22 a (.inr (8, [.int 0, .ref b1, .ref b5, .ref b9, .ref b13, .ref b17, .null, .null, .null, .int 0, .int 0, .int 0, .int 0, .int 0, .int 0, .int 0])) [(b1, .inr (9, [.int 0, .ref o.1, .int 0])), (b5, .inr (9, [.int 0, .ref o.1, .int 0])), (b9, .inr (9, [.int 0, .ref o.1, .int 0])), (b13, .inr (9, [.int 0, .ref o.1, .int 0])), (b17, .inr (9, [.int 0, .ref o.1, .int 0])), (q21, .inl (z.2.2 0, 4, .inl (fun _ => 0)))] := hJ
  refine nb_putFr hA hx hb hT hK hown hW hS fl_X11_37 (List.mem_of_getElem? (i := 1033) (by decide +kernel)) tyX11 tyX11_ok nmX11 hJ.2.1 (v := .ref q21) rfl hin rfl rfl (Nat.le_of_ble_eq_true rfl) dX11_init_63 (fun H locs G23 hEG23 hcG23 hW hS => ?_)
  replace hJ := hJ.put hEG23 hcG23
  have hJ : JJ G G23 a (.inr (8, [.int 0, .ref b1, .ref b5, .ref b9, .ref b13, .ref b17, .ref q21, .null, .null, .int 0, .int 0, .int 0, .int 0, .int 0, .int 0, .int 0])) [(b1, .inr (9, [.int 0, .ref o.1, .int 0])), (b5, .inr (9, [.int 0, .ref o.1, .int 0])), (b9, .inr (9, [.int 0, .ref o.1, .int 0])), (b13, .inr (9, [.int 0, .ref o.1, .int 0])), (b17, .inr (9, [.int 0, .ref o.1, .int 0])), (q21, .inl (z.2.2 0, 4, .inl (fun _ => 0)))] := hJ
  refine lv_aload_n hx hb dX11_init_66 rfl (lv_at hl 0 rfl) ?_
  refine lv_iconst (v := 3) hx hb dX11_init_67 (by decide) ?_
  refine nb_newi hx hb hSW hA hW hS wd_arrI (by decide) (N' := 3) (by decide) (by decide) ⟨Nat.le_of_ble_eq_true rfl, Nat.le_of_ble_eq_true rfl⟩ dX11_init_68 (fun q24 H G25 hnq24 hEq24 hcq24 hW hS => ?_)
  replace hJ := hJ.arr hnq24 hEq24 hcq24
  have hJ : JJ G G25 a (.inr (8, [.int 0, .ref b1, .ref b5, .ref b9, .ref b13, .ref b17, .ref q21, .null, .null, .int 0, .int 0, .int 0, .int 0, .int 0, .int 0, .int 0])) [(b1, .inr (9, [.int 0, .ref o.1, .int 0])), (b5, .inr (9, [.int 0, .ref o.1, .int 0])), (b9, .inr (9, [.int 0, .ref o.1, .int 0])), (b13, .inr (9, [.int 0, .ref o.1, .int 0])), (b17, .inr (9, [.int 0, .ref o.1, .int 0])), (q21, .inl (z.2.2 0, 4, .inl (fun _ => 0))), (q24, .inl (z.2.2 0, 3, .inl (fun _ => 0)))] := hJ
  refine nb_putFr hA hx hb hT hK hown hW hS fl_X11_41 (List.mem_of_getElem? (i := 1034) (by decide +kernel)) tyX11 tyX11_ok nmX11 hJ.2.1 (v := .ref q24) rfl hin rfl rfl (Nat.le_of_ble_eq_true rfl) dX11_init_70 (fun H locs G26 hEG26 hcG26 hW hS => ?_)
  replace hJ := hJ.put hEG26 hcG26
  have hJ : JJ G G26 a (.inr (8, [.int 0, .ref b1, .ref b5, .ref b9, .ref b13, .ref b17, .ref q21, .ref q24, .null, .int 0, .int 0, .int 0, .int 0, .int 0, .int 0, .int 0])) [(b1, .inr (9, [.int 0, .ref o.1, .int 0])), (b5, .inr (9, [.int 0, .ref o.1, .int 0])), (b9, .inr (9, [.int 0, .ref o.1, .int 0])), (b13, .inr (9, [.int 0, .ref o.1, .int 0])), (b17, .inr (9, [.int 0, .ref o.1, .int 0])), (q21, .inl (z.2.2 0, 4, .inl (fun _ => 0))), (q24, .inl (z.2.2 0, 3, .inl (fun _ => 0)))] := hJ
  refine lv_aload_n hx hb dX11_init_73 rfl (lv_at hl 0 rfl) ?_
  refine lv_iconst (v := 3) hx hb dX11_init_74 (by decide) ?_
  refine nb_newqA hx hb hSW hown hA hW hS ao_X11_44 (by decide) (N' := 3) (by decide) (by decide) ⟨Nat.le_of_ble_eq_true rfl, Nat.le_of_ble_eq_true rfl⟩ dX11_init_75 (fun q27 H G28 hnq27 hEq27 hcq27 hW hS => ?_)
  replace hJ := hJ.arr hnq27 hEq27 hcq27
  have hJ : JJ G G28 a (.inr (8, [.int 0, .ref b1, .ref b5, .ref b9, .ref b13, .ref b17, .ref q21, .ref q24, .null, .int 0, .int 0, .int 0, .int 0, .int 0, .int 0, .int 0])) [(b1, .inr (9, [.int 0, .ref o.1, .int 0])), (b5, .inr (9, [.int 0, .ref o.1, .int 0])), (b9, .inr (9, [.int 0, .ref o.1, .int 0])), (b13, .inr (9, [.int 0, .ref o.1, .int 0])), (b17, .inr (9, [.int 0, .ref o.1, .int 0])), (q21, .inl (z.2.2 0, 4, .inl (fun _ => 0))), (q24, .inl (z.2.2 0, 3, .inl (fun _ => 0))), (q27, .inl (z.2.2 1, 3, .inr (.inr (.inr (.inr (fun _ => none))))))] := hJ
  refine lv_dup hx hb dX11_init_78 rfl ?_
  refine lv_iconst (v := 0) hx hb dX11_init_79 (by decide) ?_
  refine lv_iconst (v := 2) hx hb dX11_init_80 (by decide) ?_
  refine nb_newi hx hb hSW hA hW hS wd_arrI (by decide) (N' := 2) (by decide) (by decide) ⟨Nat.le_of_ble_eq_true rfl, Nat.le_of_ble_eq_true rfl⟩ dX11_init_81 (fun q29 H G30 hnq29 hEq29 hcq29 hW hS => ?_)
  replace hJ := hJ.arr hnq29 hEq29 hcq29
  have hJ : JJ G G30 a (.inr (8, [.int 0, .ref b1, .ref b5, .ref b9, .ref b13, .ref b17, .ref q21, .ref q24, .null, .int 0, .int 0, .int 0, .int 0, .int 0, .int 0, .int 0])) [(b1, .inr (9, [.int 0, .ref o.1, .int 0])), (b5, .inr (9, [.int 0, .ref o.1, .int 0])), (b9, .inr (9, [.int 0, .ref o.1, .int 0])), (b13, .inr (9, [.int 0, .ref o.1, .int 0])), (b17, .inr (9, [.int 0, .ref o.1, .int 0])), (q21, .inl (z.2.2 0, 4, .inl (fun _ => 0))), (q24, .inl (z.2.2 0, 3, .inl (fun _ => 0))), (q27, .inl (z.2.2 1, 3, .inr (.inr (.inr (.inr (fun _ => none)))))), (q29, .inl (z.2.2 0, 2, .inl (fun _ => 0)))] := hJ
  refine lv_dup hx hb dX11_init_83 rfl ?_
  refine lv_iconst (v := 0) hx hb dX11_init_84 (by decide) ?_
  refine lv_iconst (v := (-1)) hx hb dX11_init_85 (by decide) ?_
  refine nb_iastr hA hx hb hK hW hS 0 (hJ.atq 8 rfl) rfl (inb_in (by decide)) dX11_init_86 (fun H locs G31 hEG31 hcG31 hW hS => ?_)
  replace hJ := hJ.setq hEG31 hcG31 8 rfl
  have hJ : JJ G G31 a (.inr (8, [.int 0, .ref b1, .ref b5, .ref b9, .ref b13, .ref b17, .ref q21, .ref q24, .null, .int 0, .int 0, .int 0, .int 0, .int 0, .int 0, .int 0])) [(b1, .inr (9, [.int 0, .ref o.1, .int 0])), (b5, .inr (9, [.int 0, .ref o.1, .int 0])), (b9, .inr (9, [.int 0, .ref o.1, .int 0])), (b13, .inr (9, [.int 0, .ref o.1, .int 0])), (b17, .inr (9, [.int 0, .ref o.1, .int 0])), (q21, .inl (z.2.2 0, 4, .inl (fun _ => 0))), (q24, .inl (z.2.2 0, 3, .inl (fun _ => 0))), (q27, .inl (z.2.2 1, 3, .inr (.inr (.inr (.inr (fun _ => none)))))), (q29, .inl (z.2.2 0, 2, .inl (upd (fun _ => 0) 0 (-1))))] := hJ
  refine lv_dup hx hb dX11_init_87 rfl ?_
  refine lv_iconst (v := 1) hx hb dX11_init_88 (by decide) ?_
  refine lv_iconst (v := (-1)) hx hb dX11_init_89 (by decide) ?_
  refine nb_iastr hA hx hb hK hW hS 0 (hJ.atq 8 rfl) rfl (inb_in (by decide)) dX11_init_90 (fun H locs G32 hEG32 hcG32 hW hS => ?_)
  replace hJ := hJ.setq hEG32 hcG32 8 rfl
  have hJ : JJ G G32 a (.inr (8, [.int 0, .ref b1, .ref b5, .ref b9, .ref b13, .ref b17, .ref q21, .ref q24, .null, .int 0, .int 0, .int 0, .int 0, .int 0, .int 0, .int 0])) [(b1, .inr (9, [.int 0, .ref o.1, .int 0])), (b5, .inr (9, [.int 0, .ref o.1, .int 0])), (b9, .inr (9, [.int 0, .ref o.1, .int 0])), (b13, .inr (9, [.int 0, .ref o.1, .int 0])), (b17, .inr (9, [.int 0, .ref o.1, .int 0])), (q21, .inl (z.2.2 0, 4, .inl (fun _ => 0))), (q24, .inl (z.2.2 0, 3, .inl (fun _ => 0))), (q27, .inl (z.2.2 1, 3, .inr (.inr (.inr (.inr (fun _ => none)))))), (q29, .inl (z.2.2 0, 2, .inl (upd (upd (fun _ => 0) 0 (-1)) 1 (-1))))] := hJ
  refine nb_aastAr hA hx hb hT hK hW hS ao_X11_44.2 (hJ.atq 7 rfl) (hJ.atq 8 rfl) (inb_in (by decide)) dX11_init_91 (fun H locs G33 hEG33 hcG33 hW hS => ?_)
  replace hJ := hJ.setq hEG33 hcG33 7 rfl
  have hJ : JJ G G33 a (.inr (8, [.int 0, .ref b1, .ref b5, .ref b9, .ref b13, .ref b17, .ref q21, .ref q24, .null, .int 0, .int 0, .int 0, .int 0, .int 0, .int 0, .int 0])) [(b1, .inr (9, [.int 0, .ref o.1, .int 0])), (b5, .inr (9, [.int 0, .ref o.1, .int 0])), (b9, .inr (9, [.int 0, .ref o.1, .int 0])), (b13, .inr (9, [.int 0, .ref o.1, .int 0])), (b17, .inr (9, [.int 0, .ref o.1, .int 0])), (q21, .inl (z.2.2 0, 4, .inl (fun _ => 0))), (q24, .inl (z.2.2 0, 3, .inl (fun _ => 0))), (q27, .inl (z.2.2 1, 3, .inr (.inr (.inr (.inr (va_up (fun _ => none) 0 (some q29))))))), (q29, .inl (z.2.2 0, 2, .inl (upd (upd (fun _ => 0) 0 (-1)) 1 (-1))))] := hJ
  refine lv_dup hx hb dX11_init_92 rfl ?_
  refine lv_iconst (v := 1) hx hb dX11_init_93 (by decide) ?_
  refine lv_iconst (v := 2) hx hb dX11_init_94 (by decide) ?_
  refine nb_newi hx hb hSW hA hW hS wd_arrI (by decide) (N' := 2) (by decide) (by decide) ⟨Nat.le_of_ble_eq_true rfl, Nat.le_of_ble_eq_true rfl⟩ dX11_init_95 (fun q34 H G35 hnq34 hEq34 hcq34 hW hS => ?_)
  replace hJ := hJ.arr hnq34 hEq34 hcq34
  have hJ : JJ G G35 a (.inr (8, [.int 0, .ref b1, .ref b5, .ref b9, .ref b13, .ref b17, .ref q21, .ref q24, .null, .int 0, .int 0, .int 0, .int 0, .int 0, .int 0, .int 0])) [(b1, .inr (9, [.int 0, .ref o.1, .int 0])), (b5, .inr (9, [.int 0, .ref o.1, .int 0])), (b9, .inr (9, [.int 0, .ref o.1, .int 0])), (b13, .inr (9, [.int 0, .ref o.1, .int 0])), (b17, .inr (9, [.int 0, .ref o.1, .int 0])), (q21, .inl (z.2.2 0, 4, .inl (fun _ => 0))), (q24, .inl (z.2.2 0, 3, .inl (fun _ => 0))), (q27, .inl (z.2.2 1, 3, .inr (.inr (.inr (.inr (va_up (fun _ => none) 0 (some q29))))))), (q29, .inl (z.2.2 0, 2, .inl (upd (upd (fun _ => 0) 0 (-1)) 1 (-1)))), (q34, .inl (z.2.2 0, 2, .inl (fun _ => 0)))] := hJ
  refine lv_dup hx hb dX11_init_97 rfl ?_
  refine lv_iconst (v := 0) hx hb dX11_init_98 (by decide) ?_
  refine lv_iconst (v := (-1)) hx hb dX11_init_99 (by decide) ?_
  refine nb_iastr hA hx hb hK hW hS 0 (hJ.atq 9 rfl) rfl (inb_in (by decide)) dX11_init_100 (fun H locs G36 hEG36 hcG36 hW hS => ?_)
  replace hJ := hJ.setq hEG36 hcG36 9 rfl
  have hJ : JJ G G36 a (.inr (8, [.int 0, .ref b1, .ref b5, .ref b9, .ref b13, .ref b17, .ref q21, .ref q24, .null, .int 0, .int 0, .int 0, .int 0, .int 0, .int 0, .int 0])) [(b1, .inr (9, [.int 0, .ref o.1, .int 0])), (b5, .inr (9, [.int 0, .ref o.1, .int 0])), (b9, .inr (9, [.int 0, .ref o.1, .int 0])), (b13, .inr (9, [.int 0, .ref o.1, .int 0])), (b17, .inr (9, [.int 0, .ref o.1, .int 0])), (q21, .inl (z.2.2 0, 4, .inl (fun _ => 0))), (q24, .inl (z.2.2 0, 3, .inl (fun _ => 0))), (q27, .inl (z.2.2 1, 3, .inr (.inr (.inr (.inr (va_up (fun _ => none) 0 (some q29))))))), (q29, .inl (z.2.2 0, 2, .inl (upd (upd (fun _ => 0) 0 (-1)) 1 (-1)))), (q34, .inl (z.2.2 0, 2, .inl (upd (fun _ => 0) 0 (-1))))] := hJ
  refine lv_dup hx hb dX11_init_101 rfl ?_
  refine lv_iconst (v := 1) hx hb dX11_init_102 (by decide) ?_
  refine lv_iconst (v := (-1)) hx hb dX11_init_103 (by decide) ?_
  refine nb_iastr hA hx hb hK hW hS 0 (hJ.atq 9 rfl) rfl (inb_in (by decide)) dX11_init_104 (fun H locs G37 hEG37 hcG37 hW hS => ?_)
  replace hJ := hJ.setq hEG37 hcG37 9 rfl
  have hJ : JJ G G37 a (.inr (8, [.int 0, .ref b1, .ref b5, .ref b9, .ref b13, .ref b17, .ref q21, .ref q24, .null, .int 0, .int 0, .int 0, .int 0, .int 0, .int 0, .int 0])) [(b1, .inr (9, [.int 0, .ref o.1, .int 0])), (b5, .inr (9, [.int 0, .ref o.1, .int 0])), (b9, .inr (9, [.int 0, .ref o.1, .int 0])), (b13, .inr (9, [.int 0, .ref o.1, .int 0])), (b17, .inr (9, [.int 0, .ref o.1, .int 0])), (q21, .inl (z.2.2 0, 4, .inl (fun _ => 0))), (q24, .inl (z.2.2 0, 3, .inl (fun _ => 0))), (q27, .inl (z.2.2 1, 3, .inr (.inr (.inr (.inr (va_up (fun _ => none) 0 (some q29))))))), (q29, .inl (z.2.2 0, 2, .inl (upd (upd (fun _ => 0) 0 (-1)) 1 (-1)))), (q34, .inl (z.2.2 0, 2, .inl (upd (upd (fun _ => 0) 0 (-1)) 1 (-1))))] := hJ
  refine nb_aastAr hA hx hb hT hK hW hS ao_X11_44.2 (hJ.atq 7 rfl) (hJ.atq 9 rfl) (inb_in (by decide)) dX11_init_105 (fun H locs G38 hEG38 hcG38 hW hS => ?_)
  replace hJ := hJ.setq hEG38 hcG38 7 rfl
  have hJ : JJ G G38 a (.inr (8, [.int 0, .ref b1, .ref b5, .ref b9, .ref b13, .ref b17, .ref q21, .ref q24, .null, .int 0, .int 0, .int 0, .int 0, .int 0, .int 0, .int 0])) [(b1, .inr (9, [.int 0, .ref o.1, .int 0])), (b5, .inr (9, [.int 0, .ref o.1, .int 0])), (b9, .inr (9, [.int 0, .ref o.1, .int 0])), (b13, .inr (9, [.int 0, .ref o.1, .int 0])), (b17, .inr (9, [.int 0, .ref o.1, .int 0])), (q21, .inl (z.2.2 0, 4, .inl (fun _ => 0))), (q24, .inl (z.2.2 0, 3, .inl (fun _ => 0))), (q27, .inl (z.2.2 1, 3, .inr (.inr (.inr (.inr (va_up (va_up (fun _ => none) 0 (some q29)) 1 (some q34))))))), (q29, .inl (z.2.2 0, 2, .inl (upd (upd (fun _ => 0) 0 (-1)) 1 (-1)))), (q34, .inl (z.2.2 0, 2, .inl (upd (upd (fun _ => 0) 0 (-1)) 1 (-1))))] := hJ
  refine lv_dup hx hb dX11_init_106 rfl ?_
  refine lv_iconst (v := 2) hx hb dX11_init_107 (by decide) ?_
  refine lv_iconst (v := 2) hx hb dX11_init_108 (by decide) ?_
  refine nb_newi hx hb hSW hA hW hS wd_arrI (by decide) (N' := 2) (by decide) (by decide) ⟨Nat.le_of_ble_eq_true rfl, Nat.le_of_ble_eq_true rfl⟩ dX11_init_109 (fun q39 H G40 hnq39 hEq39 hcq39 hW hS => ?_)
  replace hJ := hJ.arr hnq39 hEq39 hcq39
  have hJ : JJ G G40 a (.inr (8, [.int 0, .ref b1, .ref b5, .ref b9, .ref b13, .ref b17, .ref q21, .ref q24, .null, .int 0, .int 0, .int 0, .int 0, .int 0, .int 0, .int 0])) [(b1, .inr (9, [.int 0, .ref o.1, .int 0])), (b5, .inr (9, [.int 0, .ref o.1, .int 0])), (b9, .inr (9, [.int 0, .ref o.1, .int 0])), (b13, .inr (9, [.int 0, .ref o.1, .int 0])), (b17, .inr (9, [.int 0, .ref o.1, .int 0])), (q21, .inl (z.2.2 0, 4, .inl (fun _ => 0))), (q24, .inl (z.2.2 0, 3, .inl (fun _ => 0))), (q27, .inl (z.2.2 1, 3, .inr (.inr (.inr (.inr (va_up (va_up (fun _ => none) 0 (some q29)) 1 (some q34))))))), (q29, .inl (z.2.2 0, 2, .inl (upd (upd (fun _ => 0) 0 (-1)) 1 (-1)))), (q34, .inl (z.2.2 0, 2, .inl (upd (upd (fun _ => 0) 0 (-1)) 1 (-1)))), (q39, .inl (z.2.2 0, 2, .inl (fun _ => 0)))] := hJ
  refine lv_dup hx hb dX11_init_111 rfl ?_
  refine lv_iconst (v := 0) hx hb dX11_init_112 (by decide) ?_
  refine lv_iconst (v := (-1)) hx hb dX11_init_113 (by decide) ?_
  refine nb_iastr hA hx hb hK hW hS 0 (hJ.atq 10 rfl) rfl (inb_in (by decide)) dX11_init_114 (fun H locs G41 hEG41 hcG41 hW hS => ?_)
  replace hJ := hJ.setq hEG41 hcG41 10 rfl
  have hJ : JJ G G41 a (.inr (8, [.int 0, .ref b1, .ref b5, .ref b9, .ref b13, .ref b17, .ref q21, .ref q24, .null, .int 0, .int 0, .int 0, .int 0, .int 0, .int 0, .int 0])) [(b1, .inr (9, [.int 0, .ref o.1, .int 0])), (b5, .inr (9, [.int 0, .ref o.1, .int 0])), (b9, .inr (9, [.int 0, .ref o.1, .int 0])), (b13, .inr (9, [.int 0, .ref o.1, .int 0])), (b17, .inr (9, [.int 0, .ref o.1, .int 0])), (q21, .inl (z.2.2 0, 4, .inl (fun _ => 0))), (q24, .inl (z.2.2 0, 3, .inl (fun _ => 0))), (q27, .inl (z.2.2 1, 3, .inr (.inr (.inr (.inr (va_up (va_up (fun _ => none) 0 (some q29)) 1 (some q34))))))), (q29, .inl (z.2.2 0, 2, .inl (upd (upd (fun _ => 0) 0 (-1)) 1 (-1)))), (q34, .inl (z.2.2 0, 2, .inl (upd (upd (fun _ => 0) 0 (-1)) 1 (-1)))), (q39, .inl (z.2.2 0, 2, .inl (upd (fun _ => 0) 0 (-1))))] := hJ
  refine lv_dup hx hb dX11_init_115 rfl ?_
  refine lv_iconst (v := 1) hx hb dX11_init_116 (by decide) ?_
  refine lv_iconst (v := (-1)) hx hb dX11_init_117 (by decide) ?_
  refine nb_iastr hA hx hb hK hW hS 0 (hJ.atq 10 rfl) rfl (inb_in (by decide)) dX11_init_118 (fun H locs G42 hEG42 hcG42 hW hS => ?_)
  replace hJ := hJ.setq hEG42 hcG42 10 rfl
  have hJ : JJ G G42 a (.inr (8, [.int 0, .ref b1, .ref b5, .ref b9, .ref b13, .ref b17, .ref q21, .ref q24, .null, .int 0, .int 0, .int 0, .int 0, .int 0, .int 0, .int 0])) [(b1, .inr (9, [.int 0, .ref o.1, .int 0])), (b5, .inr (9, [.int 0, .ref o.1, .int 0])), (b9, .inr (9, [.int 0, .ref o.1, .int 0])), (b13, .inr (9, [.int 0, .ref o.1, .int 0])), (b17, .inr (9, [.int 0, .ref o.1, .int 0])), (q21, .inl (z.2.2 0, 4, .inl (fun _ => 0))), (q24, .inl (z.2.2 0, 3, .inl (fun _ => 0))), (q27, .inl (z.2.2 1, 3, .inr (.inr (.inr (.inr (va_up (va_up (fun _ => none) 0 (some q29)) 1 (some q34))))))), (q29, .inl (z.2.2 0, 2, .inl (upd (upd (fun _ => 0) 0 (-1)) 1 (-1)))), (q34, .inl (z.2.2 0, 2, .inl (upd (upd (fun _ => 0) 0 (-1)) 1 (-1)))), (q39, .inl (z.2.2 0, 2, .inl (upd (upd (fun _ => 0) 0 (-1)) 1 (-1))))] := hJ
  refine nb_aastAr hA hx hb hT hK hW hS ao_X11_44.2 (hJ.atq 7 rfl) (hJ.atq 10 rfl) (inb_in (by decide)) dX11_init_119 (fun H locs G43 hEG43 hcG43 hW hS => ?_)
  replace hJ := hJ.setq hEG43 hcG43 7 rfl
  have hJ : JJ G G43 a (.inr (8, [.int 0, .ref b1, .ref b5, .ref b9, .ref b13, .ref b17, .ref q21, .ref q24, .null, .int 0, .int 0, .int 0, .int 0, .int 0, .int 0, .int 0])) [(b1, .inr (9, [.int 0, .ref o.1, .int 0])), (b5, .inr (9, [.int 0, .ref o.1, .int 0])), (b9, .inr (9, [.int 0, .ref o.1, .int 0])), (b13, .inr (9, [.int 0, .ref o.1, .int 0])), (b17, .inr (9, [.int 0, .ref o.1, .int 0])), (q21, .inl (z.2.2 0, 4, .inl (fun _ => 0))), (q24, .inl (z.2.2 0, 3, .inl (fun _ => 0))), (q27, .inl (z.2.2 1, 3, .inr (.inr (.inr (.inr (va_up (va_up (va_up (fun _ => none) 0 (some q29)) 1 (some q34)) 2 (some q39))))))), (q29, .inl (z.2.2 0, 2, .inl (upd (upd (fun _ => 0) 0 (-1)) 1 (-1)))), (q34, .inl (z.2.2 0, 2, .inl (upd (upd (fun _ => 0) 0 (-1)) 1 (-1)))), (q39, .inl (z.2.2 0, 2, .inl (upd (upd (fun _ => 0) 0 (-1)) 1 (-1))))] := hJ
  refine nb_putFr hA hx hb hT hK hown hW hS fl_X11_45 (List.mem_of_getElem? (i := 1035) (by decide +kernel)) tyX11 tyX11_ok nmX11 hJ.2.1 (v := .ref q27) rfl hin rfl rfl (Nat.le_of_ble_eq_true rfl) dX11_init_120 (fun H locs G44 hEG44 hcG44 hW hS => ?_)
  replace hJ := hJ.put hEG44 hcG44
  have hJ : JJ G G44 a (.inr (8, [.int 0, .ref b1, .ref b5, .ref b9, .ref b13, .ref b17, .ref q21, .ref q24, .ref q27, .int 0, .int 0, .int 0, .int 0, .int 0, .int 0, .int 0])) [(b1, .inr (9, [.int 0, .ref o.1, .int 0])), (b5, .inr (9, [.int 0, .ref o.1, .int 0])), (b9, .inr (9, [.int 0, .ref o.1, .int 0])), (b13, .inr (9, [.int 0, .ref o.1, .int 0])), (b17, .inr (9, [.int 0, .ref o.1, .int 0])), (q21, .inl (z.2.2 0, 4, .inl (fun _ => 0))), (q24, .inl (z.2.2 0, 3, .inl (fun _ => 0))), (q27, .inl (z.2.2 1, 3, .inr (.inr (.inr (.inr (va_up (va_up (va_up (fun _ => none) 0 (some q29)) 1 (some q34)) 2 (some q39))))))), (q29, .inl (z.2.2 0, 2, .inl (upd (upd (fun _ => 0) 0 (-1)) 1 (-1)))), (q34, .inl (z.2.2 0, 2, .inl (upd (upd (fun _ => 0) 0 (-1)) 1 (-1)))), (q39, .inl (z.2.2 0, 2, .inl (upd (upd (fun _ => 0) 0 (-1)) 1 (-1))))] := hJ
  refine lv_aload_n hx hb dX11_init_123 rfl (lv_at hl 0 rfl) ?_
  refine lv_sipush (v := 200) hx hb dX11_init_124 (by decide) ?_
  refine nb_putr hA hx hb hT hK hown hW hS fl_X11_49 tyX11 tyX11_ok nmX11 hJ.2.1 (v := .int 200) rfl rfl rfl (Nat.le_of_ble_eq_true rfl) dX11_init_127 (fun H locs G45 hEG45 hcG45 hW hS => ?_)
  replace hJ := hJ.put hEG45 hcG45
  have hJ : JJ G G45 a (.inr (8, [.int 0, .ref b1, .ref b5, .ref b9, .ref b13, .ref b17, .ref q21, .ref q24, .ref q27, .int 0, .int 0, .int 0, .int 200, .int 0, .int 0, .int 0])) [(b1, .inr (9, [.int 0, .ref o.1, .int 0])), (b5, .inr (9, [.int 0, .ref o.1, .int 0])), (b9, .inr (9, [.int 0, .ref o.1, .int 0])), (b13, .inr (9, [.int 0, .ref o.1, .int 0])), (b17, .inr (9, [.int 0, .ref o.1, .int 0])), (q21, .inl (z.2.2 0, 4, .inl (fun _ => 0))), (q24, .inl (z.2.2 0, 3, .inl (fun _ => 0))), (q27, .inl (z.2.2 1, 3, .inr (.inr (.inr (.inr (va_up (va_up (va_up (fun _ => none) 0 (some q29)) 1 (some q34)) 2 (some q39))))))), (q29, .inl (z.2.2 0, 2, .inl (upd (upd (fun _ => 0) 0 (-1)) 1 (-1)))), (q34, .inl (z.2.2 0, 2, .inl (upd (upd (fun _ => 0) 0 (-1)) 1 (-1)))), (q39, .inl (z.2.2 0, 2, .inl (upd (upd (fun _ => 0) 0 (-1)) 1 (-1))))] := hJ
  refine lv_aload_n hx hb dX11_init_130 rfl (lv_at hl 0 rfl) ?_
  refine lv_iconst (v := (-1)) hx hb dX11_init_131 (by decide) ?_
  refine nb_putr hA hx hb hT hK hown hW hS fl_X11_53 tyX11 tyX11_ok nmX11 hJ.2.1 (v := .int (-1)) rfl rfl rfl (Nat.le_of_ble_eq_true rfl) dX11_init_132 (fun H locs G46 hEG46 hcG46 hW hS => ?_)
  replace hJ := hJ.put hEG46 hcG46
  have hJ : JJ G G46 a (.inr (8, [.int 0, .ref b1, .ref b5, .ref b9, .ref b13, .ref b17, .ref q21, .ref q24, .ref q27, .int 0, .int 0, .int 0, .int 200, .int 0, .int (-1), .int 0])) [(b1, .inr (9, [.int 0, .ref o.1, .int 0])), (b5, .inr (9, [.int 0, .ref o.1, .int 0])), (b9, .inr (9, [.int 0, .ref o.1, .int 0])), (b13, .inr (9, [.int 0, .ref o.1, .int 0])), (b17, .inr (9, [.int 0, .ref o.1, .int 0])), (q21, .inl (z.2.2 0, 4, .inl (fun _ => 0))), (q24, .inl (z.2.2 0, 3, .inl (fun _ => 0))), (q27, .inl (z.2.2 1, 3, .inr (.inr (.inr (.inr (va_up (va_up (va_up (fun _ => none) 0 (some q29)) 1 (some q34)) 2 (some q39))))))), (q29, .inl (z.2.2 0, 2, .inl (upd (upd (fun _ => 0) 0 (-1)) 1 (-1)))), (q34, .inl (z.2.2 0, 2, .inl (upd (upd (fun _ => 0) 0 (-1)) 1 (-1)))), (q39, .inl (z.2.2 0, 2, .inl (upd (upd (fun _ => 0) 0 (-1)) 1 (-1))))] := hJ
  replace hW := arr_same (F' := fun _ => -1) hW (hJ.atq 8 rfl) (fun j hj => by rcases (show j = 0 ∨ j = 1 by omega) with rfl | rfl <;> rfl)
  replace hJ := hJ.setq (e' := .inl (z.2.2 0, 2, .inl (fun _ => -1))) up_ext up2_self 8 rfl
  have hJ : JJ G _ a (.inr (8, [.int 0, .ref b1, .ref b5, .ref b9, .ref b13, .ref b17, .ref q21, .ref q24, .ref q27, .int 0, .int 0, .int 0, .int 200, .int 0, .int (-1), .int 0])) [(b1, .inr (9, [.int 0, .ref o.1, .int 0])), (b5, .inr (9, [.int 0, .ref o.1, .int 0])), (b9, .inr (9, [.int 0, .ref o.1, .int 0])), (b13, .inr (9, [.int 0, .ref o.1, .int 0])), (b17, .inr (9, [.int 0, .ref o.1, .int 0])), (q21, .inl (z.2.2 0, 4, .inl (fun _ => 0))), (q24, .inl (z.2.2 0, 3, .inl (fun _ => 0))), (q27, .inl (z.2.2 1, 3, .inr (.inr (.inr (.inr (va_up (va_up (va_up (fun _ => none) 0 (some q29)) 1 (some q34)) 2 (some q39))))))), (q29, .inl (z.2.2 0, 2, .inl (fun _ => -1))), (q34, .inl (z.2.2 0, 2, .inl (upd (upd (fun _ => 0) 0 (-1)) 1 (-1)))), (q39, .inl (z.2.2 0, 2, .inl (upd (upd (fun _ => 0) 0 (-1)) 1 (-1))))] := hJ
  replace hW := arr_same (F' := fun _ => -1) hW (hJ.atq 9 rfl) (fun j hj => by rcases (show j = 0 ∨ j = 1 by omega) with rfl | rfl <;> rfl)
  replace hJ := hJ.setq (e' := .inl (z.2.2 0, 2, .inl (fun _ => -1))) up_ext up2_self 9 rfl
  have hJ : JJ G _ a (.inr (8, [.int 0, .ref b1, .ref b5, .ref b9, .ref b13, .ref b17, .ref q21, .ref q24, .ref q27, .int 0, .int 0, .int 0, .int 200, .int 0, .int (-1), .int 0])) [(b1, .inr (9, [.int 0, .ref o.1, .int 0])), (b5, .inr (9, [.int 0, .ref o.1, .int 0])), (b9, .inr (9, [.int 0, .ref o.1, .int 0])), (b13, .inr (9, [.int 0, .ref o.1, .int 0])), (b17, .inr (9, [.int 0, .ref o.1, .int 0])), (q21, .inl (z.2.2 0, 4, .inl (fun _ => 0))), (q24, .inl (z.2.2 0, 3, .inl (fun _ => 0))), (q27, .inl (z.2.2 1, 3, .inr (.inr (.inr (.inr (va_up (va_up (va_up (fun _ => none) 0 (some q29)) 1 (some q34)) 2 (some q39))))))), (q29, .inl (z.2.2 0, 2, .inl (fun _ => -1))), (q34, .inl (z.2.2 0, 2, .inl (fun _ => -1))), (q39, .inl (z.2.2 0, 2, .inl (upd (upd (fun _ => 0) 0 (-1)) 1 (-1))))] := hJ
  replace hW := arr_same (F' := fun _ => -1) hW (hJ.atq 10 rfl) (fun j hj => by rcases (show j = 0 ∨ j = 1 by omega) with rfl | rfl <;> rfl)
  replace hJ := hJ.setq (e' := .inl (z.2.2 0, 2, .inl (fun _ => -1))) up_ext up2_self 10 rfl
  have hJ : JJ G _ a (.inr (8, [.int 0, .ref b1, .ref b5, .ref b9, .ref b13, .ref b17, .ref q21, .ref q24, .ref q27, .int 0, .int 0, .int 0, .int 200, .int 0, .int (-1), .int 0])) [(b1, .inr (9, [.int 0, .ref o.1, .int 0])), (b5, .inr (9, [.int 0, .ref o.1, .int 0])), (b9, .inr (9, [.int 0, .ref o.1, .int 0])), (b13, .inr (9, [.int 0, .ref o.1, .int 0])), (b17, .inr (9, [.int 0, .ref o.1, .int 0])), (q21, .inl (z.2.2 0, 4, .inl (fun _ => 0))), (q24, .inl (z.2.2 0, 3, .inl (fun _ => 0))), (q27, .inl (z.2.2 1, 3, .inr (.inr (.inr (.inr (va_up (va_up (va_up (fun _ => none) 0 (some q29)) 1 (some q34)) 2 (some q39))))))), (q29, .inl (z.2.2 0, 2, .inl (fun _ => -1))), (q34, .inl (z.2.2 0, 2, .inl (fun _ => -1))), (q39, .inl (z.2.2 0, 2, .inl (fun _ => -1)))] := hJ
  exact W.vret hx hb hr (fun t ht _ => ⟨⟨_, rfl, ⟨b1, b5, b9, b13, b17, q21, q24, q27, q29, q34, q39, hJ⟩, by show GW z ad _ t.heap; rw [ht]; exact hW⟩, hS.F ht⟩) hS.2.2 dX11_init_135 hlocks
