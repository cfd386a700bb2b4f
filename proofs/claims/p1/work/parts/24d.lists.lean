/-! 24d: the lists of the reference: made, and added to once; boxed ints -/
theorem fx_AL_63 : FX RJx4a65c 63 9 0 RJx4a65c TJx4a65c 3 RJx4a65c := ⟨rfl, uw_Jx4a65c, by decide, (List.mem_of_getElem? (i := 1018) (by decide +kernel)), Or.inr (List.mem_of_getElem? (i := 1017) (by decide +kernel))⟩
theorem fx_AbL_7 : FX RJxc12de 7 9 0 RJx4a65c TJx4a65c 3 "java/util/AbstractList" := ⟨rfl, uw_Jx4a65c, by decide, (List.mem_of_getElem? (i := 1015) (by decide +kernel)), Or.inl rfl⟩
theorem fl_AL_9 : FL RJx4a65c 9 9 1 RJx4a65c TJx4a65c 3 := ⟨rfl, uw_Jx4a65c, by decide, rfl, Or.inl (List.mem_of_getElem? (i := 1011) (by decide +kernel))⟩
theorem lo_ABC_1 : Cond.methodLink RJxa1e45 1 objectInit ∈ lw_tbl ∧ Cond.instanceMethod objectInit ∈ lw_tbl ∧ Cond.code objectInit ⟨#[0xb1]⟩ 1 none ∈ lw_tbl := ⟨(List.mem_of_getElem? (i := 1008) (by decide +kernel)), (List.mem_of_getElem? (i := 98) (by decide +kernel)), List.mem_of_getElem? (i := 99) (by decide +kernel)⟩
theorem lo_NUM_1 : Cond.methodLink RJxd2413 1 objectInit ∈ lw_tbl ∧ Cond.instanceMethod objectInit ∈ lw_tbl ∧ Cond.code objectInit ⟨#[0xb1]⟩ 1 none ∈ lw_tbl := ⟨(List.mem_of_getElem? (i := 1372) (by decide +kernel)), (List.mem_of_getElem? (i := 98) (by decide +kernel)), List.mem_of_getElem? (i := 99) (by decide +kernel)⟩
theorem lk_ABL_1 : LK RJxc12de 1 yJxa1e45_init_da8c8 := Or.inl (List.mem_of_getElem? (i := 1005) (by decide +kernel))
theorem lk_AL_1 : LK RJx4a65c 1 yJxc12de_init_da8c8 := Or.inl (List.mem_of_getElem? (i := 1002) (by decide +kernel))
theorem lk_INT_202 : LK RJ6 202 yJxd2413_init_da8c8 := Or.inl (List.mem_of_getElem? (i := 1369) (by decide +kernel))
theorem lk_INT_199 : LK RJ6 199 yJ6_init_d00df := Or.inl (List.mem_of_getElem? (i := 1366) (by decide +kernel))
theorem mf_ABC : MFi yJxa1e45_init_da8c8 cJxa1e45_init_da8c8 1 0 := ⟨(List.mem_of_getElem? (i := 1006) (by decide +kernel)), (List.mem_of_getElem? (i := 68) (by decide +kernel)), List.mem_of_getElem? (i := 1007) (by decide +kernel), by decide +kernel, by decide +kernel, by decide +kernel, rfl⟩
theorem mf_ABL : MFi yJxc12de_init_da8c8 cJxc12de_init_da8c8 1 0 := ⟨(List.mem_of_getElem? (i := 1003) (by decide +kernel)), (List.mem_of_getElem? (i := 69) (by decide +kernel)), List.mem_of_getElem? (i := 1004) (by decide +kernel), by decide +kernel, by decide +kernel, by decide +kernel, rfl⟩
theorem mf_ALi : MFi yJx4a65c_init_da8c8 cJx4a65c_init_da8c8 1 0 := ⟨(List.mem_of_getElem? (i := 1000) (by decide +kernel)), (List.mem_of_getElem? (i := 70) (by decide +kernel)), List.mem_of_getElem? (i := 1001) (by decide +kernel), by decide +kernel, by decide +kernel, by decide +kernel, rfl⟩
theorem mf_NUM : MFi yJxd2413_init_da8c8 cJxd2413_init_da8c8 1 0 := ⟨(List.mem_of_getElem? (i := 1370) (by decide +kernel)), (List.mem_of_getElem? (i := 86) (by decide +kernel)), List.mem_of_getElem? (i := 1371) (by decide +kernel), by decide +kernel, by decide +kernel, by decide +kernel, rfl⟩
theorem mf_INT : MFi yJ6_init_d00df cJ6_init_d00df 2 1 := ⟨(List.mem_of_getElem? (i := 1367) (by decide +kernel)), (List.mem_of_getElem? (i := 87) (by decide +kernel)), List.mem_of_getElem? (i := 1368) (by decide +kernel), by decide +kernel, by decide +kernel, by decide +kernel, rfl⟩
theorem mf_grow1 : MFv yJx4a65c_grow_92f84 cJx4a65c_grow_92f84 4 (some (.array (.object "java/lang/Object"))) 1 := ⟨(List.mem_of_getElem? (i := 1143) (by decide +kernel)), (List.mem_of_getElem? (i := 32) (by decide +kernel)), (List.mem_of_getElem? (i := 70) (by decide +kernel)), List.mem_of_getElem? (i := 1144) (by decide +kernel), by decide +kernel, by decide +kernel, by decide +kernel⟩
theorem mf_grow0 : MFv yJx4a65c_grow_d5877 cJx4a65c_grow_d5877 1 (some (.array (.object "java/lang/Object"))) 0 := ⟨(List.mem_of_getElem? (i := 1139) (by decide +kernel)), (List.mem_of_getElem? (i := 31) (by decide +kernel)), (List.mem_of_getElem? (i := 70) (by decide +kernel)), List.mem_of_getElem? (i := 1140) (by decide +kernel), by decide +kernel, by decide +kernel, by decide +kernel⟩
theorem mf_add3 : MFv yJx4a65c_add_72be8 cJx4a65c_add_72be8 4 none 3 := ⟨(List.mem_of_getElem? (i := 1135) (by decide +kernel)), (List.mem_of_getElem? (i := 30) (by decide +kernel)), (List.mem_of_getElem? (i := 70) (by decide +kernel)), List.mem_of_getElem? (i := 1136) (by decide +kernel), by decide +kernel, by decide +kernel, by decide +kernel⟩
theorem mf_add1 : MFv yJx4a65c_add_9ea2d cJx4a65c_add_9ea2d 2 (some .boolean) 1 := ⟨(List.mem_of_getElem? (i := 1130) (by decide +kernel)), (List.mem_of_getElem? (i := 1131) (by decide +kernel)), (List.mem_of_getElem? (i := 70) (by decide +kernel)), List.mem_of_getElem? (i := 1132) (by decide +kernel), by decide +kernel, by decide +kernel, by decide +kernel⟩
theorem lk_AL_69 : LK RJx4a65c 69 yJx4a65c_grow_92f84 := Or.inl (List.mem_of_getElem? (i := 1141) (by decide +kernel))
theorem lk_AL_129 : LK RJx4a65c 129 yJx4a65c_grow_d5877 := Or.inl (List.mem_of_getElem? (i := 1137) (by decide +kernel))
theorem lk_AL_131 : LK RJx4a65c 131 yJx4a65c_add_72be8 := Or.inl (List.mem_of_getElem? (i := 1133) (by decide +kernel))
theorem lm_AL_79 : Cond.methodLink RJx4a65c 79 Lib.Math.max.name ∈ lw_tbl := (List.mem_of_getElem? (i := 1186) (by decide +kernel))
theorem nq_AL_7 : Cond.classLink RJx4a65c 7 "java/lang/Object" ∈ lw_tbl ∧ Cond.arrayOver (.object "java/lang/Object") ∈ lw_tbl := ⟨(List.mem_of_getElem? (i := 1187) (by decide +kernel)), (List.mem_of_getElem? (i := 1182) (by decide +kernel))⟩
theorem uw_J6 : ((u_ws RJ6 TJ6 1).all (fun w => tbGood w && decide (w ∈ lw_tbl))) = true := by decide +kernel
theorem fl_INT_205 : FL RJ6 205 14 0 RJ6 TJ6 1 := ⟨rfl, uw_J6, by decide, rfl, Or.inl (List.mem_of_getElem? (i := 1373) (by decide +kernel))⟩
theorem nw_INT : kCl[14]? = some (RJ6, TJ6, 1) ∧ ((u_ws RJ6 TJ6 1).all (fun w => tbGood w && decide (w ∈ lw_tbl))) = true ∧ Cond.classLink RJ6 1 RJ6 ∈ lw_tbl ∧ Cond.instantiable RJ6 1 ∈ lw_tbl ∧ Cond.initialized RJ6 ∈ lw_tbl := ⟨rfl, uw_J6, (List.mem_of_getElem? (i := 1364) (by decide +kernel)), (List.mem_of_getElem? (i := 1365) (by decide +kernel)), (List.mem_of_getElem? (i := 87) (by decide +kernel))⟩
set_option maxRecDepth 100000 in
set_option maxHeartbeats 4000000 in
theorem m_ABC (l : Launch) (z : Zt) (ad : Ad) (G : Gt) (hA : Raw ad) (a : Nat) : MC l z yJxa1e45_init_da8c8 cJxa1e45_init_da8c8 1 none { frames := 1, cells := 0, slots := 0, locals := 12 } 0 0 [.ref a] ad G (QV z ad G) := by
  refine Met.ofW (cc := cJxa1e45_init_da8c8) (maxL := 1) (ret := none) (by decide) rfl ?_
  intro p e s m args below meth c s₁ B hml hv
  obtain ⟨rfl, hSW, hW⟩ := hv
  have hx := B.exec; have hb := B.bytes; have hr := B.returns; have hlocks := B.notSynchronized
  have hown : s.vm.findClass RJxa1e45 = some m.cls := findClass_of_methodNamed B.named
  obtain ⟨hT, hK, hST, hB0⟩ := id hSW
  have hS : va_S (zA z) s.heap s.heap [] := va_S.rf
  have hl := lv_entry ([.ref a]) (n := 1) (Nat.le_of_ble_eq_true rfl)
  rw [lg_entry_eq]
  generalize (lg_sl ([.ref a]) ++ List.replicate (1 - (lg_sl ([.ref a])).length) Slot.unset).toArray = ls at hl ⊢
  have hl : lv_has ls 1 [(0, .ref a)] := hl
  refine lv_aload_n hx hb dJxa1e45_init_da8c8_0 rfl (lv_at hl 0 rfl) ?_
  refine nb_obj hx hb hml hl.1 hT hown lo_ABC_1 ⟨Nat.le_of_ble_eq_true rfl, Nat.le_of_ble_eq_true rfl⟩ dJxa1e45_init_da8c8_1 ?_
  exact nb_vret hx hb hr hlocks hW hS dJxa1e45_init_da8c8_4
set_option maxRecDepth 100000 in
set_option maxHeartbeats 4000000 in
theorem m_NUM (l : Launch) (z : Zt) (ad : Ad) (G : Gt) (hA : Raw ad) (a : Nat) : MC l z yJxd2413_init_da8c8 cJxd2413_init_da8c8 1 none { frames := 1, cells := 0, slots := 0, locals := 12 } 0 0 [.ref a] ad G (QV z ad G) := by
  refine Met.ofW (cc := cJxd2413_init_da8c8) (maxL := 1) (ret := none) (by decide) rfl ?_
  intro p e s m args below meth c s₁ B hml hv
  obtain ⟨rfl, hSW, hW⟩ := hv
  have hx := B.exec; have hb := B.bytes; have hr := B.returns; have hlocks := B.notSynchronized
  have hown : s.vm.findClass RJxd2413 = some m.cls := findClass_of_methodNamed B.named
  obtain ⟨hT, hK, hST, hB0⟩ := id hSW
  have hS : va_S (zA z) s.heap s.heap [] := va_S.rf
  have hl := lv_entry ([.ref a]) (n := 1) (Nat.le_of_ble_eq_true rfl)
  rw [lg_entry_eq]
  generalize (lg_sl ([.ref a]) ++ List.replicate (1 - (lg_sl ([.ref a])).length) Slot.unset).toArray = ls at hl ⊢
  have hl : lv_has ls 1 [(0, .ref a)] := hl
  refine lv_aload_n hx hb dJxd2413_init_da8c8_0 rfl (lv_at hl 0 rfl) ?_
  refine nb_obj hx hb hml hl.1 hT hown lo_NUM_1 ⟨Nat.le_of_ble_eq_true rfl, Nat.le_of_ble_eq_true rfl⟩ dJxd2413_init_da8c8_1 ?_
  exact nb_vret hx hb hr hlocks hW hS dJxd2413_init_da8c8_4
set_option maxRecDepth 100000 in
set_option maxHeartbeats 4000000 in
theorem m_ABL (l : Launch) (z : Zt) (ad : Ad) (G : Gt) (hA : Raw ad) (a : Nat) (h0 : G 99 a = some (.inr (9, [.int 0, .null, .int 0]))) : MC l z yJxc12de_init_da8c8 cJxc12de_init_da8c8 1 none { frames := 2, cells := 0, slots := 0, locals := 40 } 0 0 [.ref a] ad G (va_Qv (S := Gt) (fun u => Ext G u a ∧ u 99 a = some (.inr (9, [.int 0, .null, .int 0]))) (fun u t => GW z ad u t.heap) (zA z)) := by
  refine Met.ofW (cc := cJxc12de_init_da8c8) (maxL := 1) (ret := none) (by decide) rfl ?_
  intro p e s m args below meth c s₁ B hml hv
  obtain ⟨rfl, hSW, hW⟩ := hv
  have hx := B.exec; have hb := B.bytes; have hr := B.returns; have hlocks := B.notSynchronized
  have hown : s.vm.findClass RJxc12de = some m.cls := findClass_of_methodNamed B.named
  obtain ⟨hT, hK, hST, hB0⟩ := id hSW
  have hS : va_S (zA z) s.heap s.heap [] := va_S.rf
  have hl := lv_entry ([.ref a]) (n := 1) (Nat.le_of_ble_eq_true rfl)
  rw [lg_entry_eq]
  generalize (lg_sl ([.ref a]) ++ List.replicate (1 - (lg_sl ([.ref a])).length) Slot.unset).toArray = ls at hl ⊢
  have hl : lv_has ls 1 [(0, .ref a)] := hl
  refine lv_aload_n hx hb dJxc12de_init_da8c8_0 rfl (lv_at hl 0 rfl) ?_
  refine nb_cv (nb_runI (As := []) (rest := []) hx hb hml hown hSW hS hW (m_ABC l z ad G hA a) mf_ABC lk_ABL_1 rfl ⟨rfl, rfl⟩ ⟨Nat.le_of_ble_eq_true rfl, Nat.le_of_ble_eq_true rfl⟩ hl.1 (Nat.le_of_ble_eq_true rfl) dJxc12de_init_da8c8_1 ⟨Nat.le_of_ble_eq_true rfl, Nat.le_of_ble_eq_true rfl⟩) hS (fun H locs hW hS => ?_)
  refine lv_aload_n hx hb dJxc12de_init_da8c8_4 rfl (lv_at hl 0 rfl) ?_
  refine lv_iconst (v := 0) hx hb dJxc12de_init_da8c8_5 (by decide) ?_
  refine nb_putX hA hx hb hT hK hown hW hS fx_AbL_7 tyJx4a65c tyJx4a65c_ok nmJx4a65c h0 (v := .int 0) rfl rfl rfl (Nat.le_of_ble_eq_true rfl) dJxc12de_init_da8c8_6 (fun H locs G1 hE1 hc1 hW hS => ?_)
  exact W.vret hx hb hr (fun t ht _ => ⟨⟨G1, rfl, ⟨hE1, hc1⟩, by show GW z ad G1 t.heap; rw [ht]; exact hW⟩, hS.F ht⟩) hS.2.2 dJxc12de_init_da8c8_9 hlocks
set_option maxRecDepth 100000 in
set_option maxHeartbeats 4000000 in
theorem m_ALi (l : Launch) (z : Zt) (o : Ot) (ad : Ad) (G : Gt) (hA : Raw ad) (a : Nat) (h0 : G 99 a = some (.inr (9, [.int 0, .null, .int 0]))) : MO l z o yJx4a65c_init_da8c8 cJx4a65c_init_da8c8 1 none { frames := 3, cells := 0, slots := 0, locals := 80 } 0 0 [.ref a] ad G (va_Qv (S := Gt) (fun u => Ext G u a ∧ u 99 a = some (.inr (9, [.int 0, .ref o.1, .int 0]))) (fun u t => GW z ad u t.heap) (zA z)) := by
  refine Met.ofW (cc := cJx4a65c_init_da8c8) (maxL := 1) (ret := none) (by decide) rfl ?_
  intro p e s m args below meth c s₁ B hml hv
  obtain ⟨rfl, hSW, hSO, hW⟩ := hv
  have hx := B.exec; have hb := B.bytes; have hr := B.returns; have hlocks := B.notSynchronized
  have hown : s.vm.findClass RJx4a65c = some m.cls := findClass_of_methodNamed B.named
  obtain ⟨hT, hK, hST, hB0⟩ := id hSW
  have hS : va_S (zA z) s.heap s.heap [] := va_S.rf
  have hl := lv_entry ([.ref a]) (n := 1) (Nat.le_of_ble_eq_true rfl)
  rw [lg_entry_eq]
  generalize (lg_sl ([.ref a]) ++ List.replicate (1 - (lg_sl ([.ref a])).length) Slot.unset).toArray = ls at hl ⊢
  have hl : lv_has ls 1 [(0, .ref a)] := hl
  refine lv_aload_n hx hb dJx4a65c_init_da8c8_0 rfl (lv_at hl 0 rfl) ?_
  refine va_callv (nb_runI (As := []) (rest := []) hx hb hml hown hSW hS hW (m_ABL l z ad G hA a h0) mf_ABL lk_AL_1 rfl ⟨rfl, rfl⟩ ⟨Nat.le_of_ble_eq_true rfl, Nat.le_of_ble_eq_true rfl⟩ hl.1 (Nat.le_of_ble_eq_true rfl) dJx4a65c_init_da8c8_1 ⟨Nat.le_of_ble_eq_true rfl, Nat.le_of_ble_eq_true rfl⟩) hS (fun _ _ h => h) (fun _ h => h) (fun G1 t H locs ht _ hp hW _ _ hS => ?_)
  subst ht
  obtain ⟨hE1, hc1⟩ := hp
  replace hW : GW z ad G1 t.heap := hW
  refine lv_aload_n hx hb dJx4a65c_init_da8c8_4 rfl (lv_at hl 0 rfl) ?_
  refine va_gets hx hb hSO.1 hS hown (hT.use (List.mem_of_getElem? (i := 1009) (by decide +kernel)) rfl) (fun _ h => h) dJx4a65c_init_da8c8_5 ?_
  refine nb_putr hA hx hb hT hK hown hW hS fl_AL_9 tyJx4a65c tyJx4a65c_ok nmJx4a65c hc1 (v := .ref o.1) rfl rfl rfl (Nat.le_of_ble_eq_true rfl) dJx4a65c_init_da8c8_8 (fun H locs G2 hE2 hc2 hW hS => ?_)
  exact W.vret hx hb hr (fun t ht _ => ⟨⟨G2, rfl, ⟨hE1.tr hE2, hc2⟩, by show GW z ad G2 t.heap; rw [ht]; exact hW⟩, hS.F ht⟩) hS.2.2 dJx4a65c_init_da8c8_11 hlocks
set_option maxRecDepth 100000 in
set_option maxHeartbeats 4000000 in
theorem m_grow1 (l : Launch) (z : Zt) (o : Ot) (ad : Ad) (G : Gt) (hA : Raw ad) (a : Nat) (k : Int32) (h0 : G 99 a = some (.inr (9, [.int k, .ref o.1, .int 0]))) : MO l z o yJx4a65c_grow_92f84 cJx4a65c_grow_92f84 4 (some (.array (.object "java/lang/Object"))) { frames := 1, cells := 1, slots := 10, locals := 40 } 1 10 [.ref a, .int 1] ad G (va_Qr (S := Gt) (fun u => Ext G u a) (fun u r t => GW z ad u t.heap ∧ G 99 r = none ∧ u 99 r = some (.inl (z.2.2 6, 10, .inr (.inr (.inr (.inr (fun _ => none)))))) ∧ u 99 a = some (.inr (9, [.int k, .ref r, .int 0]))) (zA z)) := by
  refine Met.ofW (cc := cJx4a65c_grow_92f84) (maxL := 4) (ret := (some (.array (.object "java/lang/Object")))) (by decide) rfl ?_
  intro p e s m args below meth c s₁ B hml hv
  obtain ⟨rfl, hSW, hSO, hW⟩ := hv
  have hx := B.exec; have hb := B.bytes; have hr := B.returns; have hlocks := B.notSynchronized
  have hown : s.vm.findClass RJx4a65c = some m.cls := findClass_of_methodNamed B.named
  obtain ⟨hT, hK, hST, hB0⟩ := id hSW
  have hS : va_S (zA z) s.heap s.heap [] := va_S.rf
  have hl := lv_entry ([.ref a, .int 1]) (n := 4) (Nat.le_of_ble_eq_true rfl)
  rw [lg_entry_eq]
  generalize (lg_sl ([.ref a, .int 1]) ++ List.replicate (4 - (lg_sl ([.ref a, .int 1])).length) Slot.unset).toArray = ls at hl ⊢
  have hl : lv_has ls 4 [(0, .ref a), (1, .int 1)] := hl
  refine lv_aload_n hx hb dJx4a65c_grow_92f84_0 rfl (lv_at hl 0 rfl) ?_
  refine nb_getr hA hx hb hT hK hown hW fl_AL_9 h0 (v := .ref o.1) rfl dJx4a65c_grow_92f84_1 ?_
  refine va_tlen hx hb hSO.2.1 hS (v := 0) rfl dJx4a65c_grow_92f84_4 ?_
  refine lv_istore_n (lv' := [(2, .int 0), (0, .ref a), (1, .int 1)]) hx hb dJx4a65c_grow_92f84_5 rfl hl (by decide) rfl (fun ls hl => ?_)
  refine lv_iload_n hx hb dJx4a65c_grow_92f84_6 rfl (lv_at hl 0 rfl) ?_
  refine lv_if_gt (tgt := 20) hx hb dJx4a65c_grow_92f84_7 (by decide) (fun hc => absurd hc (by decide)) (fun _ => ?_)
  refine lv_aload_n hx hb dJx4a65c_grow_92f84_10 rfl (lv_at hl 1 rfl) ?_
  refine nb_getr hA hx hb hT hK hown hW fl_AL_9 h0 (v := .ref o.1) rfl dJx4a65c_grow_92f84_11 ?_
  refine va_gets hx hb hSO.1 hS hown (hT.use (List.mem_of_getElem? (i := 1009) (by decide +kernel)) rfl) (fun _ h => h) dJx4a65c_grow_92f84_14 ?_
  refine lv_acmp_eq (rx := some o.1) (ry := some o.1) (tgt := 45) hx hb dJx4a65c_grow_92f84_17 (by decide) (fun _ => ?_) (fun hc => absurd rfl hc)
  refine lv_aload_n hx hb dJx4a65c_grow_92f84_45 rfl (lv_at hl 1 rfl) ?_
  refine lv_bipush (v := 10) hx hb dJx4a65c_grow_92f84_46 (by decide) ?_
  refine lv_iload_n hx hb dJx4a65c_grow_92f84_48 rfl (lv_at hl 2 rfl) ?_
  refine nb_mmax hx hb hml hl.1 hown hT lm_AL_79 mf_Math_max ⟨Nat.le_of_ble_eq_true rfl, Nat.le_of_ble_eq_true rfl⟩ ⟨Nat.le_of_ble_eq_true rfl, Nat.le_of_ble_eq_true rfl⟩ dJx4a65c_grow_92f84_49 ?_
  refine lv_topc (v := 10) (by decide) ?_
  refine nb_newq 6 hx hb hSW hown hA hW hS rfl nq_AL_7 (by decide) (N' := 10) (by decide) (by decide) ⟨Nat.le_of_ble_eq_true rfl, Nat.le_of_ble_eq_true rfl⟩ dJx4a65c_grow_92f84_52 (fun q H G1 hn1 hE1 hc1 hW hS => ?_)
  refine lv_dup_x1 hx hb dJx4a65c_grow_92f84_55 rfl rfl ?_
  refine nb_putr hA hx hb hT hK hown hW hS fl_AL_9 tyJx4a65c tyJx4a65c_ok nmJx4a65c (hE1 _ _ _ h0) (v := .ref q) rfl rfl rfl (Nat.le_of_ble_eq_true rfl) dJx4a65c_grow_92f84_56 (fun H locs G2 hE2 hc2 hW hS => ?_)
  exact W.aret hx hb hr (Or.inr ⟨_, rfl⟩) (Or.inr ⟨q, rfl⟩) (fun t ht _ => ⟨⟨G2, q, rfl, hE1.ext.tr hE2, by show GW z ad G2 t.heap ∧ _; rw [ht]; exact ⟨hW, hn1, hE2.ne (cell_ne hc1 (hE1 _ _ _ h0) (fun x => nomatch x)) hc1, hc2⟩⟩, hS.F ht⟩) hS.2.2 dJx4a65c_grow_92f84_59 hlocks
set_option maxRecDepth 100000 in
set_option maxHeartbeats 4000000 in
theorem m_grow0 (l : Launch) (z : Zt) (o : Ot) (ad : Ad) (G : Gt) (hA : Raw ad) (a : Nat) (k : Int32) (h0 : G 99 a = some (.inr (9, [.int k, .ref o.1, .int 0]))) : MO l z o yJx4a65c_grow_d5877 cJx4a65c_grow_d5877 1 (some (.array (.object "java/lang/Object"))) { frames := 2, cells := 1, slots := 10, locals := 80 } 1 10 [.ref a] ad G (va_Qr (S := Gt) (fun u => Ext G u a) (fun u r t => GW z ad u t.heap ∧ G 99 r = none ∧ u 99 r = some (.inl (z.2.2 6, 10, .inr (.inr (.inr (.inr (fun _ => none)))))) ∧ u 99 a = some (.inr (9, [.int k, .ref r, .int 0]))) (zA z)) := by
  refine Met.ofW (cc := cJx4a65c_grow_d5877) (maxL := 1) (ret := (some (.array (.object "java/lang/Object")))) (by decide) rfl ?_
  intro p e s m args below meth c s₁ B hml hv
  obtain ⟨rfl, hSW, hSO, hW⟩ := hv
  have hx := B.exec; have hb := B.bytes; have hr := B.returns; have hlocks := B.notSynchronized
  have hown : s.vm.findClass RJx4a65c = some m.cls := findClass_of_methodNamed B.named
  obtain ⟨hT, hK, hST, hB0⟩ := id hSW
  have hS : va_S (zA z) s.heap s.heap [] := va_S.rf
  have hl := lv_entry ([.ref a]) (n := 1) (Nat.le_of_ble_eq_true rfl)
  rw [lg_entry_eq]
  generalize (lg_sl ([.ref a]) ++ List.replicate (1 - (lg_sl ([.ref a])).length) Slot.unset).toArray = ls at hl ⊢
  have hl : lv_has ls 1 [(0, .ref a)] := hl
  refine lv_aload_n hx hb dJx4a65c_grow_d5877_0 rfl (lv_at hl 0 rfl) ?_
  refine lv_aload_n hx hb dJx4a65c_grow_d5877_1 rfl (lv_at hl 0 rfl) ?_
  refine nb_getr hA hx hb hT hK hown hW fl_Jx4a65c_48 h0 (v := .int 0) rfl dJx4a65c_grow_d5877_2 ?_
  refine lv_iconst (v := 1) hx hb dJx4a65c_grow_d5877_5 (by decide) ?_
  refine lv_iadd hx hb dJx4a65c_grow_d5877_6 ?_
  refine lv_topc (v := 1) (by decide) ?_
  refine va_callr (nb_runVo (As := [.int 1]) (rest := []) hA hx hb hml hown hSW hSO hS hW (m_grow1 l z o ad G hA a k h0) mf_grow1 lk_AL_69 h0 rfl rfl ⟨rfl, rfl⟩ ⟨Nat.le_of_ble_eq_true rfl, Nat.le_of_ble_eq_true rfl⟩ hl.1 (Nat.le_of_ble_eq_true rfl) dJx4a65c_grow_d5877_7 ⟨Nat.le_of_ble_eq_true rfl, Nat.le_of_ble_eq_true rfl⟩) hS (fun _ _ h => h) (fun _ h => h) (fun G1 q t H locs ht _ hE hp _ _ hS => ?_)
  subst ht
  obtain ⟨hW, h1, h2, h3⟩ := hp
  exact W.aret hx hb hr (Or.inr ⟨_, rfl⟩) (Or.inr ⟨q, rfl⟩) (fun t ht _ => ⟨⟨G1, q, rfl, hE, by show GW z ad G1 t.heap ∧ _; rw [ht]; exact ⟨hW, h1, h2, h3⟩⟩, hS.F ht⟩) hS.2.2 dJx4a65c_grow_d5877_10 hlocks
set_option maxRecDepth 100000 in
set_option maxHeartbeats 4000000 in
theorem m_add3 (l : Launch) (z : Zt) (o : Ot) (ad : Ad) (G : Gt) (hA : Raw ad) (a b : Nat) (k : Int32) (hbx : BX o G b) (h0 : G 99 a = some (.inr (9, [.int k, .ref o.1, .int 0]))) : MO l z o yJx4a65c_add_72be8 cJx4a65c_add_72be8 4 none { frames := 3, cells := 1, slots := 10, locals := 120 } 1 10 [.ref a, .ref b, .ref o.1, .int 0] ad G (va_Qv (S := Gt) (fun u => Ext G u a ∧ ∃ q, u 99 a = some (.inr (9, [.int k, .ref q, .int 1]))) (fun u t => GW z ad u t.heap) (zA z)) := by
  refine Met.ofW (cc := cJx4a65c_add_72be8) (maxL := 4) (ret := none) (by decide) rfl ?_
  intro p e s m args below meth c s₁ B hml hv
  obtain ⟨rfl, hSW, hSO, hW⟩ := hv
  have hx := B.exec; have hb := B.bytes; have hr := B.returns; have hlocks := B.notSynchronized
  have hown : s.vm.findClass RJx4a65c = some m.cls := findClass_of_methodNamed B.named
  obtain ⟨hT, hK, hST, hB0⟩ := id hSW
  have hS : va_S (zA z) s.heap s.heap [] := va_S.rf
  have hl := lv_entry ([.ref a, .ref b, .ref o.1, .int 0]) (n := 4) (Nat.le_of_ble_eq_true rfl)
  rw [lg_entry_eq]
  generalize (lg_sl ([.ref a, .ref b, .ref o.1, .int 0]) ++ List.replicate (4 - (lg_sl ([.ref a, .ref b, .ref o.1, .int 0])).length) Slot.unset).toArray = ls at hl ⊢
  have hl : lv_has ls 4 [(0, .ref a), (1, .ref b), (2, .ref o.1), (3, .int 0)] := hl
  refine lv_iload_n hx hb dJx4a65c_add_72be8_0 rfl (lv_at hl 3 rfl) ?_
  refine lv_aload_n hx hb dJx4a65c_add_72be8_1 rfl (lv_at hl 2 rfl) ?_
  refine va_tlen hx hb hSO.2.1 hS (v := 0) rfl dJx4a65c_add_72be8_2 ?_
  refine lv_icmp_ne (tgt := 11) hx hb dJx4a65c_add_72be8_3 (by decide) (fun hc => absurd rfl hc) (fun _ => ?_)
  refine lv_aload_n hx hb dJx4a65c_add_72be8_6 rfl (lv_at hl 0 rfl) ?_
  refine va_callr (nb_runVo (As := []) (rest := []) hA hx hb hml hown hSW hSO hS hW (m_grow0 l z o ad G hA a k h0) mf_grow0 lk_AL_129 h0 rfl rfl ⟨rfl, rfl⟩ ⟨Nat.le_of_ble_eq_true rfl, Nat.le_of_ble_eq_true rfl⟩ hl.1 (Nat.le_of_ble_eq_true rfl) dJx4a65c_add_72be8_7 ⟨Nat.le_of_ble_eq_true rfl, Nat.le_of_ble_eq_true rfl⟩) hS (fun _ _ h => h) (fun _ h => h) (fun G1 q t H locs ht _ hE hp _ _ hS => ?_)
  subst ht
  obtain ⟨hW, h1, h2, h3⟩ := hp
  refine lv_astore_n (lv' := [(2, .ref q), (0, .ref a), (1, .ref b), (3, .int 0)]) hx hb dJx4a65c_add_72be8_10 rfl hl (by decide) rfl (fun ls hl => ?_)
  refine lv_aload_n hx hb dJx4a65c_add_72be8_11 rfl (lv_at hl 0 rfl) ?_
  refine lv_iload_n hx hb dJx4a65c_add_72be8_12 rfl (lv_at hl 3 rfl) ?_
  refine lv_aload_n hx hb dJx4a65c_add_72be8_13 rfl (lv_at hl 2 rfl) ?_
  refine nb_aastMr hA hx hb hK hW hS 6 h2 rfl ((hbx.ext hE h0).any hA hSW hSO hS hW) (inb_in (by decide)) dJx4a65c_add_72be8_14 (fun H locs G2 hE2 hc2 hW hS => ?_)
  replace h3 := hE2.ne (cell_ne h3 h2 (fun x => nomatch x)) h3
  refine lv_aload_n hx hb dJx4a65c_add_72be8_15 rfl (lv_at hl 1 rfl) ?_
  refine lv_iload_n hx hb dJx4a65c_add_72be8_16 rfl (lv_at hl 3 rfl) ?_
  refine lv_iconst (v := 1) hx hb dJx4a65c_add_72be8_17 (by decide) ?_
  refine lv_iadd hx hb dJx4a65c_add_72be8_18 ?_
  refine lv_topc (v := 1) (by decide) ?_
  refine nb_putr hA hx hb hT hK hown hW hS fl_Jx4a65c_48 tyJx4a65c tyJx4a65c_ok nmJx4a65c h3 (v := .int 1) rfl rfl rfl (Nat.le_of_ble_eq_true rfl) dJx4a65c_add_72be8_19 (fun H locs G3 hE3 hc3 hW hS => ?_)
  have hE9 : Ext G G3 a := fun kd x e9 hne hk => hE3 _ _ _ hne (hE2 _ _ _ (fun w => by rw [w.1, w.2, h1] at hk; cases hk) (hE _ _ _ hne hk))
  exact W.vret hx hb hr (fun t ht _ => ⟨⟨G3, rfl, ⟨hE9, q, hc3⟩, by show GW z ad G3 t.heap; rw [ht]; exact hW⟩, hS.F ht⟩) hS.2.2 dJx4a65c_add_72be8_22 hlocks
set_option maxRecDepth 100000 in
set_option maxHeartbeats 4000000 in
theorem m_add1 (l : Launch) (z : Zt) (o : Ot) (ad : Ad) (G : Gt) (hA : Raw ad) (a b : Nat) (hbx : BX o G b) (h0 : G 99 a = some (.inr (9, [.int 0, .ref o.1, .int 0]))) : MO l z o yJx4a65c_add_9ea2d cJx4a65c_add_9ea2d 2 (some .boolean) { frames := 4, cells := 1, slots := 10, locals := 160 } 1 10 [.ref a, .ref b] ad G (va_Qi (S := Gt) (fun r u => r = 1 ∧ Ext G u a ∧ ∃ q, u 99 a = some (.inr (9, [.int 1, .ref q, .int 1]))) (fun u t => GW z ad u t.heap) (zA z)) := by
  refine Met.ofW (cc := cJx4a65c_add_9ea2d) (maxL := 2) (ret := (some .boolean)) (by decide) rfl ?_
  intro p e s m args below meth c s₁ B hml hv
  obtain ⟨rfl, hSW, hSO, hW⟩ := hv
  have hx := B.exec; have hb := B.bytes; have hr := B.returns; have hlocks := B.notSynchronized
  have hown : s.vm.findClass RJx4a65c = some m.cls := findClass_of_methodNamed B.named
  obtain ⟨hT, hK, hST, hB0⟩ := id hSW
  have hS : va_S (zA z) s.heap s.heap [] := va_S.rf
  have hl := lv_entry ([.ref a, .ref b]) (n := 2) (Nat.le_of_ble_eq_true rfl)
  rw [lg_entry_eq]
  generalize (lg_sl ([.ref a, .ref b]) ++ List.replicate (2 - (lg_sl ([.ref a, .ref b])).length) Slot.unset).toArray = ls at hl ⊢
  have hl : lv_has ls 2 [(0, .ref a), (1, .ref b)] := hl
  refine lv_aload_n hx hb dJx4a65c_add_9ea2d_0 rfl (lv_at hl 0 rfl) ?_
  refine lv_dup hx hb dJx4a65c_add_9ea2d_1 rfl ?_
  refine nb_getX hA hx hb hT hK hown hW fx_AL_63 h0 (v := .int 0) rfl dJx4a65c_add_9ea2d_2 ?_
  refine lv_iconst (v := 1) hx hb dJx4a65c_add_9ea2d_5 (by decide) ?_
  refine lv_iadd hx hb dJx4a65c_add_9ea2d_6 ?_
  refine lv_topc (v := 1) (by decide) ?_
  refine nb_putX hA hx hb hT hK hown hW hS fx_AL_63 tyJx4a65c tyJx4a65c_ok nmJx4a65c h0 (v := .int 1) rfl rfl rfl (Nat.le_of_ble_eq_true rfl) dJx4a65c_add_9ea2d_7 (fun H locs G1 hE1 hc1 hW hS => ?_)
  have hbx1 := hbx.ext hE1 h0
  refine lv_aload_n hx hb dJx4a65c_add_9ea2d_10 rfl (lv_at hl 0 rfl) ?_
  refine lv_aload_n hx hb dJx4a65c_add_9ea2d_11 rfl (lv_at hl 1 rfl) ?_
  refine lv_aload_n hx hb dJx4a65c_add_9ea2d_12 rfl (lv_at hl 0 rfl) ?_
  refine nb_getr hA hx hb hT hK hown hW fl_AL_9 hc1 (v := .ref o.1) rfl dJx4a65c_add_9ea2d_13 ?_
  refine lv_aload_n hx hb dJx4a65c_add_9ea2d_16 rfl (lv_at hl 0 rfl) ?_
  refine nb_getr hA hx hb hT hK hown hW fl_Jx4a65c_48 hc1 (v := .int 0) rfl dJx4a65c_add_9ea2d_17 ?_
  refine va_callv (nb_runVo (As := [.ref b, .ref o.1, .int 0]) (rest := []) hA hx hb hml hown hSW hSO hS hW (m_add3 l z o ad G1 hA a b 1 hbx1 hc1) mf_add3 lk_AL_131 hc1 rfl rfl ⟨rfl, rfl⟩ ⟨Nat.le_of_ble_eq_true rfl, Nat.le_of_ble_eq_true rfl⟩ hl.1 (Nat.le_of_ble_eq_true rfl) dJx4a65c_add_9ea2d_20 ⟨Nat.le_of_ble_eq_true rfl, Nat.le_of_ble_eq_true rfl⟩) hS (fun _ _ h => h) (fun _ h => h) (fun G2 t H locs ht _ hp hW _ _ hS => ?_)
  subst ht
  obtain ⟨hE2, q, hc2⟩ := hp
  replace hW : GW z ad G2 t.heap := hW
  refine lv_iconst (v := 1) hx hb dJx4a65c_add_9ea2d_23 (by decide) ?_
  exact W.zret hx hb hr rfl (fun t ht _ => ⟨⟨1, G2, rfl, ⟨rfl, hE1.tr hE2, q, hc2⟩, by show GW z ad G2 t.heap; rw [ht]; exact hW⟩, hS.F ht⟩) hS.2.2 dJx4a65c_add_9ea2d_24 hlocks
set_option maxRecDepth 100000 in
set_option maxHeartbeats 4000000 in
theorem m_INT (l : Launch) (z : Zt) (ad : Ad) (G : Gt) (hA : Raw ad) (a : Nat) (x : Int32) (h0 : G 99 a = some (.inr (14, [.int 0]))) : MC l z yJ6_init_d00df cJ6_init_d00df 2 none { frames := 2, cells := 0, slots := 0, locals := 40 } 0 0 [.ref a, .int x] ad G (va_Qv (S := Gt) (fun u => Ext G u a ∧ u 99 a = some (.inr (14, [.int x]))) (fun u t => GW z ad u t.heap) (zA z)) := by
  refine Met.ofW (cc := cJ6_init_d00df) (maxL := 2) (ret := none) (by decide) rfl ?_
  intro p e s m args below meth c s₁ B hml hv
  obtain ⟨rfl, hSW, hW⟩ := hv
  have hx := B.exec; have hb := B.bytes; have hr := B.returns; have hlocks := B.notSynchronized
  have hown : s.vm.findClass RJ6 = some m.cls := findClass_of_methodNamed B.named
  have hin : meth.name = "<init>" := (name_of_methodNamed B.named B.method).1
  obtain ⟨hT, hK, hST, hB0⟩ := id hSW
  have hS : va_S (zA z) s.heap s.heap [] := va_S.rf
  have hl := lv_entry ([.ref a, .int x]) (n := 2) (Nat.le_of_ble_eq_true rfl)
  rw [lg_entry_eq]
  generalize (lg_sl ([.ref a, .int x]) ++ List.replicate (2 - (lg_sl ([.ref a, .int x])).length) Slot.unset).toArray = ls at hl ⊢
  have hl : lv_has ls 2 [(0, .ref a), (1, .int x)] := hl
  refine lv_aload_n hx hb dJ6_init_d00df_0 rfl (lv_at hl 0 rfl) ?_
  refine nb_cv (nb_runI (As := []) (rest := []) hx hb hml hown hSW hS hW (m_NUM l z ad G hA a) mf_NUM lk_INT_202 rfl ⟨rfl, rfl⟩ ⟨Nat.le_of_ble_eq_true rfl, Nat.le_of_ble_eq_true rfl⟩ hl.1 (Nat.le_of_ble_eq_true rfl) dJ6_init_d00df_1 ⟨Nat.le_of_ble_eq_true rfl, Nat.le_of_ble_eq_true rfl⟩) hS (fun H locs hW hS => ?_)
  refine lv_aload_n hx hb dJ6_init_d00df_4 rfl (lv_at hl 0 rfl) ?_
  refine lv_iload_n hx hb dJ6_init_d00df_5 rfl (lv_at hl 1 rfl) ?_
  refine nb_putFr hA hx hb hT hK hown hW hS fl_INT_205 (List.mem_of_getElem? (i := 1373) (by decide +kernel)) tyJ6 tyJ6_ok nmJ6 h0 (v := .int x) rfl hin rfl rfl (Nat.le_of_ble_eq_true rfl) dJ6_init_d00df_6 (fun H locs G1 hE1 hc1 hW hS => ?_)
  exact W.vret hx hb hr (fun t ht _ => ⟨⟨G1, rfl, ⟨hE1, hc1⟩, by show GW z ad G1 t.heap; rw [ht]; exact hW⟩, hS.F ht⟩) hS.2.2 dJ6_init_d00df_9 hlocks
set_option maxRecDepth 100000 in
set_option maxHeartbeats 4000000 in
theorem m_valueOf (l : Launch) (z : Zt) (o : Ot) (ad : Ad) (G : Gt) (hA : Raw ad) (x : Int32) (hx0 : 0 ≤ x.toInt) : MO l z o yJ6_valueOf_2dffe cJ6_valueOf_2dffe 1 (some (.object "java/lang/Integer")) { frames := 3, cells := 1, slots := 1, locals := 80 } 1 1 [.int x] ad G (va_Qr (S := Gt) (fun u => Ext0 G u) (fun u r t => GW z ad u t.heap ∧ BX o u r) (zA z)) := by
  refine Met.ofW (cc := cJ6_valueOf_2dffe) (maxL := 1) (ret := (some (.object "java/lang/Integer"))) (by decide) rfl ?_
  intro p e s m args below meth c s₁ B hml hv
  obtain ⟨rfl, hSW, hSO, hW⟩ := hv
  have hx := B.exec; have hb := B.bytes; have hr := B.returns; have hlocks := B.notSynchronized
  have hown : s.vm.findClass RJ6 = some m.cls := findClass_of_methodNamed B.named
  obtain ⟨hT, hK, hST, hB0⟩ := id hSW
  have hS : va_S (zA z) s.heap s.heap [] := va_S.rf
  have hl := lv_entry ([.int x]) (n := 1) (Nat.le_of_ble_eq_true rfl)
  rw [lg_entry_eq]
  generalize (lg_sl ([.int x]) ++ List.replicate (1 - (lg_sl ([.int x])).length) Slot.unset).toArray = ls at hl ⊢
  have hl : lv_has ls 1 [(0, .int x)] := hl
  have hx1 : ¬ x < (-128) := fun q => by
    rw [Int32.lt_iff_toInt_lt] at q
    have q2 : (-128 : Int32).toInt = -128 := by decide +kernel
    omega
  refine lv_iload_n hx hb dJ6_valueOf_2dffe_0 rfl (lv_at hl 0 rfl) ?_
  refine lv_bipush (v := (-128)) hx hb dJ6_valueOf_2dffe_1 (by decide) ?_
  refine lv_icmp_lt (tgt := 23) hx hb dJ6_valueOf_2dffe_3 (by decide) (fun hc => absurd hc hx1) (fun _ => ?_)
  refine lv_iload_n hx hb dJ6_valueOf_2dffe_6 rfl (lv_at hl 0 rfl) ?_
  refine va_gets hx hb hSO.2.2.1 hS hown (hT.use (List.mem_of_getElem? (i := 1360) (by decide +kernel)) rfl) (fun _ h => h) dJ6_valueOf_2dffe_7 ?_
  refine lv_icmp_gt (tgt := 23) hx hb dJ6_valueOf_2dffe_10 (by decide) (fun _ => ?_) (fun c1 => ?_)
  · refine nb_new (fs := [.int 0]) hx hb hSW hown hA hW hS nw_INT tyJ6 tyJ6_ok (fun j hj => by rcases (show j = 0 by omega) with rfl; rfl) ⟨Nat.le_of_ble_eq_true rfl, Nat.le_of_ble_eq_true rfl⟩ dJ6_valueOf_2dffe_23 (fun b H G1 hn1 hE1 hc1 hW hS => ?_)
    refine lv_dup hx hb dJ6_valueOf_2dffe_26 rfl ?_
    refine lv_iload_n hx hb dJ6_valueOf_2dffe_27 rfl (lv_at hl 0 rfl) ?_
    refine va_callv (nb_runI (As := [.int x]) (rest := [.ref b]) hx hb hml hown hSW hS hW (m_INT l z ad G1 hA b x hc1) mf_INT lk_INT_199 rfl ⟨rfl, rfl⟩ ⟨Nat.le_of_ble_eq_true rfl, Nat.le_of_ble_eq_true rfl⟩ hl.1 (Nat.le_of_ble_eq_true rfl) dJ6_valueOf_2dffe_28 ⟨Nat.le_of_ble_eq_true rfl, Nat.le_of_ble_eq_true rfl⟩) hS (fun _ _ h => h) (fun _ h => h) (fun G2 t H locs ht _ hp hW _ _ hS => ?_)
    subst ht
    obtain ⟨hE2, hc2⟩ := hp
    replace hW : GW z ad G2 t.heap := hW
    have hE9 : Ext0 G G2 := fun kd k e9 hk => hE2 _ _ _ (fun w => by rw [w.1, w.2, hn1] at hk; cases hk) (hE1 _ _ _ hk)
    exact W.aret hx hb hr (Or.inl ⟨_, rfl⟩) (Or.inr ⟨b, rfl⟩) (fun t ht _ => ⟨⟨G2, b, rfl, hE9, by show GW z ad G2 t.heap ∧ _; rw [ht]; exact ⟨hW, Or.inl ⟨14, _, _, hc2, by decide, rfl, (List.mem_of_getElem? (i := 1669) (by decide +kernel))⟩⟩⟩, hS.F ht⟩) hS.2.2 dJ6_valueOf_2dffe_31 hlocks
  · obtain ⟨j, hj, ej, -⟩ := bx_small (x := x) hx1 c1
    refine va_gets hx hb hSO.2.2.2.1 hS hown (hT.use (List.mem_of_getElem? (i := 1362) (by decide +kernel)) rfl) (fun _ h => h) dJ6_valueOf_2dffe_13 ?_
    refine lv_iload_n hx hb dJ6_valueOf_2dffe_16 rfl (lv_at hl 0 rfl) ?_
    refine lv_sipush (v := 128) hx hb dJ6_valueOf_2dffe_17 (by decide) ?_
    refine lv_iadd hx hb dJ6_valueOf_2dffe_20 ?_
    rw [ej]
    have ej2 : (nI j).toNatClampNeg = j := Int32.toNatClampNeg_ofNat_of_lt (by omega)
    refine vb_tq hx hb hSO.2.2.2.2.1 hS (vp_in_nI hj (by omega)) (v := .ref (o.2.1 j)) (by show Value.ref (o.2.1 (nI j).toNatClampNeg) = _; rw [ej2]) dJ6_valueOf_2dffe_21 ?_
    refine W.widen (k := 1) (n := 1) (Nat.le_of_ble_eq_true rfl) (Nat.le_of_ble_eq_true rfl) ?_
    exact W.aret hx hb hr (Or.inl ⟨_, rfl⟩) (Or.inr ⟨o.2.1 j, rfl⟩) (fun t ht _ => ⟨⟨G, o.2.1 j, rfl, Ext0.re, by show GW z ad G t.heap ∧ _; rw [ht]; exact ⟨hW, Or.inr ⟨j, hj, rfl⟩⟩⟩, hS.F ht⟩) hS.2.2 dJ6_valueOf_2dffe_22 hlocks
