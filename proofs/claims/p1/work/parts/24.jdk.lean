section JR
variable {p : Program} {l : Launch} {e : Env} {R : Room} {s : State} {m : MethodId} {args : Array Value} {below : List Frame} {meth : Method} {c : Code} {H : Heap} {locs : List Loc} {cells slots : Nat} {Q : State → Prop}
variable {cc : ByteArray} {pc mc ms : Nat} {ls : Array Slot} {rest st0 : List Value} {z : Zt} {ad : Ad} {G G0 : Gt} {own : String} {idx nL nLy n a : Nat} {A : Nat → Nat}
theorem nb_alenr (hA : Raw ad) (hx : p.tables.exec = Jvm.exec) (hb : c.code = cc) {tys : List (ClassId × FieldType)} (hK : va_K z.1 kCl tys s) (hW : GW z ad G H) (t0 : Nat) {cA : ClassId} {x : vp_A} (hk : G 99 a = some (.inl (cA, x))) {ty : FieldType} (ht : tys[t0]? = some (cA, ty)) {v : Int32} (hv : Int32.ofNat x.1 = v) (hdg : decode cc pc = .ok (.arraylength, 1))
    (kk : W p l e R s m args below meth c H locs cells slots Q (F0 m (pc + 1) ls (.int v :: rest))) : W p l e R s m args below meth c H locs cells slots Q (F0 m pc ls (.ref a :: rest)) := by
  have h := nb_alen (ad := ad) (kd := 99) (k := a) hx hb hK hW t0 hk ht hv hdg kk
  rw [hA a] at h
  exact h
theorem nb_aaldr (hA : Raw ad) (hx : p.tables.exec = Jvm.exec) (hb : c.code = cc) {tys : List (ClassId × FieldType)} (hK : va_K z.1 kCl tys s) (hW : GW z ad G H) (t0 : Nat) {cA : ClassId} {ty : FieldType} {n : Nat} {f : Nat → Option Nat} (hk : G 99 a = some (.inl (cA, n, .inr (.inr (.inr (.inr f)))))) (ht : tys[t0]? = some (cA, ty)) (hr : ty.isReference = true) {i : Int32} (hin : vp_in i n) {b : Nat} (hv : f i.toNatClampNeg = some b) (hdg : decode cc pc = .ok (.aaload, 1))
    (kk : W p l e R s m args below meth c H locs cells slots Q (F0 m (pc + 1) ls (.ref b :: rest))) : W p l e R s m args below meth c H locs cells slots Q (F0 m pc ls (.int i :: .ref a :: rest)) := by
  have h := nb_aald (ad := ad) (kd := 99) (k := a) hx hb hK hW t0 hk ht hr hin hv hdg kk
  rw [hA a] at h
  exact h
theorem fmR_at {i : Nat} (h : i < 3) : fmR A i = some (A (10 + i)) := if_pos h
theorem nb_getrS {ci j N : Nat} {C : String} {T : u_T} {fs : List Value} (hA : Raw ad) (hx : p.tables.exec = Jvm.exec) (hb : c.code = cc) {tys : List (ClassId × FieldType)} (hT : TB s) (hK : va_K z.1 kCl tys s) (hown : s.vm.findClass own = some m.cls) (hW : GW z ad G H) (f : FLs own idx ci j C T N) (hk : G 99 a = some (.inr (ci, fs))) {v : Value} (hv : fs[j]? = some v) (hdg : decode cc pc = .ok (.getfield idx, 3))
    (kk : W p l e R s m args below meth c H locs cells slots Q (F0 m (pc + 3) ls (v :: rest))) : W p l e R s m args below meth c H locs cells slots Q (F0 m pc ls (.ref a :: rest)) := by
  obtain ⟨hc, hws, hj, hl, hsm⟩ := f
  have hts : ∀ w ∈ u_ws C T N, w.before args s = true := fun w hw => by
    have h := List.all_eq_true.mp hws w hw
    simp only [Bool.and_eq_true, decide_eq_true_eq] at h
    exact hT.use h.2 h.1
  obtain ⟨L, g, hP, hD, hG, hI⟩ := hW
  obtain ⟨ha, hf⟩ := hG _ _ _ hk
  rw [hA a] at ha hf
  obtain ⟨i, hi⟩ := va_pl_get (X := []) (f := g) ha
  exact va_get (D := z.1) (ci := ci) (fs := fs) hx hb hts (fun _ h => h) hown hK hP i (by rw [hi, hf]) hc j hj (hT.use hl rfl) (fun x h => u_same (hT.use (A := args) hsm rfl) x h) hv hdg kk
/-- size() of a list -/
theorem m_size (l : Launch) (z : Zt) (ad : Ad) (G : Gt) (hA : Raw ad) (a : Nat) {e0 e1 : Value} {n : Int32} (h0 : G 99 a = some (.inr (9, [e0, e1, .int n]))) : MC l z yJx4a65c_size_8abf5 cJx4a65c_size_8abf5 1 (some .int) { frames := 0, cells := 0, slots := 0, locals := 0 } 0 0 [.ref a] ad G (QI z ad G n) := by
  refine Met.ofW (cc := cJx4a65c_size_8abf5) (maxL := 1) (ret := some .int) (by decide) rfl ?_
  intro p e s m args below meth c s₁ B hml hv
  obtain ⟨rfl, hSW, hW⟩ := hv
  have hx := B.exec; have hb := B.bytes; have hr := B.returns; have hlocks := B.notSynchronized
  have hown : s.vm.findClass RJx4a65c = some m.cls := findClass_of_methodNamed B.named
  obtain ⟨hT, hK, hST, hB0⟩ := id hSW
  have hS : va_S (zA z) s.heap s.heap [] := va_S.rf
  have hl := lv_entry ([.ref a]) (n := 1) (Nat.le_of_ble_eq_true rfl)
  rw [lg_entry_eq]
  generalize (lg_sl ([.ref a]) ++ List.replicate (1 - (lg_sl ([.ref a])).length) Slot.unset).toArray = ls at hl ⊢
  have hl : lv_has ls 1 [(0, .ref a)] := hl
  refine lv_aload_n hx hb dJx4a65c_size_8abf5_0 rfl (lv_at hl 0 rfl) ?_
  refine nb_getr hA hx hb hT hK hown hW fl_Jx4a65c_48 h0 (v := .int n) rfl dJx4a65c_size_8abf5_1 ?_
  exact nb_iret hx hb hr rfl hlocks hW hS dJx4a65c_size_8abf5_4
theorem m_isEmpty (l : Launch) (z : Zt) (ad : Ad) (G : Gt) (hA : Raw ad) (a : Nat) {e0 e1 : Value} (h0 : G 99 a = some (.inr (9, [e0, e1, .int 0]))) : MC l z yJx4a65c_isEmpty_aae02 cJx4a65c_isEmpty_aae02 1 (some .boolean) { frames := 0, cells := 0, slots := 0, locals := 0 } 0 0 [.ref a] ad G (QI z ad G 1) := by
  refine Met.ofW (cc := cJx4a65c_isEmpty_aae02) (maxL := 1) (ret := some .boolean) (by decide) rfl ?_
  intro p e s m args below meth c s₁ B hml hv
  obtain ⟨rfl, hSW, hW⟩ := hv
  have hx := B.exec; have hb := B.bytes; have hr := B.returns; have hlocks := B.notSynchronized
  have hown : s.vm.findClass RJx4a65c = some m.cls := findClass_of_methodNamed B.named
  obtain ⟨hT, hK, hST, hB0⟩ := id hSW
  have hS : va_S (zA z) s.heap s.heap [] := va_S.rf
  have hl := lv_entry ([.ref a]) (n := 1) (Nat.le_of_ble_eq_true rfl)
  rw [lg_entry_eq]
  generalize (lg_sl ([.ref a]) ++ List.replicate (1 - (lg_sl ([.ref a])).length) Slot.unset).toArray = ls at hl ⊢
  have hl : lv_has ls 1 [(0, .ref a)] := hl
  refine lv_aload_n hx hb dJx4a65c_isEmpty_aae02_0 rfl (lv_at hl 0 rfl) ?_
  refine nb_getr hA hx hb hT hK hown hW fl_Jx4a65c_48 h0 (v := .int 0) rfl dJx4a65c_isEmpty_aae02_1 ?_
  refine lv_if_ne (tgt := 11) hx hb dJx4a65c_isEmpty_aae02_4 (by decide) (fun hc => absurd (by decide) hc) (fun _ => ?_)
  refine lv_iconst (v := 1) hx hb dJx4a65c_isEmpty_aae02_7 (by decide) ?_
  refine lv_goto (tgt := 12) hx hb dJx4a65c_isEmpty_aae02_8 (by decide) ?_
  exact nb_iret hx hb hr rfl hlocks hW hS dJx4a65c_isEmpty_aae02_12
theorem m_hasNext (l : Launch) (z : Zt) (ad : Ad) (G : Gt) (hA : Raw ad) (b a : Nat) {e0 e1 e2 e3 : Value} (hb0 : G 99 b = some (.inr (10, [.int 0, e2, e3, .ref a]))) (h0 : G 99 a = some (.inr (9, [e0, e1, .int 0]))) : MC l z yJx35411_hasNext_aae02 cJx35411_hasNext_aae02 1 (some .boolean) { frames := 0, cells := 0, slots := 0, locals := 0 } 0 0 [.ref b] ad G (QI z ad G 0) := by
  refine Met.ofW (cc := cJx35411_hasNext_aae02) (maxL := 1) (ret := some .boolean) (by decide) rfl ?_
  intro p e s m args below meth c s₁ B hml hv
  obtain ⟨rfl, hSW, hW⟩ := hv
  have hx := B.exec; have hb := B.bytes; have hr := B.returns; have hlocks := B.notSynchronized
  have hown : s.vm.findClass RJx35411 = some m.cls := findClass_of_methodNamed B.named
  obtain ⟨hT, hK, hST, hB0⟩ := id hSW
  have hS : va_S (zA z) s.heap s.heap [] := va_S.rf
  have hl := lv_entry ([.ref b]) (n := 1) (Nat.le_of_ble_eq_true rfl)
  rw [lg_entry_eq]
  generalize (lg_sl ([.ref b]) ++ List.replicate (1 - (lg_sl ([.ref b])).length) Slot.unset).toArray = ls at hl ⊢
  have hl : lv_has ls 1 [(0, .ref b)] := hl
  refine lv_aload_n hx hb dJx35411_hasNext_aae02_0 rfl (lv_at hl 0 rfl) ?_
  refine nb_getr hA hx hb hT hK hown hW fl_Jx35411_25 hb0 (v := .int 0) rfl dJx35411_hasNext_aae02_1 ?_
  refine lv_aload_n hx hb dJx35411_hasNext_aae02_4 rfl (lv_at hl 0 rfl) ?_
  refine nb_getr hA hx hb hT hK hown hW fl_Jx35411_1 hb0 (v := .ref a) rfl dJx35411_hasNext_aae02_5 ?_
  refine nb_getr hA hx hb hT hK hown hW fl_Jx35411_28 h0 (v := .int 0) rfl dJx35411_hasNext_aae02_8 ?_
  refine lv_icmp_eq (tgt := 18) hx hb dJx35411_hasNext_aae02_11 (by decide) (fun _ => ?_) (fun hc => absurd (by decide) hc)
  refine lv_iconst (v := 0) hx hb dJx35411_hasNext_aae02_18 (by decide) ?_
  exact nb_iret hx hb hr rfl hlocks hW hS dJx35411_hasNext_aae02_19
theorem m_itr (l : Launch) (z : Zt) (ad : Ad) (G : Gt) (hA : Raw ad) (b a : Nat) {e1 e2 : Value} (hb0 : G 99 b = some (.inr (10, [.int 0, .int 0, .int 0, .null]))) (h0 : G 99 a = some (.inr (9, [.int 0, e1, e2]))) : MC l z yJx35411_init_45d68 cJx35411_init_45d68 2 none { frames := 1, cells := 0, slots := 0, locals := 13 } 0 0 [.ref b, .ref a] ad G (va_Qv (S := Gt) (fun u => Ext G u b ∧ u 99 b = some (.inr (10, [.int 0, .int (-1), .int 0, .ref a]))) (fun u t => GW z ad u t.heap) (zA z)) := by
  refine Met.ofW (cc := cJx35411_init_45d68) (maxL := 2) (ret := none) (by decide) rfl ?_
  intro p e s m args below meth c s₁ B hml hv
  obtain ⟨rfl, hSW, hW⟩ := hv
  have hx := B.exec; have hb := B.bytes; have hr := B.returns; have hlocks := B.notSynchronized
  have hown : s.vm.findClass RJx35411 = some m.cls := findClass_of_methodNamed B.named
  have hin : meth.name = "<init>" := (name_of_methodNamed B.named B.method).1
  obtain ⟨hT, hK, hST, hB0⟩ := id hSW
  have hS : va_S (zA z) s.heap s.heap [] := va_S.rf
  have hl := lv_entry ([.ref b, .ref a]) (n := 2) (Nat.le_of_ble_eq_true rfl)
  rw [lg_entry_eq]
  generalize (lg_sl ([.ref b, .ref a]) ++ List.replicate (2 - (lg_sl ([.ref b, .ref a])).length) Slot.unset).toArray = ls at hl ⊢
  have hl : lv_has ls 2 [(0, .ref b), (1, .ref a)] := hl
  have ne : ∀ {G1 : Gt} {fs : List Value}, G1 99 b = some (.inr (10, fs)) → G1 99 a = some (.inr (9, [.int 0, e1, e2])) → a ≠ b := fun h1 h2 => cell_ne h2 h1 (fun q => absurd (show (9 : Nat) = 10 from congrArg (fun w : va_E => match w with | .inr y => y.1 | .inl _ => 0) q) (by decide))
  refine lv_aload_n hx hb dJx35411_init_45d68_0 rfl (lv_at hl 0 rfl) ?_
  refine lv_aload_n hx hb dJx35411_init_45d68_1 rfl (lv_at hl 1 rfl) ?_
  refine nb_putFr hA hx hb hT hK hown hW hS fl_Jx35411_1 fll_itr tyJx35411 tyJx35411_ok nmJx35411 hb0 (v := .ref a) rfl hin rfl rfl (Nat.le_of_ble_eq_true rfl) dJx35411_init_45d68_2 (fun H locs G1 hE1 hc1 hW hS => ?_)
  have h1 := hE1.ne (ne hb0 h0) h0
  refine lv_aload_n hx hb dJx35411_init_45d68_5 rfl (lv_at hl 0 rfl) ?_
  refine nb_obj hx hb hml hl.1 hT hown lo_itr ⟨Nat.le_of_ble_eq_true rfl, Nat.le_of_ble_eq_true rfl⟩ dJx35411_init_45d68_6 ?_
  refine lv_aload_n hx hb dJx35411_init_45d68_9 rfl (lv_at hl 0 rfl) ?_
  refine lv_iconst (v := (-1)) hx hb dJx35411_init_45d68_10 (by decide) ?_
  refine nb_putr hA hx hb hT hK hown hW hS fl_Jx35411_13 tyJx35411 tyJx35411_ok nmJx35411 hc1 (v := .int (-1)) rfl rfl rfl (Nat.le_of_ble_eq_true rfl) dJx35411_init_45d68_11 (fun H locs G2 hE2 hc2 hW hS => ?_)
  have h2 := hE2.ne (ne hc1 h1) h1
  refine lv_aload_n hx hb dJx35411_init_45d68_14 rfl (lv_at hl 0 rfl) ?_
  refine lv_aload_n hx hb dJx35411_init_45d68_15 rfl (lv_at hl 0 rfl) ?_
  refine nb_getr hA hx hb hT hK hown hW fl_Jx35411_1 hc2 (v := .ref a) rfl dJx35411_init_45d68_16 ?_
  refine nb_getrS hA hx hb hT hK hown hW fls_itr h2 (v := .int 0) rfl dJx35411_init_45d68_19 ?_
  refine nb_putr hA hx hb hT hK hown hW hS fl_Jx35411_22 tyJx35411 tyJx35411_ok nmJx35411 hc2 (v := .int 0) rfl rfl rfl (Nat.le_of_ble_eq_true rfl) dJx35411_init_45d68_22 (fun H locs G3 hE3 hc3 hW hS => ?_)
  exact W.vret hx hb hr (fun t ht _ => ⟨⟨G3, rfl, ⟨(hE1.tr hE2).tr hE3, hc3⟩, by show GW z ad G3 t.heap; rw [ht]; exact hW⟩, hS.F ht⟩) hS.2.2 dJx35411_init_45d68_25 hlocks
theorem m_iterator (l : Launch) (z : Zt) (ad : Ad) (G : Gt) (hA : Raw ad) (a : Nat) {e1 e2 : Value} (h0 : G 99 a = some (.inr (9, [.int 0, e1, e2]))) : MC l z yJx4a65c_iterator_32c93 cJx4a65c_iterator_32c93 1 (some (.object "java/util/Iterator")) { frames := 2, cells := 1, slots := 4, locals := 40 } 1 4 [.ref a] ad G (PQr z ad G (.inr (10, [.int 0, .int (-1), .int 0, .ref a]))) := by
  refine Met.ofW (cc := cJx4a65c_iterator_32c93) (maxL := 1) (ret := some (.object "java/util/Iterator")) (by decide) rfl ?_
  intro p e s m args below meth c s₁ B hml hv
  obtain ⟨rfl, hSW, hW⟩ := hv
  have hx := B.exec; have hb := B.bytes; have hr := B.returns; have hlocks := B.notSynchronized
  have hown : s.vm.findClass RJx4a65c = some m.cls := findClass_of_methodNamed B.named
  obtain ⟨hT, hK, hST, hB0⟩ := id hSW
  have hS : va_S (zA z) s.heap s.heap [] := va_S.rf
  have hl := lv_entry ([.ref a]) (n := 1) (Nat.le_of_ble_eq_true rfl)
  rw [lg_entry_eq]
  generalize (lg_sl ([.ref a]) ++ List.replicate (1 - (lg_sl ([.ref a])).length) Slot.unset).toArray = ls at hl ⊢
  have hl : lv_has ls 1 [(0, .ref a)] := hl
  refine nb_new (fs := [.int 0, .int 0, .int 0, .null]) hx hb hSW hown hA hW hS nw_itr tyJx35411 tyJx35411_ok (fun j hj => by rcases (show j = 0 ∨ j = 1 ∨ j = 2 ∨ j = 3 by omega) with rfl | rfl | rfl | rfl <;> rfl) ⟨Nat.le_of_ble_eq_true rfl, Nat.le_of_ble_eq_true rfl⟩ dJx4a65c_iterator_32c93_0 (fun b H G1 hn1 hE1 hc1 hW hS => ?_)
  refine lv_dup hx hb dJx4a65c_iterator_32c93_3 rfl ?_
  refine lv_aload_n hx hb dJx4a65c_iterator_32c93_4 rfl (lv_at hl 0 rfl) ?_
  refine va_callv (nb_runI (As := [.ref a]) (rest := [.ref b]) hx hb hml hown hSW hS hW (m_itr l z ad G1 hA b a hc1 (hE1 _ _ _ h0)) mf_itr lk_Jx4a65c_269 rfl ⟨rfl, rfl⟩ ⟨Nat.le_of_ble_eq_true rfl, Nat.le_of_ble_eq_true rfl⟩ hl.1 (Nat.le_of_ble_eq_true rfl) dJx4a65c_iterator_32c93_5 ⟨Nat.le_of_ble_eq_true rfl, Nat.le_of_ble_eq_true rfl⟩) hS (fun _ _ h => h) (fun _ h => h) (fun G2 t H locs ht _ hp hW _ _ hS => ?_)
  subst ht
  exact fm_rq hx hb hr (Or.inl ⟨_, rfl⟩) hlocks hW (ext0_new hE1 hp.1 hn1) hp.2 hS dJx4a65c_iterator_32c93_8
/-- hasNext() of an iterator that has none -/
theorem fm_hn {b : Nat} {e0 e1 e2 e3 : Value} (hA : Raw ad) (hx : p.tables.exec = Jvm.exec) (hb : c.code = cc) (hml : c.maxLocals = nL) (hown : s.vm.findClass own = some m.cls) (hSW : SW z s) (hS : va_S (zA z) s.heap H locs) (hW : GW z ad G H) (hb0 : G 99 b = some (.inr (10, [.int 0, e2, e3, .ref a]))) (h0 : G 99 a = some (.inr (9, [e0, e1, .int 0])))
    (lk : Cond.methodLink own idx ⟨"java/util/Iterator", "hasNext", "()Z"⟩ ∈ lw_tbl) (hR : 0 + 1 ≤ R.frames ∧ 8 + (1 + 11) + 0 ≤ R.locals) (hsz : ls.size = nL) (hst : (rest.map fun v => v.category).sum ≤ 8) (hdg : decode cc pc = .ok (.invokeinterface idx 1, 5)) (hf : cells + 0 ≤ R.cells ∧ slots + 0 ≤ R.slots)
    (kk : ∀ (H1 : Heap) (locs1 : List Loc), GW z ad G H1 → va_S (zA z) s.heap H1 locs1 → W p l e R s m args below meth c H1 locs1 cells slots Q (F0 m (pc + 5) ls (.int 0 :: rest))) : W p l e R s m args below meth c H locs cells slots Q (F0 m pc ls (.ref b :: rest)) := by
  obtain ⟨hT, hK, -⟩ := id hSW
  obtain ⟨f1, f3, f4, f8, f9⟩ := mf_hasNext
  obtain ⟨⟨w1, w2, w3, w4, w5⟩, -⟩ := hT.2 _ f1
  obtain ⟨L, g, hP, hD, hG, hI⟩ := id hW
  obtain ⟨ha, hf9⟩ := hG _ _ _ hb0
  rw [hA b] at ha hf9
  obtain ⟨i, hi⟩ := va_pl_get (X := []) (f := g) ha
  rw [hf9] at hi
  have hp : PreV s H RJx35411 b (va_Pc [.ref b] (fun U => SW z U ∧ GW z ad G U.heap)) [] := ⟨mc_blind, va_recv hK hP (ci := 10) rfl hi, fun U hU hW9 => ⟨rfl, hSW.at hS hU hW9, by rw [hU]; exact hW⟩⟩
  have hat := (hK.1 10 (RJx35411, TJx35411, 4) rfl).2
  have hlen : ∀ sig, parseMethodDescriptor "()Z" = some sig → 0 = sig.parameters.length := fun sig h => by
    have h2 : (parseMethodDescriptor "()Z").map (fun d => d.parameters.length) = some 0 := by decide +kernel
    rw [h] at h2
    exact (Option.some.inj h2).symm
  exact va_callFi (e := e) (args := args) (meth := meth) (below := below) (locs := locs) (va_runF (Ts := []) (count := 1) (rest := rest) (As := []) (g := F0 m pc ls (.ref b :: rest)) (n := 0) (mc := 0) (ms := 0) (cells := cells) (slots := slots) hat ⟨hx, hb, hml, hown, fun _ h => by cases h⟩ (m_hasNext l z ad G hA b a hb0 h0) ⟨⟨rfl, rfl, hR.1, hR.2, nb_code hT f9 rfl, List.mem_cons_self⟩, hT.use lk rfl, va_any rfl w1, va_any rfl w2, hT.use f3 rfl, hT.use f4 rfl, va_any rfl w3, va_any rfl w4, va_any rfl w5, hT.use f8 rfl, hT.use f9 rfl, ⟨by decide, by decide⟩, hlen⟩ hp rfl rfl hsz rfl (lv_room hst) hdg hf) hS (fun _ _ h => h) (fun _ h => h) (fun r u t H1 locs1 ht _ hp9 hW1 _ _ hS1 => by
    obtain rfl := hp9
    subst ht
    exact kk _ _ hW1 hS1)
end JR
