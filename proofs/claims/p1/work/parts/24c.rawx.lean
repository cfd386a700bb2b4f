/-! 24c: statics of the JDK that the reference reaches; rows over raw cells, more -/
abbrev Ot : Type := Nat × (Nat → Nat) × Nat
/-- the exceptions' classes are apart -/
def NC (U : State) : Prop := va_Nc "java/lang/IllegalStateException" "java/lang/IndexOutOfBoundsException" U ∧ va_Nc "java/lang/IllegalArgumentException" "java/lang/IndexOutOfBoundsException" U ∧ va_Nc "java/lang/IllegalStateException" "java/lang/IllegalArgumentException" U
def SO (z : Zt) (o : Ot) (U : State) : Prop :=
  va_Z RJx4a65c "DEFAULTCAPACITY_EMPTY_ELEMENTDATA" "[Ljava/lang/Object;" (.ref o.1) (zA z) U U.heap ∧ va_T (.object "java/lang/Object") o.1 0 (fun _ => .null) (zA z) U U.heap ∧
  va_Z "java/lang/Integer$IntegerCache" "high" "I" (.int 127) (zA z) U U.heap ∧ va_Z "java/lang/Integer$IntegerCache" "cache" "[Ljava/lang/Integer;" (.ref o.2.2) (zA z) U U.heap ∧
  va_T (.object "java/lang/Integer") o.2.2 256 (fun j => .ref (o.2.1 j)) (zA z) U U.heap ∧ (∀ k, k < 256 → va_O "java/lang/Integer" (o.2.1 k) (zA z) U U.heap) ∧ NC U
theorem SO.at {z : Zt} {o : Ot} {s U : State} {H : Heap} {locs : List Loc} (h : SO z o s) (hS : va_S (zA z) s.heap H locs) (hU : U.heap = H) (hW : s.WarmedH U.vm) : SO z o U := by
  obtain ⟨h1, h2, h3, h4, h5, h6, h7, h8, h9⟩ := h
  have hq : ∀ a : Nat, a < s.heap.size → ¬ zA z a → U.heap[a]? = s.heap[a]? := fun a ha hn => by rw [hU]; exact hS.2.1 a ha hn
  exact ⟨(h1.kept hq).moved hW.alike, (h2.kept hq).moved hW.alike, (h3.kept hq).moved hW.alike, (h4.kept hq).moved hW.alike, (h5.kept hq).moved hW.alike, fun k hk => va_O.moved hW.alike ((h6 k hk).kept hq), h7.moved hW.alike, h8.moved hW.alike, h9.moved hW.alike⟩
theorem SO.blind {z : Zt} {o : Ot} {U : State} {g : JFrame} {mk : MethodId} {a : Array Value} (h : SO z o U) : SO z o (U.calling g mk a) :=
  SO.at (s := U) (U := U.calling g mk a) (H := U.heap) (locs := []) h va_S.rf rfl (State.WarmedH.refl U)
/-- a contract that needs the JDK's statics, too -/
abbrev MO (l : Launch) (z : Zt) (o : Ot) (y : MethodName) (cy : ByteArray) (nL : Nat) (ret : Option FieldType) (rm : Room) (mc ms : Nat) (As : List Value) (ad : Ad) (G : Gt) (Qc : Array Value → State → Outcome → State → Prop) : Prop :=
  Met l y [Cond.code y cy nL ret] rm (va_Pc As (fun U => SW z U ∧ SO z o U ∧ GW z ad G U.heap)) Qc mc ms (zA z)
theorem mo_blind {z : Zt} {o : Ot} {ad : Ad} {G : Gt} {As : List Value} : FrameBlind (va_Pc As (fun U => SW z U ∧ SO z o U ∧ GW z ad G U.heap)) := fun a U g mk h => ⟨h.1, h.2.1.blind, h.2.2.1.blind, h.2.2.2⟩
/-- a field, named through a class that may only inherit it -/
def FX (own : String) (idx ci j : Nat) (C : String) (T : u_T) (N : Nat) (ref : String) : Prop :=
  kCl[ci]? = some (C, T, N) ∧ ((u_ws C T N).all (fun w => tbGood w && decide (w ∈ lw_tbl))) = true ∧ j < N ∧ Cond.fieldLink own idx ref (T j).2.1 (T j).2.2.1 ∈ lw_tbl ∧ (ref = (T j).1 ∨ Cond.sameField ref (T j).1 (T j).2.1 (T j).2.2.1 ∈ lw_tbl)
theorem inr_ne {i j : Nat} {fs gs : List Value} (h : i ≠ j) : (Sum.inr (i, fs) : va_E) ≠ .inr (j, gs) := fun q => h (congrArg (fun w : va_E => match w with | .inr y => y.1 | .inl _ => 0) q)
section RO
variable {p : Program} {l : Launch} {e : Env} {R : Room} {s : State} {m : MethodId} {args : Array Value} {below : List Frame} {meth : Method} {c : Code} {H : Heap} {locs : List Loc} {cells slots : Nat} {Q : State → Prop}
variable {cc : ByteArray} {pc mc ms : Nat} {ls : Array Slot} {rest st0 : List Value} {z : Zt} {o : Ot} {ad : Ad} {G G0 : Gt} {own ref : String} {idx nL nLy n a b : Nat} {A : Nat → Nat} {H0 : Heap} {tys : List (ClassId × FieldType)}
variable {y : MethodName} {cy : ByteArray} {ret : Option FieldType} {rm : Room} {As : List Value} {Qc : Array Value → State → Outcome → State → Prop}
theorem fx_ws {ci j : Nat} {C : String} {T : u_T} {N : Nat} (hT : TB s) (f : FX own idx ci j C T N ref) : (∀ w ∈ u_ws C T N, w.before args s = true) ∧ ∀ x, s.fieldFound? (T j).1 (T j).2.1 (T j).2.2.1 = some x → s.fieldFound? ref (T j).2.1 (T j).2.2.1 = some x := by
  refine ⟨fun w hw => ?_, fun x hx => ?_⟩
  · have h := List.all_eq_true.mp f.2.1 w hw
    simp only [Bool.and_eq_true, decide_eq_true_eq] at h
    exact hT.use h.2 h.1
  · rcases f.2.2.2.2 with h | h
    · rw [h]; exact hx
    · exact u_same (hT.use (A := args) h rfl) x hx
theorem nb_getX {ci j N : Nat} {C : String} {T : u_T} {fs : List Value} (hA : Raw ad) (hx : p.tables.exec = Jvm.exec) (hb : c.code = cc) (hT : TB s) (hK : va_K z.1 kCl tys s) (hown : s.vm.findClass own = some m.cls) (hW : GW z ad G H) (f : FX own idx ci j C T N ref) (hk : G 99 a = some (.inr (ci, fs))) {v : Value} (hv : fs[j]? = some v) (hdg : decode cc pc = .ok (.getfield idx, 3))
    (kk : W p l e R s m args below meth c H locs cells slots Q (F0 m (pc + 3) ls (v :: rest))) : W p l e R s m args below meth c H locs cells slots Q (F0 m pc ls (.ref a :: rest)) := by
  obtain ⟨hts, hsame⟩ := fx_ws (args := args) hT f
  obtain ⟨hc, -, hj, hl, -⟩ := f
  obtain ⟨L, g, hP, hD, hG, hI⟩ := hW
  obtain ⟨ha, hf⟩ := hG _ _ _ hk
  rw [hA a] at ha hf
  obtain ⟨i, hi⟩ := va_pl_get (X := []) (f := g) ha
  exact va_get (D := z.1) (ci := ci) (fs := fs) hx hb hts (fun _ h => h) hown hK hP i (by rw [hi, hf]) hc j hj (hT.use hl rfl) hsame hv hdg kk
theorem nb_putX {ci j N : Nat} {C : String} {T : u_T} {fs : List Value} (hA : Raw ad) (hx : p.tables.exec = Jvm.exec) (hb : c.code = cc) (hT : TB s) (hK : va_K z.1 kCl tys s) (hown : s.vm.findClass own = some m.cls) (hW : GW z ad G H) (hS : va_S (zA z) H0 H locs) (f : FX own idx ci j C T N ref) (ty0 : Nat → FieldType) (hty : ∀ k, k < N → parseFieldDescriptor (T k).2.2.1 = some (ty0 k)) (hnm : ∀ a, a < N → ∀ b, b < N → a ≠ b → (T a).2.1 ≠ (T b).2.1) (hk : G 99 a = some (.inr (ci, fs)))
    {v : Value} (hfin : (T j).2.2.2 = false) (hn : narrow (ty0 j) v = v) (hfit : fits (ty0 j) v = true) (hl : j < fs.length) (hdg : decode cc pc = .ok (.putfield idx, 3))
    (kk : ∀ (H1 : Heap) (locs1 : List Loc) (G' : Gt), Ext G G' a → G' 99 a = some (.inr (ci, fs.set j v)) → GW z ad G' H1 → va_S (zA z) H0 H1 locs1 → W p l e R s m args below meth c H1 locs1 cells slots Q (F0 m (pc + 3) ls rest)) : W p l e R s m args below meth c H locs cells slots Q (F0 m pc ls (v :: .ref a :: rest)) := by
  obtain ⟨hts, hsame⟩ := fx_ws (args := args) hT f
  obtain ⟨hc, -, hj, hl9, -⟩ := f
  obtain ⟨L, g, hP, hD, hG, hI⟩ := hW
  obtain ⟨ha, hf⟩ := hG _ _ _ hk
  obtain ⟨i, hi⟩ := va_pl_get (X := []) (f := g) ha
  have hi2 : (([] : va_W) ++ va_pl L g)[i]? = some (a, .inr (ci, fs)) := by rw [hi, hf, hA a]
  exact va_put (D := z.1) (ci := ci) (fs := fs) (ty := ty0 j) hx hb hts (fun _ h => h) ty0 hty hnm hown hK hP hD hS i hi2 hc j hj (hT.use hl9 rfl) hsame hfin (hty j hj) hn hfit hl hdg (fun H1 locs1 hP1 hD1 hS1 => kk H1 locs1 _ up_ext up2_self (gw_up hD hG hI hk hi (by rw [hA a]; exact hP1)) hS1)
theorem nb_runVo (hA : Raw ad) (hx : p.tables.exec = Jvm.exec) (hb : c.code = cc) (hml : c.maxLocals = nL) (hown : s.vm.findClass own = some m.cls) (hSW : SW z s) (hSO : SO z o s) (hS : va_S (zA z) s.heap H locs) (hW : GW z ad G H) (hM : MO l z o y cy nLy ret rm mc ms (.ref a :: As) ad G Qc) (f : MFv y cy nLy ret n) (lk : LK own idx y) {ci : Nat} {fs : List Value} {T : u_T} {N : Nat} (hk : G 99 a = some (.inr (ci, fs))) (hc : kCl[ci]? = some (y.cls, T, N))
    (hn : As.length = n) (hrm : rm.cells = mc ∧ rm.slots = ms) (hR : rm.frames + 1 ≤ R.frames ∧ 8 + (nLy + 11) + rm.locals ≤ R.locals) (hsz : ls.size = nL) (hst : (rest.map fun v => v.category).sum ≤ 8) (hdg : decode cc pc = .ok (.invokevirtual idx, 3)) (hf : cells + mc ≤ R.cells ∧ slots + ms ≤ R.slots) :
    va_Run p l e R s m args below meth c H locs cells slots mc ms (F0 m pc ls (As.reverse ++ .ref a :: rest)) rest (Qc (.ref a :: As).toArray) (zA z) := by
  obtain ⟨hT, hK, -⟩ := id hSW
  obtain ⟨f1, f2, f3, f4, f5, f6, f7⟩ := f
  have hp : PreV s H y.cls a (va_Pc (.ref a :: As) (fun U => SW z U ∧ SO z o U ∧ GW z ad G U.heap)) As := by
    obtain ⟨L, g, hP, hD, hG, hI⟩ := id hW
    obtain ⟨ha, hf⟩ := hG _ _ _ hk
    rw [hA a] at ha hf
    obtain ⟨i, hi⟩ := va_pl_get (X := []) (f := g) ha
    rw [hf] at hi
    exact ⟨mo_blind, va_recv hK hP hc hi, fun U hU hW9 => ⟨rfl, hSW.at hS hU hW9, hSO.at hS hU hW9, by rw [hU]; exact hW⟩⟩
  have hlen : ∀ sig, parseMethodDescriptor y.desc = some sig → n = sig.parameters.length := fun sig h => by
    rw [h] at f7
    exact (Option.some.inj f7).symm
  rcases lk with h | ⟨host, h⟩
  · exact va_runV (Ts := []) ⟨hx, hb, hml, hown, fun _ h => by cases h⟩ hM ⟨⟨hrm.1, hrm.2, hR.1, hR.2, nb_code hT f4 rfl, List.mem_cons_self, hT.use f4 rfl, hT.use f3 rfl, ⟨f5, f6⟩, hlen, hT.use h rfl⟩, hT.use f1 rfl, hT.use f2 rfl⟩ hp rfl hn hsz rfl (lv_room hst) hdg hf
  · exact va_runVN (Ts := []) (host := host) ⟨hx, hb, hml, hown, fun _ h => by cases h⟩ hM ⟨⟨⟨hrm.1, hrm.2, hR.1, hR.2, nb_code hT f4 rfl, List.mem_cons_self⟩, hT.use f4 rfl, hT.use f3 rfl, ⟨f5, f6⟩, hlen, hT.use h rfl⟩, hT.use f1 rfl, hT.use f2 rfl⟩ hp rfl hn hsz rfl (lv_room hst) hdg hf
theorem nb_runSo (hx : p.tables.exec = Jvm.exec) (hb : c.code = cc) (hml : c.maxLocals = nL) (hown : s.vm.findClass own = some m.cls) (hSW : SW z s) (hSO : SO z o s) (hS : va_S (zA z) s.heap H locs) (hW : GW z ad G H) (hM : MO l z o y cy nLy ret rm mc ms As ad G Qc) (f : MFs y cy nLy ret n) (lk : Cond.methodLink own idx y ∈ lw_tbl)
    (hn : As.length = n) (hrm : rm.cells = mc ∧ rm.slots = ms) (hR : rm.frames + 1 ≤ R.frames ∧ 8 + (nLy + 11) + rm.locals ≤ R.locals) (hsz : ls.size = nL) (hst : (rest.map fun v => v.category).sum ≤ 8) (hdg : decode cc pc = .ok (.invokestatic idx, 3)) (hf : cells + mc ≤ R.cells ∧ slots + ms ≤ R.slots) :
    va_Run p l e R s m args below meth c H locs cells slots mc ms (F0 m pc ls (As.reverse ++ rest)) rest (Qc As.toArray) (zA z) := by
  obtain ⟨hT, hK, -⟩ := id hSW
  obtain ⟨f1, f3, f4, f5, f6, f7⟩ := f
  have hp : PreS s H (va_Pc As (fun U => SW z U ∧ SO z o U ∧ GW z ad G U.heap)) As := ⟨mo_blind, fun U hU hW9 => ⟨rfl, hSW.at hS hU hW9, hSO.at hS hU hW9, by rw [hU]; exact hW⟩⟩
  have hlen : ∀ sig, parseMethodDescriptor y.desc = some sig → n = sig.parameters.length := fun sig h => by
    rw [h] at f7
    exact (Option.some.inj f7).symm
  exact va_runS (Ts := []) ⟨hx, hb, hml, hown, fun _ h => by cases h⟩ hM ⟨⟨hrm.1, hrm.2, hR.1, hR.2, nb_code hT f4 rfl, List.mem_cons_self, hT.use f4 rfl, hT.use f3 rfl, ⟨f5, f6⟩, hlen, hT.use lk rfl⟩, hT.use f1 rfl⟩ hp rfl hn hsz rfl (lv_room hst) hdg hf
theorem nb_runIo (hx : p.tables.exec = Jvm.exec) (hb : c.code = cc) (hml : c.maxLocals = nL) (hown : s.vm.findClass own = some m.cls) (hSW : SW z s) (hSO : SO z o s) (hS : va_S (zA z) s.heap H locs) (hW : GW z ad G H) (hM : MO l z o y cy nLy none rm mc ms (.ref b :: As) ad G Qc) (f : MFi y cy nLy n) (lk : LK own idx y)
    (hn : As.length = n) (hrm : rm.cells = mc ∧ rm.slots = ms) (hR : rm.frames + 1 ≤ R.frames ∧ 8 + (nLy + 11) + rm.locals ≤ R.locals) (hsz : ls.size = nL) (hst : (rest.map fun v => v.category).sum ≤ 8) (hdg : decode cc pc = .ok (.invokespecial idx, 3)) (hf : cells + mc ≤ R.cells ∧ slots + ms ≤ R.slots) :
    va_Run p l e R s m args below meth c H locs cells slots mc ms (F0 m pc ls (As.reverse ++ .ref b :: rest)) rest (Qc (.ref b :: As).toArray) (zA z) := by
  obtain ⟨hT, hK, -⟩ := id hSW
  obtain ⟨f1, f3, f4, f5, f6, f7, f8⟩ := f
  have hp : PreS s H (va_Pc (.ref b :: As) (fun U => SW z U ∧ SO z o U ∧ GW z ad G U.heap)) (.ref b :: As) := ⟨mo_blind, fun U hU hW9 => ⟨rfl, hSW.at hS hU hW9, hSO.at hS hU hW9, by rw [hU]; exact hW⟩⟩
  have hlen : ∀ sig, parseMethodDescriptor y.desc = some sig → n = sig.parameters.length := fun sig h => by
    rw [h] at f7
    exact (Option.some.inj f7).symm
  rcases lk with h | ⟨host, h⟩
  · exact va_runI (Ts := []) ⟨hx, hb, hml, hown, fun _ h => by cases h⟩ hM ⟨⟨hrm.1, hrm.2, hR.1, hR.2, nb_code hT f4 rfl, List.mem_cons_self, hT.use f4 rfl, hT.use f3 rfl, ⟨f5, f6⟩, hlen, hT.use h rfl⟩, f8, hT.use f1 rfl⟩ hp rfl hn hsz rfl (lv_room hst) hdg hf
  · exact va_runIN (Ts := []) (host := host) ⟨hx, hb, hml, hown, fun _ h => by cases h⟩ hM ⟨⟨⟨hrm.1, hrm.2, hR.1, hR.2, nb_code hT f4 rfl, List.mem_cons_self⟩, hT.use f4 rfl, hT.use f3 rfl, ⟨f5, f6⟩, hlen, hT.use h rfl⟩, f8, hT.use f1 rfl⟩ hp rfl hn hsz rfl (lv_room hst) hdg hf
/-- a thing into a row of a wider type -/
theorem nb_aastM {kd k v : Nat} (hx : p.tables.exec = Jvm.exec) (hb : c.code = cc) (hK : va_K z.1 kCl tys s) (hW : GW z ad G H) (hS : va_S (zA z) H0 H locs) (t0 : Nat) {E : String} {cA : ClassId} {n : Nat} {f : Nat → Option Nat} (hk : G kd k = some (.inl (cA, n, .inr (.inr (.inr (.inr f)))))) (ht : tys[t0]? = some (cA, .object E)) (hr : va_Any E s H v) {i : Int32} (hin : vp_in i n) (hdg : decode cc pc = .ok (.aastore, 1))
    (kk : ∀ (H1 : Heap) (locs1 : List Loc), GW z ad (up2 G kd k (.inl (cA, n, .inr (.inr (.inr (.inr (va_up f i.toNatClampNeg (some v)))))))) H1 → va_S (zA z) H0 H1 locs1 → W p l e R s m args below meth c H1 locs1 cells slots Q (F0 m (pc + 1) ls rest)) : W p l e R s m args below meth c H locs cells slots Q (F0 m pc ls (.ref v :: .int i :: .ref (ad kd k) :: rest)) := by
  obtain ⟨L, g, hP, hD, hG, hI⟩ := hW
  obtain ⟨ha, hf⟩ := hG _ _ _ hk
  obtain ⟨i0, hi⟩ := va_pl_get (X := []) (f := g) ha
  exact va_astqM (D := z.1) (cA := cA) (n := n) (f := f) hx hb hK hP hD hS i0 t0 (by rw [hi, hf]) ht hr hin hdg (fun H1 locs1 hP1 hD1 hS1 => kk H1 locs1 (gw_up hD hG hI hk hi hP1) hS1)
theorem nb_aastMr {v : Nat} (hA : Raw ad) (hx : p.tables.exec = Jvm.exec) (hb : c.code = cc) (hK : va_K z.1 kCl tys s) (hW : GW z ad G H) (hS : va_S (zA z) H0 H locs) (t0 : Nat) {E : String} {cA : ClassId} {n : Nat} {f : Nat → Option Nat} (hk : G 99 a = some (.inl (cA, n, .inr (.inr (.inr (.inr f)))))) (ht : tys[t0]? = some (cA, .object E)) (hr : va_Any E s H v) {i : Int32} (hin : vp_in i n) (hdg : decode cc pc = .ok (.aastore, 1))
    (kk : ∀ (H1 : Heap) (locs1 : List Loc) (G' : Gt), Ext G G' a → G' 99 a = some (.inl (cA, n, .inr (.inr (.inr (.inr (va_up f i.toNatClampNeg (some v))))))) → GW z ad G' H1 → va_S (zA z) H0 H1 locs1 → W p l e R s m args below meth c H1 locs1 cells slots Q (F0 m (pc + 1) ls rest)) : W p l e R s m args below meth c H locs cells slots Q (F0 m pc ls (.ref v :: .int i :: .ref a :: rest)) := by
  have h := nb_aastM (ad := ad) (kd := 99) (k := a) (rest := rest) hx hb hK hW hS t0 hk ht hr hin hdg (fun H1 locs1 hW1 hS1 => kk H1 locs1 _ up_ext up2_self hW1 hS1)
  rw [hA a] at h
  exact h
/-- a row of ints into a row of rows -/
theorem nb_aastA {kd k kv k2 : Nat} (hx : p.tables.exec = Jvm.exec) (hb : c.code = cc) (hT : TB s) (hK : va_K z.1 kCl (ztys z) s) (hW : GW z ad G H) (hS : va_S (zA z) H0 H locs) (hover : Cond.arrayOver (.array .int) ∈ lw_tbl) {n n2 : Nat} {f : Nat → Option Nat} {f2 : Nat → Int32} (hk : G kd k = some (.inl (z.2.2 1, n, .inr (.inr (.inr (.inr f)))))) (hv : G kv k2 = some (.inl (z.2.2 0, n2, .inl f2))) {i : Int32} (hin : vp_in i n) (hdg : decode cc pc = .ok (.aastore, 1))
    (kk : ∀ (H1 : Heap) (locs1 : List Loc), GW z ad (up2 G kd k (.inl (z.2.2 1, n, .inr (.inr (.inr (.inr (va_up f i.toNatClampNeg (some (ad kv k2))))))))) H1 → va_S (zA z) H0 H1 locs1 → W p l e R s m args below meth c H1 locs1 cells slots Q (F0 m (pc + 1) ls rest)) : W p l e R s m args below meth c H locs cells slots Q (F0 m pc ls (.ref (ad kv k2) :: .int i :: .ref (ad kd k) :: rest)) := by
  obtain ⟨L, g, hP, hD, hG, hI⟩ := hW
  obtain ⟨ha, hf⟩ := hG _ _ _ hk
  obtain ⟨ha2, hf2⟩ := hG _ _ _ hv
  obtain ⟨i0, hi⟩ := va_pl_get (X := []) (f := g) ha
  obtain ⟨i2, hi2⟩ := va_pl_get (X := []) (f := g) ha2
  have hlt : i.toNatClampNeg < n := Nat.not_le.mp fun q => hin (Or.inr q)
  have h0 : ¬ i < 0 := fun q => hin (Or.inl q)
  obtain ⟨comp, c9, k9, o1, -, o3, o4, o5⟩ := arrayOverA_spec (t := .int) (hT.use (A := args) hover rfl)
  have e1 : s.vm.findClass (FieldType.array .int).toString = some (z.2.2 0) := (hK.2 0 _ rfl).2
  obtain rfl : comp = z.2.2 0 := Option.some.inj (o1.symm.trans e1)
  have e2 : s.vm.findClass ("[" ++ (FieldType.array .int).toString) = some (z.2.2 1) := (hK.2 1 _ rfl).2
  obtain rfl : c9 = z.2.2 1 := Option.some.inj (o5.symm.trans e2)
  obtain ⟨kE, hkE, -⟩ := Vm.findClass_spec o1
  have hPa : H[ad kd k]? = some (vp_cell (z.2.2 1) (n, .inr (.inr (.inr (.inr f))))) := hP i0 (ad kd k, .inl (z.2.2 1, n, .inr (.inr (.inr (.inr f))))) (by rw [hi, hf])
  have hPb : H[ad kv k2]? = some (vp_cell (z.2.2 0) (n2, .inl f2)) := hP i2 (ad kv k2, .inl (z.2.2 0, n2, .inl f2)) (by rw [hi2, hf2])
  refine W.aast hx hb hPa (fun q h => by cases h) (fun h => by cases h) o3 o4 rfl hkE ⟨h0, by show _ < (arrV _ _ _).slots.size; rw [arrV_size]; exact hlt⟩ hPb (fun q h => by cases h) hkE (va_asg _ _) rfl rfl hdg fun H1 e z1 oq => ?_
  refine kk H1 _ (gw_up hD hG hI hk hi (hP.set hD (by rw [hi, hf]) ?_ oq)) (hS.put z1 oq (hD.2 i0 _ hi))
  show H1[ad kd k]? = some (vp_cell _ _)
  rw [e]
  rw [vp_cell_q, vp_cell_q, arrV_store]
  congr 2
  funext q
  by_cases hq : q = i.toNatClampNeg
  · subst hq
    simp [updV, va_up, va_rf]
  · simp [updV, va_up, hq]
theorem nb_aastAr (hA : Raw ad) (hx : p.tables.exec = Jvm.exec) (hb : c.code = cc) (hT : TB s) (hK : va_K z.1 kCl (ztys z) s) (hW : GW z ad G H) (hS : va_S (zA z) H0 H locs) (hover : Cond.arrayOver (.array .int) ∈ lw_tbl) {n n2 : Nat} {f : Nat → Option Nat} {f2 : Nat → Int32} (hk : G 99 a = some (.inl (z.2.2 1, n, .inr (.inr (.inr (.inr f)))))) (hv : G 99 b = some (.inl (z.2.2 0, n2, .inl f2))) {i : Int32} (hin : vp_in i n) (hdg : decode cc pc = .ok (.aastore, 1))
    (kk : ∀ (H1 : Heap) (locs1 : List Loc) (G' : Gt), Ext G G' a → G' 99 a = some (.inl (z.2.2 1, n, .inr (.inr (.inr (.inr (va_up f i.toNatClampNeg (some b))))))) → GW z ad G' H1 → va_S (zA z) H0 H1 locs1 → W p l e R s m args below meth c H1 locs1 cells slots Q (F0 m (pc + 1) ls rest)) : W p l e R s m args below meth c H locs cells slots Q (F0 m pc ls (.ref b :: .int i :: .ref a :: rest)) := by
  have h := nb_aastA (ad := ad) (kd := 99) (k := a) (kv := 99) (k2 := b) (rest := rest) hx hb hT hK hW hS hover hk hv hin hdg (fun H1 locs1 hW1 hS1 => kk H1 locs1 _ up_ext (by rw [hA b]; exact up2_self) hW1 hS1)
  rw [hA a, hA b] at h
  exact h
/-- new boolean[n] -/
theorem nb_newz (hx : p.tables.exec = Jvm.exec) (hb : c.code = cc) (hSW : SW z s) (hA : Raw ad) (hW : GW z ad G H) (hS : va_S (zA z) s.heap H locs) (harr : Cond.arrayClass .boolean ∈ lw_tbl) {n : Int32} {N' : Nat} (hn : ¬ n < 0) (hN : n.toNatClampNeg = N') (hbytes : N' * componentBytes .boolean ≤ 536870912) (hR : cells + 1 ≤ R.cells ∧ slots + N' ≤ R.slots) (hdg : decode cc pc = .ok (.newarray .boolean, 2))
    (kk : ∀ (q : Nat) (H1 : Heap) (G' : Gt), G 99 q = none → Ext0 G G' → G' 99 q = some (.inl (z.2.2 7, N', .inl (fun _ => 0))) → GW z ad G' H1 → va_S (zA z) s.heap H1 locs → W p l e R s m args below meth c H1 locs (cells + 1) (slots + N') Q (F0 m (pc + 2) ls (.ref q :: rest))) : W p l e R s m args below meth c H locs cells slots Q (F0 m pc ls (.int n :: rest)) := by
  obtain ⟨hT, hK, -, hB⟩ := hSW
  obtain ⟨L, g, hP, hD, hG, hI⟩ := hW
  refine va_newa (D := z.1) (atype := .boolean) (ty := .boolean) (a0 := (N', .inl (fun _ => 0))) hx hb (hT.use harr rfl) rfl hK hP hD hS (fun q h => Nat.le_trans hB h) (fun cA => rfl) hn hN hbytes hR.1 hR.2 hdg (fun q cA H1 hK1 hP1 hD1 hS1 => ?_)
  obtain rfl := same_cls (t0 := 7) hK rfl hK1
  obtain ⟨k1, k2, k3⟩ := gw_raw hA hG hI hP1 hD1
  exact kk q H1 _ k1 k2 up2_self k3 hS1
theorem nb_newl (hx : p.tables.exec = Jvm.exec) (hb : c.code = cc) (hSW : SW z s) (hA : Raw ad) (hW : GW z ad G H) (hS : va_S (zA z) s.heap H locs) (harr : Cond.arrayClass .long ∈ lw_tbl) {n : Int32} {N' : Nat} (hn : ¬ n < 0) (hN : n.toNatClampNeg = N') (hbytes : N' * componentBytes .long ≤ 536870912) (hR : cells + 1 ≤ R.cells ∧ slots + N' ≤ R.slots) (hdg : decode cc pc = .ok (.newarray .long, 2))
    (kk : ∀ (q : Nat) (H1 : Heap) (G' : Gt), G 99 q = none → Ext0 G G' → G' 99 q = some (.inl (z.2.2 5, N', .inr (.inl (fun _ => 0)))) → GW z ad G' H1 → va_S (zA z) s.heap H1 locs → W p l e R s m args below meth c H1 locs (cells + 1) (slots + N') Q (F0 m (pc + 2) ls (.ref q :: rest))) : W p l e R s m args below meth c H locs cells slots Q (F0 m pc ls (.int n :: rest)) := by
  obtain ⟨hT, hK, -, hB⟩ := hSW
  obtain ⟨L, g, hP, hD, hG, hI⟩ := hW
  refine va_newa (D := z.1) (atype := .long) (ty := .long) (a0 := (N', .inr (.inl (fun _ => 0)))) hx hb (hT.use harr rfl) rfl hK hP hD hS (fun q h => Nat.le_trans hB h) (fun cA => rfl) hn hN hbytes hR.1 hR.2 hdg (fun q cA H1 hK1 hP1 hD1 hS1 => ?_)
  obtain rfl := same_cls (t0 := 5) hK rfl hK1
  obtain ⟨k1, k2, k3⟩ := gw_raw hA hG hI hP1 hD1
  exact kk q H1 _ k1 k2 up2_self k3 hS1
/-- a thing of ours, or a box of the cache: it may go into a list -/
def BX (o : Ot) (G : Gt) (b : Nat) : Prop := (∃ (ci : Nat) (vs : List Value) (r : vw_C), G 99 b = some (.inr (ci, vs)) ∧ ci ≠ 9 ∧ kCl[ci]? = some r ∧ Cond.castable r.1 "java/lang/Object" ∈ lw_tbl) ∨ ∃ k, k < 256 ∧ b = o.2.1 k
theorem BX.ext {G' : Gt} {fs : List Value} (h : BX o G b) (hE : Ext G G' a) (ha : G 99 a = some (.inr (9, fs))) : BX o G' b := by
  rcases h with ⟨ci, vs, r, h1, h2, h3⟩ | h
  · exact Or.inl ⟨ci, vs, r, hE.ne (cell_ne h1 ha (inr_ne h2)) h1, h2, h3⟩
  · exact Or.inr h
theorem BX.ext0 {G' : Gt} (h : BX o G b) (hE : Ext0 G G') : BX o G' b := by
  rcases h with ⟨ci, vs, r, h1, h2⟩ | h
  · exact Or.inl ⟨ci, vs, r, hE _ _ _ h1, h2⟩
  · exact Or.inr h
theorem BX.any (h : BX o G b) (hA : Raw ad) (hSW : SW z s) (hSO : SO z o s) (hS : va_S (zA z) s.heap H locs) (hW : GW z ad G H) : va_Any "java/lang/Object" s H b := by
  obtain ⟨hT, hK, -⟩ := hSW
  rcases h with ⟨ci, vs, r, h1, -, h3, h4⟩ | ⟨k, hk, rfl⟩
  · obtain ⟨L, g, hP, hD, hG, hI⟩ := hW
    obtain ⟨ha, hf⟩ := hG _ _ _ h1
    rw [hA b] at ha hf
    obtain ⟨i, hi⟩ := va_pl_get (X := []) (f := g) ha
    exact va_rAny hK hP (by rw [hi, hf]) h3 (vb_asgC (va_Nw.of rfl (hT.use (A := (#[] : Array Value)) h4 rfl)))
  · obtain ⟨cell, g1, g2, g3⟩ := va_Orecv (hSO.2.2.2.2.2.1 k hk) hS
    obtain ⟨kC, hkC, -⟩ := Vm.findClass_spec g3
    exact ⟨cell, g1, g2, ⟨kC, hkC⟩, fun comp h => vb_asgC (va_Nw.of rfl (hT.use (A := (#[] : Array Value)) (List.mem_of_getElem? (i := 1669) (by decide +kernel)) rfl)) comp _ h g3⟩
end RO
