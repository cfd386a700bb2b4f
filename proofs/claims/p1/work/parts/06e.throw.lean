/-! 06e: what is thrown -/
def THR (own cls : String) (names : List String) (ik ic : Nat) : Prop := Bundle.fit cls = true ∧ (∀ n ∈ names, Bundle.fit n = true) ∧ Cond.classLink own ik cls ∈ lw_tbl ∧ Cond.initialized cls ∈ lw_tbl ∧ ((vx_atS own ic cls names).all (fun w => tbGood w && vx_ot w && decide (w ∈ lw_tbl))) = true
/-- the end by an exception of the class E9 -/
abbrev XX (z : Zt) (ad : Ad) (G : Gt) (E9 : String) : String → State → State → Prop := vx_X (S := Unit) (fun _ => True) (fun E _ t => E = E9 ∧ GW z ad G t.heap) (zA z)
abbrev QiF (z : Zt) : Array Value → State → Outcome → State → Prop := va_Qi (S := Unit) (fun _ _ => False) (fun _ _ => True) (zA z)
abbrev QlF (z : Zt) : Array Value → State → Outcome → State → Prop := va_Ql (S := Unit) (fun _ _ => False) (fun _ _ => True) (zA z)
abbrev QvF (z : Zt) : Array Value → State → Outcome → State → Prop := va_Qv (S := Unit) (fun _ => False) (fun _ _ => True) (zA z)
/-- a method that throws E9, from the world G at ad to G9 -/
abbrev MX (l : Launch) (z : Zt) (y : MethodName) (cy : ByteArray) (nL : Nat) (ret : Option FieldType) (rm : Room) (As : List Value) (ad : Ad) (G : Gt) (Qc : Array Value → State → Outcome → State → Prop) (G9 : Gt) (E9 : String) : Prop :=
  vx_Met l y [Cond.code y cy nL ret] rm (va_Pc As (fun U => SW z U ∧ GW z ad G U.heap)) Qc (XX z ad G9 E9) 1 6 (zA z)
section NX
variable {p : Program} {l : Launch} {e : Env} {R : Room} {s : State} {m : MethodId} {args : Array Value} {below : List Frame} {meth : Method} {c : Code} {H : Heap} {locs : List Loc} {cells slots : Nat} {Q : State → Prop}
variable {cc : ByteArray} {pc : Nat} {ls : Array Slot} {rest st0 : List Value} {z : Zt} {ad ad' : Ad} {G G' G9 : Gt} {own : String} {idx nL nLy n kd k : Nat} {y : MethodName} {cy : ByteArray} {ret : Option FieldType} {rm : Room} {As : List Value} {Qc : Array Value → State → Outcome → State → Prop} {a : Array Value} {E9 : String}
theorem thr_x (hW : GW z ad G H) (hS : va_S (zA z) s.heap H locs) {cls : String} : ∀ t : State, s.vm.Alike t.vm → H.size ≤ t.heap.size → (∀ q : Nat, q < H.size → t.heap[q]? = H[q]?) → XX z ad G cls cls s t := fun t _ h1 h2 =>
  ⟨(), trivial, ⟨rfl, gw_kept hW h2⟩, Nat.le_trans hS.1 h1, fun q hq hn => by rw [h2 q (Nat.lt_of_lt_of_le hq hS.1)]; exact hS.2.1 q hq hn⟩
theorem nb_throwS {cls text : String} {names : List String} {ik is ic : Nat} (hx : p.tables.exec = Jvm.exec) (hb : c.code = cc) (hfl : l.stackTraces = false) (hSW : SW z s) (hown : s.vm.findClass own = some m.cls) (f : THR own cls names ik ic) (hstr : (own, is, text) ∈ kStr) (hW : GW z ad G H) (hS : va_S (zA z) s.heap H locs) (hml : c.maxLocals = nL) (hsz : ls.size = nL)
    (d0 : decode cc pc = .ok (.new ik, 3)) (d3 : decode cc (pc + 3) = .ok (.dup, 1)) (d4 : decode cc (pc + 4) = .ok (.ldc is, 2)) (d6 : decode cc (pc + 6) = .ok (.invokespecial ic, 3)) (d9 : decode cc (pc + 9) = .ok (.athrow, 1)) (hout : ∀ x ∈ c.exceptionTable.toList, covers x (pc + 9) = false)
    (hR : names.length + 3 < R.frames ∧ (rest.map fun v => v.category).sum + (13 * (names.length + 1) + 43) ≤ R.locals ∧ cells + 1 ≤ R.cells ∧ slots + 6 ≤ R.slots) (hlocks : meth.locks = false) (hcs : cells = 0 ∧ slots = 0) : W p l e R s m args below meth c H locs cells slots (vx_MQ below Qc (XX z ad G cls) args s 1 6 (zA z)) (F0 m pc ls rest) := by
  obtain ⟨hT, hK, hST, hB⟩ := hSW
  obtain ⟨f1, f2, f3, f4, f5⟩ := f
  obtain ⟨sa, hsa⟩ := hST.2.2.1 _ hstr
  have f6 : ∀ w ∈ vx_atS own ic cls names, tbGood w = true ∧ vx_ot w = true ∧ w ∈ lw_tbl := fun w hw => by
    have h := List.all_eq_true.mp f5 w hw
    simp only [Bool.and_eq_true, decide_eq_true_eq] at h
    exact ⟨h.1.1, h.1.2, h.2⟩
  exact vx_throwS (sa := sa) hx hb hfl hown f1 f2 (hT.use f3 rfl) (hT.use f4 rfl) hsa (fun w hw => hT.use (f6 w hw).2.2 (f6 w hw).1) (fun w hw => by
    rcases List.mem_cons.mp hw with rfl | hw
    · rfl
    · rcases List.mem_cons.mp hw with rfl | hw
      · rfl
      · exact (f6 w hw).2.1) hST.1 hST.2.1 hS (by rw [hml]; exact hsz) d0 d3 d4 d6 d9 hout hR.1 hR.2.1 hR.2.2.1 hR.2.2.2 hlocks (thr_x hW hS) hS.2.2 (by rw [hcs.1]; exact Nat.le_refl _) (by rw [hcs.2]; exact Nat.le_refl _)
theorem nb_throwSW {cls text : String} {names : List String} {ik is ic : Nat} (hx : p.tables.exec = Jvm.exec) (hb : c.code = cc) (hfl : l.stackTraces = false) (hSW : SW z s) (hown : s.vm.findClass own = some m.cls) (f : THR own cls names ik ic) (hstr : (own, is, text) ∈ kStr) (hW : GW z ad G H) (hS : va_S (zA z) s.heap H locs) (hml : c.maxLocals = nL) (hsz : ls.size = nL)
    (d0 : decode cc pc = .ok (.new ik, 3)) (d3 : decode cc (pc + 3) = .ok (.dup, 1)) (d4 : decode cc (pc + 4) = .ok (.ldc_w is, 3)) (d6 : decode cc (pc + 7) = .ok (.invokespecial ic, 3)) (d9 : decode cc (pc + 10) = .ok (.athrow, 1)) (hout : ∀ x ∈ c.exceptionTable.toList, covers x (pc + 10) = false)
    (hR : names.length + 3 < R.frames ∧ (rest.map fun v => v.category).sum + (13 * (names.length + 1) + 43) ≤ R.locals ∧ cells + 1 ≤ R.cells ∧ slots + 6 ≤ R.slots) (hlocks : meth.locks = false) (hcs : cells = 0 ∧ slots = 0) : W p l e R s m args below meth c H locs cells slots (vx_MQ below Qc (XX z ad G cls) args s 1 6 (zA z)) (F0 m pc ls rest) := by
  obtain ⟨hT, hK, hST, hB⟩ := hSW
  obtain ⟨f1, f2, f3, f4, f5⟩ := f
  obtain ⟨sa, hsa⟩ := hST.2.2.1 _ hstr
  have f6 : ∀ w ∈ vx_atS own ic cls names, tbGood w = true ∧ vx_ot w = true ∧ w ∈ lw_tbl := fun w hw => by
    have h := List.all_eq_true.mp f5 w hw
    simp only [Bool.and_eq_true, decide_eq_true_eq] at h
    exact ⟨h.1.1, h.1.2, h.2⟩
  exact vx_throwSW (sa := sa) hx hb hfl hown f1 f2 (hT.use f3 rfl) (hT.use f4 rfl) hsa (fun w hw => hT.use (f6 w hw).2.2 (f6 w hw).1) (fun w hw => by
    rcases List.mem_cons.mp hw with rfl | hw
    · rfl
    · rcases List.mem_cons.mp hw with rfl | hw
      · rfl
      · exact (f6 w hw).2.1) hST.1 hST.2.1 hS (by rw [hml]; exact hsz) d0 d3 d4 d6 d9 hout hR.1 hR.2.1 hR.2.2.1 hR.2.2.2 hlocks (thr_x hW hS) hS.2.2 (by rw [hcs.1]; exact Nat.le_refl _) (by rw [hcs.2]; exact Nat.le_refl _)
theorem nx_runV (hx : p.tables.exec = Jvm.exec) (hb : c.code = cc) (hml : c.maxLocals = nL) (hown : s.vm.findClass own = some m.cls) (hSW : SW z s) (hS : va_S (zA z) s.heap H locs) (hW : GW z ad G H) (hM : MX l z y cy nLy ret rm (.ref (ad kd k) :: As) ad G Qc G9 E9) (f : MFv y cy nLy ret n) (lk : Cond.methodLink own idx y ∈ lw_tbl) {ci : Nat} {fs : List Value} {T : u_T} {N : Nat} (hk : G kd k = some (.inr (ci, fs))) (hc : kCl[ci]? = some (y.cls, T, N))
    (hn : As.length = n) (hrm : rm.cells = 1 ∧ rm.slots = 6) (hR : rm.frames + 1 ≤ R.frames ∧ 8 + (nLy + 11) + rm.locals ≤ R.locals) (hsz : ls.size = nL) (hst : (rest.map fun v => v.category).sum ≤ 8) (hdg : decode cc pc = .ok (.invokevirtual idx, 3)) (hf : cells + 1 ≤ R.cells ∧ slots + 6 ≤ R.slots) :
    vx_Run p l e R s m args below meth c H locs cells slots 1 6 (F0 m pc ls (As.reverse ++ .ref (ad kd k) :: rest)) rest (Qc (.ref (ad kd k) :: As).toArray) (XX z ad G9 E9) (zA z) := by
  obtain ⟨hT, hK, -⟩ := id hSW
  obtain ⟨f1, f2, f3, f4, f5, f6, f7⟩ := f
  have hp : PreV s H y.cls (ad kd k) (va_Pc (.ref (ad kd k) :: As) (fun U => SW z U ∧ GW z ad G U.heap)) As := by
    obtain ⟨L, g, hP, hD, hG, hI⟩ := id hW
    obtain ⟨ha, hf⟩ := hG _ _ _ hk
    obtain ⟨i, hi⟩ := va_pl_get (X := []) (f := g) ha
    rw [hf] at hi
    exact ⟨mc_blind, va_recv hK hP hc hi, fun U hU hW9 => ⟨rfl, hSW.at hS hU hW9, by rw [hU]; exact hW⟩⟩
  have hlen : ∀ sig, parseMethodDescriptor y.desc = some sig → n = sig.parameters.length := fun sig h => by
    rw [h] at f7
    exact (Option.some.inj f7).symm
  exact vx_runV (Ts := []) ⟨hx, hb, hml, hown, fun _ h => by cases h⟩ hM ⟨⟨hrm.1, hrm.2, hR.1, hR.2, nb_code hT f4 rfl, List.mem_cons_self, hT.use f4 rfl, hT.use f3 rfl, ⟨f5, f6⟩, hlen, hT.use lk rfl⟩, hT.use f1 rfl, hT.use f2 rfl⟩ hp rfl hn hsz rfl (lv_room hst) hdg hf
theorem nx_runS (hx : p.tables.exec = Jvm.exec) (hb : c.code = cc) (hml : c.maxLocals = nL) (hown : s.vm.findClass own = some m.cls) (hSW : SW z s) (hS : va_S (zA z) s.heap H locs) (hW : GW z ad G H) (hM : MX l z y cy nLy ret rm As ad G Qc G9 E9) (f : MFs y cy nLy ret n) (lk : Cond.methodLink own idx y ∈ lw_tbl)
    (hn : As.length = n) (hrm : rm.cells = 1 ∧ rm.slots = 6) (hR : rm.frames + 1 ≤ R.frames ∧ 8 + (nLy + 11) + rm.locals ≤ R.locals) (hsz : ls.size = nL) (hst : (rest.map fun v => v.category).sum ≤ 8) (hdg : decode cc pc = .ok (.invokestatic idx, 3)) (hf : cells + 1 ≤ R.cells ∧ slots + 6 ≤ R.slots) :
    vx_Run p l e R s m args below meth c H locs cells slots 1 6 (F0 m pc ls (As.reverse ++ rest)) rest (Qc As.toArray) (XX z ad G9 E9) (zA z) := by
  obtain ⟨hT, hK, -⟩ := id hSW
  obtain ⟨f1, f3, f4, f5, f6, f7⟩ := f
  have hp : PreS s H (va_Pc As (fun U => SW z U ∧ GW z ad G U.heap)) As := ⟨mc_blind, fun U hU hW9 => ⟨rfl, hSW.at hS hU hW9, by rw [hU]; exact hW⟩⟩
  have hlen : ∀ sig, parseMethodDescriptor y.desc = some sig → n = sig.parameters.length := fun sig h => by
    rw [h] at f7
    exact (Option.some.inj f7).symm
  exact vx_runS (Ts := []) ⟨hx, hb, hml, hown, fun _ h => by cases h⟩ hM ⟨⟨hrm.1, hrm.2, hR.1, hR.2, nb_code hT f4 rfl, List.mem_cons_self, hT.use f4 rfl, hT.use f3 rfl, ⟨f5, f6⟩, hlen, hT.use lk rfl⟩, hT.use f1 rfl⟩ hp rfl hn hsz rfl (lv_room hst) hdg hf
/-- a call that throws: on to what is done with it -/
theorem nx_ci (hr : vx_Run p l e R s m args below meth c H locs cells slots 1 6 (F0 m pc ls st0) rest (QiF z a) (XX z ad G9 E9) (zA z)) (hS : va_S (zA z) s.heap H locs)
    (kx : ∀ (ce : Cell) (q9 : Addr) (H1 : Heap) (locs1 : List Loc), H1[q9]? = some ce → ce.vm = .none → s.vm.findClass E9 = some ce.cls → GW z ad G9 H1 → va_S (zA z) s.heap H1 locs1 → vx_W p l e R s m args below meth c H1 locs1 (cells + 1) (slots + 6) Q (F0 m pc ls rest) q9) : W p l e R s m args below meth c H locs cells slots Q (F0 m pc ls st0) := by
  refine vx_calli hr hS (fun _ _ h => h) (fun _ h => h) (fun _ _ h => h) ?_ ?_
  · intro E ce q9 u t H1 locs1 ht _ _ hB _ _ hS1 hc hv hcl
    obtain ⟨rfl, hW⟩ := hB
    rw [ht] at hW
    exact kx ce q9 H1 locs1 hc hv hcl hW hS1
  · intro r u t H1 locs1 _ _ hp
    exact hp.elim
theorem nx_cl (hr : vx_Run p l e R s m args below meth c H locs cells slots 1 6 (F0 m pc ls st0) rest (QlF z a) (XX z ad G9 E9) (zA z)) (hS : va_S (zA z) s.heap H locs)
    (kx : ∀ (ce : Cell) (q9 : Addr) (H1 : Heap) (locs1 : List Loc), H1[q9]? = some ce → ce.vm = .none → s.vm.findClass E9 = some ce.cls → GW z ad G9 H1 → va_S (zA z) s.heap H1 locs1 → vx_W p l e R s m args below meth c H1 locs1 (cells + 1) (slots + 6) Q (F0 m pc ls rest) q9) : W p l e R s m args below meth c H locs cells slots Q (F0 m pc ls st0) := by
  refine vx_calll hr hS (fun _ _ h => h) (fun _ h => h) (fun _ _ h => h) ?_ ?_
  · intro E ce q9 u t H1 locs1 ht _ _ hB _ _ hS1 hc hv hcl
    obtain ⟨rfl, hW⟩ := hB
    rw [ht] at hW
    exact kx ce q9 H1 locs1 hc hv hcl hW hS1
  · intro r u t H1 locs1 _ _ hp
    exact hp.elim
theorem nx_cv (hr : vx_Run p l e R s m args below meth c H locs cells slots 1 6 (F0 m pc ls st0) rest (QvF z a) (XX z ad G9 E9) (zA z)) (hS : va_S (zA z) s.heap H locs)
    (kx : ∀ (ce : Cell) (q9 : Addr) (H1 : Heap) (locs1 : List Loc), H1[q9]? = some ce → ce.vm = .none → s.vm.findClass E9 = some ce.cls → GW z ad G9 H1 → va_S (zA z) s.heap H1 locs1 → vx_W p l e R s m args below meth c H1 locs1 (cells + 1) (slots + 6) Q (F0 m pc ls rest) q9) : W p l e R s m args below meth c H locs cells slots Q (F0 m pc ls st0) := by
  refine vx_callv hr hS (fun _ _ h => h) (fun _ h => h) (fun _ _ h => h) ?_ ?_
  · intro E ce q9 u t H1 locs1 ht _ _ hB _ _ hS1 hc hv hcl
    obtain ⟨rfl, hW⟩ := hB
    rw [ht] at hW
    exact kx ce q9 H1 locs1 hc hv hcl hW hS1
  · intro u t H1 locs1 _ _ hp
    exact hp.elim
/-- not caught here -/
theorem nx_out {E : String} {ce : Cell} {q9 : Addr} (hout : ∀ x ∈ c.exceptionTable.toList, covers x pc = false) (hlocks : meth.locks = false) (hc : H[q9]? = some ce) (hv : ce.vm = .none) (hcl : s.vm.findClass E = some ce.cls) (hW : GW z ad G H) (hS : va_S (zA z) s.heap H locs) (hcs : cells ≤ 1 ∧ slots ≤ 6) : vx_W p l e R s m args below meth c H locs cells slots (vx_MQ below Qc (XX z ad G E) args s 1 6 (zA z)) (F0 m pc ls rest) q9 :=
  vx_out hout hlocks hc hv hcl (fun t ht hal => ⟨(), trivial, ⟨rfl, by rw [ht]; exact hW⟩, hS.F ht⟩) hS.2.2 hcs.1 hcs.2
end NX
