/-- the texts of exceptions; the static arrays -/
def kStr : List (String × Nat × String) := [("Panyard", 468, "a section or family is 0 to 3"), ("Panyard", 85, "there are 6 pans"), ("Panyard", 478, "there is no such pan"), ("Panyard", 480, "the pan is cracked"), ("Panyard", 472, "a phrase is 1 to 9 hard"), ("Panyard", 474, "notes are 1 to 255"), ("Panyard", 136, "there are 8 phrases"), ("Panyard", 482, "there is no such phrase"), ("Panyard", 163, "there are 10 places"), ("Panyard", 486, "there is no such place"), ("Panyard", 177, "a speed is 1 to 9"), ("Panyard", 179, "a reach is 1 to 8"), ("Panyard", 181, "there are 8 players"), ("Panyard", 484, "there is no such player"), ("Panyard", 193, "the pan is of another family"), ("Panyard", 229, "one rehearses for 10 to 120 minutes"), ("Panyard", 234, "all of this day would be more than 120 minutes"), ("Panyard", 266, "the total of a rival is 0 to 400"), ("Panyard", 271, "there are 6 rivals"), ("Panyard", 324, "what is 0 to 4"), ("Panyard", 341, "what is 0 to 6"), ("Panyard", 343, "what is 0 or 1"), ("Panyard", 379, "what is 0 to 13"), ("Panyard", 381, "one looks 0 to 60 days ahead"), ("Panyard", 389, "there are more than 5 places"), ("Panyard", 476, "one teaches for 1 to 60 minutes"), ("Panyard", 470, "a note is 0 to 7"), ("Panyard", 353, "a mark is 0 to 3"), ("Panyard", 368, "a round is 0 to 2"), ("Panyard", 102, "a force is -20 to 20, and not 0"), ("Panyard", 120, "a tuner comes for 10 to 120 minutes"), ("Panyard", 209, "the phrase is of another section"), ("Panyard", 211, "the player is absent"), ("Panyard", 216, "the section has not so many minutes left"), ("Panyard", 290, "it is over"), ("Panyard", 295, "one played in this day"), ("Panyard", 297, "there is no player that sounds, or no place"), ("Panyard", 247, "1 to 30 days go by"), ("Panyard", 249, "sun and rain are 0 to 9")]
def kStat : List (String × String × String × List Int32) := [("Panyard", "PRIZES", "[I", [300, 200, 100]), ("Panyard", "LAST_RANK_TO_GO_ON", "[I", [4, 2])]
def ztys (z : Zt) : List (ClassId × FieldType) := [(z.2.2 0, .int), (z.2.2 1, .array .int), (z.2.2 2, .object "Panyard$Pan"), (z.2.2 3, .object "Panyard$Phrase"), (z.2.2 4, .object "Panyard$Player")]
/-! 06.calls: what holds of the tables and of the cells that stay; calls by keys -/
def ST (z : Zt) (U : State) : Prop := vx_Zq Bundle.tN "UNASSIGNED_STACK" Bundle.steD (zA z) U U.heap ∧ vx_Zq Bundle.tN "SUPPRESSED_SENTINEL" Bundle.listD (zA z) U U.heap ∧ (∀ x ∈ kStr, ∃ sa : Nat, vk_R x.1 x.2.1 x.2.2 sa U) ∧
  ∀ x ∈ kStat, ∃ t : Nat, va_Z x.1 x.2.1 x.2.2.1 (.ref t) (zA z) U U.heap ∧ va_T .int t x.2.2.2.length (fun j => .int (x.2.2.2.getD j 0)) (zA z) U U.heap
def SW (z : Zt) (U : State) : Prop := TB U ∧ va_K z.1 kCl (ztys z) U ∧ ST z U ∧ z.2.1 ≤ U.heap.size
theorem ST.at {z : Zt} {s U : State} {H : Heap} {locs : List Loc} (h : ST z s) (hS : va_S (zA z) s.heap H locs) (hU : U.heap = H) (hW : s.WarmedH U.vm) : ST z U := by
  obtain ⟨h1, h2, h3, h4⟩ := h
  have hq : ∀ a : Nat, a < s.heap.size → ¬ zA z a → U.heap[a]? = s.heap[a]? := fun a ha hn => by rw [hU]; exact hS.2.1 a ha hn
  refine ⟨(h1.kept hq).moved hW.alike, (h2.kept hq).moved hW.alike, fun x hx => ?_, fun x hx => ?_⟩
  · obtain ⟨sa, h⟩ := h3 x hx
    exact ⟨sa, h.warm hW⟩
  · obtain ⟨t, h5, h6⟩ := h4 x hx
    exact ⟨t, (h5.kept hq).moved hW.alike, (h6.kept hq).moved hW.alike⟩
theorem SW.at {z : Zt} {s U : State} {H : Heap} {locs : List Loc} (h : SW z s) (hS : va_S (zA z) s.heap H locs) (hU : U.heap = H) (hW : s.WarmedH U.vm) : SW z U := ⟨h.1.mv hW, va_K.moved hW.alike h.2.1, h.2.2.1.at hS hU hW, Nat.le_trans h.2.2.2 (by rw [hU]; exact hS.1)⟩
theorem SW.blind {z : Zt} {U : State} {g : JFrame} {mk : MethodId} {a : Array Value} (h : SW z U) : SW z (U.calling g mk a) :=
  SW.at (s := U) (U := U.calling g mk a) (H := U.heap) (locs := []) h va_S.rf rfl (State.WarmedH.refl U)
/-- a method's own words -/
def MFv (y : MethodName) (cy : ByteArray) (nL : Nat) (ret : Option FieldType) (n : Nat) : Prop := Cond.instanceMethod y ∈ lw_tbl ∧ Cond.selects y.cls y y ∈ lw_tbl ∧ Cond.initialized y.cls ∈ lw_tbl ∧ Cond.code y cy nL ret ∈ lw_tbl ∧ y.cls ≠ "java/lang/invoke/MethodHandle" ∧ y.cls ≠ "java/lang/invoke/VarHandle" ∧ (parseMethodDescriptor y.desc).map (fun d => d.parameters.length) = some n
def MFs (y : MethodName) (cy : ByteArray) (nL : Nat) (ret : Option FieldType) (n : Nat) : Prop := Cond.static y ∈ lw_tbl ∧ Cond.initialized y.cls ∈ lw_tbl ∧ Cond.code y cy nL ret ∈ lw_tbl ∧ y.cls ≠ "java/lang/invoke/MethodHandle" ∧ y.cls ≠ "java/lang/invoke/VarHandle" ∧ (parseMethodDescriptor y.desc).map (fun d => d.parameters.length) = some n
def MFi (y : MethodName) (cy : ByteArray) (nL : Nat) (n : Nat) : Prop := Cond.instanceMethod y ∈ lw_tbl ∧ Cond.initialized y.cls ∈ lw_tbl ∧ Cond.code y cy nL none ∈ lw_tbl ∧ y.cls ≠ "java/lang/invoke/MethodHandle" ∧ y.cls ≠ "java/lang/invoke/VarHandle" ∧ (parseMethodDescriptor y.desc).map (fun d => d.parameters.length) = some n ∧ y.name = "<init>"
def LK (own : String) (idx : Nat) (y : MethodName) : Prop := Cond.methodLink own idx y ∈ lw_tbl ∨ ∃ host, Cond.methodLinkNest own idx y host ∈ lw_tbl
/-- a method's contract: from a world G at ad -/
abbrev MC (l : Launch) (z : Zt) (y : MethodName) (cy : ByteArray) (nL : Nat) (ret : Option FieldType) (rm : Room) (mc ms : Nat) (As : List Value) (ad : Ad) (G : Gt) (Qc : Array Value → State → Outcome → State → Prop) : Prop :=
  Met l y [Cond.code y cy nL ret] rm (va_Pc As (fun U => SW z U ∧ GW z ad G U.heap)) Qc mc ms (zA z)
abbrev QI (z : Zt) (ad : Ad) (G : Gt) (r : Int32) : Array Value → State → Outcome → State → Prop := va_Qi (S := Unit) (fun r' _ => r' = r) (fun _ t => GW z ad G t.heap) (zA z)
abbrev QL (z : Zt) (ad : Ad) (G : Gt) (r : Int64) : Array Value → State → Outcome → State → Prop := va_Ql (S := Unit) (fun r' _ => r' = r) (fun _ t => GW z ad G t.heap) (zA z)
abbrev QD (z : Zt) (ad : Ad) (G : Gt) (r : UInt64) : Array Value → State → Outcome → State → Prop := va_Qd (S := Unit) (fun r' _ => r' = r) (fun _ t => GW z ad G t.heap) (zA z)
abbrev QV (z : Zt) (ad : Ad) (G : Gt) : Array Value → State → Outcome → State → Prop := va_Qv (S := Unit) (fun _ => True) (fun _ t => GW z ad G t.heap) (zA z)
abbrev QQ (z : Zt) (ad : Ad) (G : Gt) (r : Option Nat) : Array Value → State → Outcome → State → Prop := va_Qq (S := Unit) (fun r' _ => r' = r) (fun _ t => GW z ad G t.heap) (zA z)
/-- a method that makes: where the new cells lie comes with its end -/
abbrev QM (z : Zt) (P : Ad → Prop) (F : Ad → Gt) (r : Int32) : Array Value → State → Outcome → State → Prop := va_Qi (S := Ad) (fun r' ad => r' = r ∧ P ad) (fun ad t => GW z ad (F ad) t.heap) (zA z)
theorem mc_blind {z : Zt} {ad : Ad} {G : Gt} {As : List Value} : FrameBlind (va_Pc As (fun U => SW z U ∧ GW z ad G U.heap)) := fun a U g mk h => ⟨h.1, h.2.1.blind, h.2.2⟩
section NC
variable {p : Program} {l : Launch} {e : Env} {R : Room} {s : State} {m : MethodId} {args : Array Value} {below : List Frame} {meth : Method} {c : Code} {H : Heap} {locs : List Loc} {cells slots : Nat} {Q : State → Prop}
variable {cc : ByteArray} {pc : Nat} {ls : Array Slot} {rest st0 : List Value} {z : Zt} {ad ad' : Ad} {G G' : Gt} {own : String} {idx nL nLy n mc ms kd k : Nat} {y : MethodName} {cy : ByteArray} {ret : Option FieldType} {rm : Room} {As : List Value} {Qc : Array Value → State → Outcome → State → Prop} {a : Array Value}
theorem nb_code (hT : TB s) {w : Cond} (hw : w ∈ lw_tbl) (hg : tbGood w = true) : ∀ w' ∈ [w], ∀ (a' : Array Value) (U : State), s.WarmedH U.vm → w'.before a' U = true := fun w' h a' U hW => by
  rw [List.mem_singleton.mp h]
  exact (hT.mv hW).use hw hg
theorem nb_runV (hx : p.tables.exec = Jvm.exec) (hb : c.code = cc) (hml : c.maxLocals = nL) (hown : s.vm.findClass own = some m.cls) (hSW : SW z s) (hS : va_S (zA z) s.heap H locs) (hW : GW z ad G H) (hM : MC l z y cy nLy ret rm mc ms (.ref (ad kd k) :: As) ad G Qc) (f : MFv y cy nLy ret n) (lk : LK own idx y) {ci : Nat} {fs : List Value} {T : u_T} {N : Nat} (hk : G kd k = some (.inr (ci, fs))) (hc : kCl[ci]? = some (y.cls, T, N))
    (hn : As.length = n) (hrm : rm.cells = mc ∧ rm.slots = ms) (hR : rm.frames + 1 ≤ R.frames ∧ 8 + (nLy + 11) + rm.locals ≤ R.locals) (hsz : ls.size = nL) (hst : (rest.map fun v => v.category).sum ≤ 8) (hdg : decode cc pc = .ok (.invokevirtual idx, 3)) (hf : cells + mc ≤ R.cells ∧ slots + ms ≤ R.slots) :
    va_Run p l e R s m args below meth c H locs cells slots mc ms (F0 m pc ls (As.reverse ++ .ref (ad kd k) :: rest)) rest (Qc (.ref (ad kd k) :: As).toArray) (zA z) := by
  obtain ⟨hT, hK, -⟩ := id hSW
  obtain ⟨f1, f2, f3, f4, f5, f6, f7⟩ := f
  have hp : PreV s H y.cls (ad kd k) (va_Pc (.ref (ad kd k) :: As) (fun U => SW z U ∧ GW z ad G U.heap)) As := by
    obtain ⟨L, g, hP, hD, hG, hI⟩ := id hW
    obtain ⟨ha, hf⟩ := hG _ _ _ hk
    obtain ⟨i, hi⟩ := va_pl_get (X := []) (f := g) ha
    rw [hf] at hi
    exact ⟨mc_blind, va_recv hK hP hc hi, fun U hU hW9 => ⟨rfl, hSW.at hS hU hW9, by rw [hU]; exact hW⟩⟩
  have hlen : ∀ sig, parseMethodDescriptor y.desc = some sig → n = sig.parameters.length := fun sig h => by
    rw [h] at f7
    exact (Option.some.inj f7).symm
  rcases lk with h | ⟨host, h⟩
  · exact va_runV (Ts := []) ⟨hx, hb, hml, hown, fun _ h => by cases h⟩ hM ⟨⟨hrm.1, hrm.2, hR.1, hR.2, nb_code hT f4 rfl, List.mem_cons_self, hT.use f4 rfl, hT.use f3 rfl, ⟨f5, f6⟩, hlen, hT.use h rfl⟩, hT.use f1 rfl, hT.use f2 rfl⟩ hp rfl hn hsz rfl (lv_room hst) hdg hf
  · exact va_runVN (Ts := []) (host := host) ⟨hx, hb, hml, hown, fun _ h => by cases h⟩ hM ⟨⟨⟨hrm.1, hrm.2, hR.1, hR.2, nb_code hT f4 rfl, List.mem_cons_self⟩, hT.use f4 rfl, hT.use f3 rfl, ⟨f5, f6⟩, hlen, hT.use h rfl⟩, hT.use f1 rfl, hT.use f2 rfl⟩ hp rfl hn hsz rfl (lv_room hst) hdg hf
theorem nb_runS (hx : p.tables.exec = Jvm.exec) (hb : c.code = cc) (hml : c.maxLocals = nL) (hown : s.vm.findClass own = some m.cls) (hSW : SW z s) (hS : va_S (zA z) s.heap H locs) (hW : GW z ad G H) (hM : MC l z y cy nLy ret rm mc ms As ad G Qc) (f : MFs y cy nLy ret n) (lk : LK own idx y)
    (hn : As.length = n) (hrm : rm.cells = mc ∧ rm.slots = ms) (hR : rm.frames + 1 ≤ R.frames ∧ 8 + (nLy + 11) + rm.locals ≤ R.locals) (hsz : ls.size = nL) (hst : (rest.map fun v => v.category).sum ≤ 8) (hdg : decode cc pc = .ok (.invokestatic idx, 3)) (hf : cells + mc ≤ R.cells ∧ slots + ms ≤ R.slots) :
    va_Run p l e R s m args below meth c H locs cells slots mc ms (F0 m pc ls (As.reverse ++ rest)) rest (Qc As.toArray) (zA z) := by
  obtain ⟨hT, hK, -⟩ := id hSW
  obtain ⟨f1, f3, f4, f5, f6, f7⟩ := f
  have hp : PreS s H (va_Pc As (fun U => SW z U ∧ GW z ad G U.heap)) As := ⟨mc_blind, fun U hU hW9 => ⟨rfl, hSW.at hS hU hW9, by rw [hU]; exact hW⟩⟩
  have hlen : ∀ sig, parseMethodDescriptor y.desc = some sig → n = sig.parameters.length := fun sig h => by
    rw [h] at f7
    exact (Option.some.inj f7).symm
  rcases lk with h | ⟨host, h⟩
  · exact va_runS (Ts := []) ⟨hx, hb, hml, hown, fun _ h => by cases h⟩ hM ⟨⟨hrm.1, hrm.2, hR.1, hR.2, nb_code hT f4 rfl, List.mem_cons_self, hT.use f4 rfl, hT.use f3 rfl, ⟨f5, f6⟩, hlen, hT.use h rfl⟩, hT.use f1 rfl⟩ hp rfl hn hsz rfl (lv_room hst) hdg hf
  · exact va_runSN (Ts := []) (host := host) ⟨hx, hb, hml, hown, fun _ h => by cases h⟩ hM ⟨⟨⟨hrm.1, hrm.2, hR.1, hR.2, nb_code hT f4 rfl, List.mem_cons_self⟩, hT.use f4 rfl, hT.use f3 rfl, ⟨f5, f6⟩, hlen, hT.use h rfl⟩, hT.use f1 rfl, trivial⟩ hp rfl hn hsz rfl (lv_room hst) hdg hf
theorem nb_ci {r : Int32} (hr : va_Run p l e R s m args below meth c H locs cells slots 0 0 (F0 m pc ls st0) rest (QI z ad' G' r a) (zA z)) (hS : va_S (zA z) s.heap H locs)
    (kk : ∀ (H1 : Heap) (locs1 : List Loc), GW z ad' G' H1 → va_S (zA z) s.heap H1 locs1 → W p l e R s m args below meth c H1 locs1 cells slots Q (F0 m (pc + 3) ls (.int r :: rest))) : W p l e R s m args below meth c H locs cells slots Q (F0 m pc ls st0) :=
  va_calli hr hS (fun _ _ h => h) (fun _ h => h) (fun r9 u t H1 locs1 ht _ hp hB _ _ hS1 => by subst hp; subst ht; exact kk _ _ hB hS1)
theorem nb_cl {r : Int64} (hr : va_Run p l e R s m args below meth c H locs cells slots 0 0 (F0 m pc ls st0) rest (QL z ad' G' r a) (zA z)) (hS : va_S (zA z) s.heap H locs)
    (kk : ∀ (H1 : Heap) (locs1 : List Loc), GW z ad' G' H1 → va_S (zA z) s.heap H1 locs1 → W p l e R s m args below meth c H1 locs1 cells slots Q (F0 m (pc + 3) ls (.long r :: rest))) : W p l e R s m args below meth c H locs cells slots Q (F0 m pc ls st0) :=
  va_calll hr hS (fun _ _ h => h) (fun _ h => h) (fun r9 u t H1 locs1 ht _ hp hB _ _ hS1 => by subst hp; subst ht; exact kk _ _ hB hS1)
theorem nb_cv (hr : va_Run p l e R s m args below meth c H locs cells slots 0 0 (F0 m pc ls st0) rest (QV z ad' G' a) (zA z)) (hS : va_S (zA z) s.heap H locs)
    (kk : ∀ (H1 : Heap) (locs1 : List Loc), GW z ad' G' H1 → va_S (zA z) s.heap H1 locs1 → W p l e R s m args below meth c H1 locs1 cells slots Q (F0 m (pc + 3) ls rest)) : W p l e R s m args below meth c H locs cells slots Q (F0 m pc ls st0) :=
  va_callv hr hS (fun _ _ h => h) (fun _ h => h) (fun u t H1 locs1 ht _ hp hB _ _ hS1 => by subst ht; exact kk _ _ hB hS1)
theorem nb_cq {r : Option Nat} (hr : va_Run p l e R s m args below meth c H locs cells slots 0 0 (F0 m pc ls st0) rest (QQ z ad' G' r a) (zA z)) (hS : va_S (zA z) s.heap H locs)
    (kk : ∀ (H1 : Heap) (locs1 : List Loc), GW z ad' G' H1 → va_S (zA z) s.heap H1 locs1 → W p l e R s m args below meth c H1 locs1 cells slots Q (F0 m (pc + 3) ls (va_rf r :: rest))) : W p l e R s m args below meth c H locs cells slots Q (F0 m pc ls st0) :=
  va_callq hr hS (fun _ _ h => h) (fun _ h => h) (fun r9 u t H1 locs1 ht _ hp hB _ _ hS1 => by subst hp; subst ht; exact kk _ _ hB hS1)
/-- ends -/
theorem nb_iret {r : Int32} (hx : p.tables.exec = Jvm.exec) (hb : c.code = cc) {ty : FieldType} (hr : meth.sig.returnType = some ty) (hn : narrow ty (.int r) = .int r) (hlocks : meth.locks = false) (hW : GW z ad G H) (hS : va_S (zA z) s.heap H locs) (hdg : decode cc pc = .ok (.ireturn, 1)) : W p l e R s m args below meth c H locs cells slots (MQ below (QI z ad G r) args s cells slots (zA z)) (F0 m pc ls [.int r]) :=
  W.zret hx hb hr hn (fun t ht _ => ⟨⟨r, (), rfl, rfl, by show GW z ad G t.heap; rw [ht]; exact hW⟩, hS.F ht⟩) hS.2.2 hdg hlocks
theorem nb_vret (hx : p.tables.exec = Jvm.exec) (hb : c.code = cc) (hr : meth.sig.returnType = none) (hlocks : meth.locks = false) (hW : GW z ad G H) (hS : va_S (zA z) s.heap H locs) (hdg : decode cc pc = .ok (.return_, 1)) : W p l e R s m args below meth c H locs cells slots (MQ below (QV z ad G) args s cells slots (zA z)) (F0 m pc ls []) :=
  W.vret hx hb hr (fun t ht _ => ⟨⟨(), rfl, trivial, by show GW z ad G t.heap; rw [ht]; exact hW⟩, hS.F ht⟩) hS.2.2 hdg hlocks
theorem nb_aret {r : Option Nat} (hx : p.tables.exec = Jvm.exec) (hb : c.code = cc) {rt : FieldType} (hr : meth.sig.returnType = some rt) (hrt : (∃ n, rt = .object n) ∨ ∃ t, rt = .array t) (hlocks : meth.locks = false) (hW : GW z ad G H) (hS : va_S (zA z) s.heap H locs) (hdg : decode cc pc = .ok (.areturn, 1)) : W p l e R s m args below meth c H locs cells slots (MQ below (QQ z ad G r) args s cells slots (zA z)) (F0 m pc ls [va_rf r]) :=
  W.aret (v := va_rf r) hx hb hr hrt (by cases r <;> simp [va_rf]) (fun t ht _ => ⟨⟨r, (), rfl, rfl, by show GW z ad G t.heap; rw [ht]; exact hW⟩, hS.F ht⟩) hS.2.2 hdg hlocks
end NC
