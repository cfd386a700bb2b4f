/-! 06b: making cells; a cell that is made is kept under its own address, as the key (99, address) -/
abbrev Raw (ad : Ad) : Prop := ∀ a, ad 99 a = a
/-- nothing is lost but what stood at (99, a) -/
def Ext (G G' : Gt) (a : Nat) : Prop := ∀ kd k e, ¬ (kd = 99 ∧ k = a) → G kd k = some e → G' kd k = some e
def Ext0 (G G' : Gt) : Prop := ∀ kd k e, G kd k = some e → G' kd k = some e
theorem up_ext {G : Gt} {a : Nat} {e : va_E} : Ext G (up2 G 99 a e) a := fun kd k e h hk => by rw [up2_ne h]; exact hk
theorem Ext0.tr {G G1 G2 : Gt} (h : Ext0 G G1) (h2 : Ext0 G1 G2) : Ext0 G G2 := fun _ _ _ q => h2 _ _ _ (h _ _ _ q)
theorem Ext0.ext {G G1 : Gt} {a : Nat} (h : Ext0 G G1) : Ext G G1 a := fun _ _ _ _ q => h _ _ _ q
theorem Ext.tr {G G1 G2 : Gt} {a : Nat} (h : Ext G G1 a) (h2 : Ext G1 G2 a) : Ext G G2 a := fun _ _ _ n q => h2 _ _ _ n (h _ _ _ n q)
theorem Ext.ne {G G1 : Gt} {a b : Nat} {e : va_E} (h : Ext G G1 a) (hn : b ≠ a) (hb : G 99 b = some e) : G1 99 b = some e := h _ _ _ (fun q => hn q.2) hb
theorem ne_of_none {G : Gt} {a b : Nat} {e : va_E} (h : G 99 b = none) (ha : G 99 a = some e) : a ≠ b := fun q => by rw [q, h] at ha; cases ha
theorem up_raw {ad : Ad} (h : Raw ad) (q : Nat) : upA ad 99 q q = ad := funext fun a => funext fun b => by
  by_cases hc : a = 99 ∧ b = q
  · obtain ⟨rfl, rfl⟩ := hc; simp [upA, h]
  · simp [upA, hc]
def zClA (z : Zt) (U : State) (t0 : Nat) (ty : FieldType) (cA : ClassId) : Prop := (ztys z)[t0]? = some (cA, ty)
theorem same_cls {z : Zt} {U : State} {t0 : Nat} {ty : FieldType} {cA cA' : ClassId} (hK : va_K z.1 kCl (ztys z) U) (ht : (ztys z)[t0]? = some (cA, ty)) (hK' : va_K z.1 kCl (ztys z ++ [(cA', ty)]) U) : cA' = cA := by
  have h1 := (hK.2 t0 _ ht).2
  have h2 := (hK'.2 (ztys z).length (cA', ty) (by rw [List.getElem?_append_right (Nat.le_refl _)]; simp)).2
  cases ty with
  | object C =>
    obtain ⟨_, _, _, _, _, h3⟩ := h1
    obtain ⟨_, _, _, _, _, h4⟩ := h2
    exact Option.some.inj (h4.symm.trans h3)
  | _ => exact Option.some.inj (Eq.trans (Eq.symm h2) h1)
section NM
variable {p : Program} {l : Launch} {e : Env} {R : Room} {s : State} {m : MethodId} {args : Array Value} {below : List Frame} {meth : Method} {c : Code} {H : Heap} {locs : List Loc} {cells slots : Nat} {Q : State → Prop}
variable {cc : ByteArray} {pc : Nat} {ls : Array Slot} {rest : List Value} {z : Zt} {ad : Ad} {G G' : Gt} {own C : String} {idx ci N nL : Nat} {T : u_T} {fs : List Value}
theorem gw_raw (hA : Raw ad) {L : List Nat} {f : Nat → va_E} {H1 : Heap} {q : Nat} {e : va_E} (hG : ∀ kd k e, G kd k = some e → ad kd k ∈ L ∧ f (ad kd k) = e) (hI : ∀ kd k e kd' k' e', G kd k = some e → G kd' k' = some e' → ad kd k = ad kd' k' → kd = kd' ∧ k = k')
    (hP1 : va_P z.1 kCl ((([] : va_W) ++ va_pl L f) ++ [(q, e)]) H1) (hD1 : va_D (zA z) ((([] : va_W) ++ va_pl L f) ++ [(q, e)])) : G 99 q = none ∧ Ext0 G (up2 G 99 q e) ∧ GW z ad (up2 G 99 q e) H1 := by
  have hq : q ∉ L := va_pl_fresh2 hD1
  have hn : G 99 q = none := by
    cases hc : G 99 q with
    | none => rfl
    | some e1 =>
      have := (hG _ _ _ hc).1
      rw [hA] at this
      exact absurd this hq
  refine ⟨hn, fun kd k e1 hk => ?_, ?_⟩
  · rw [up2_ne (fun h => by rw [h.1, h.2, hn] at hk; cases hk)]; exact hk
  · have h := gw_new (kd := 99) (k := q) hG hI hn hP1 hD1
    rw [up_raw hA] at h
    exact h
theorem nb_new (hx : p.tables.exec = Jvm.exec) (hb : c.code = cc) (hSW : SW z s) (hown : s.vm.findClass own = some m.cls) (hA : Raw ad) (hW : GW z ad G H) (hS : va_S (zA z) s.heap H locs) (f0 : kCl[ci]? = some (C, T, N) ∧ ((u_ws C T N).all (fun w => tbGood w && decide (w ∈ lw_tbl))) = true ∧ Cond.classLink own idx C ∈ lw_tbl ∧ Cond.instantiable C N ∈ lw_tbl ∧ Cond.initialized C ∈ lw_tbl) (ty0 : Nat → FieldType) (hty : ∀ k, k < N → parseFieldDescriptor (T k).2.2.1 = some (ty0 k)) (hfs : ∀ j, j < N → defaultValue (ty0 j) = vp_V fs j) (hR : cells + 1 ≤ R.cells ∧ slots + N ≤ R.slots) (hdg : decode cc pc = .ok (.new idx, 3))
    (kk : ∀ (q : Nat) (H1 : Heap) (G' : Gt), G 99 q = none → Ext0 G G' → G' 99 q = some (.inr (ci, fs)) → GW z ad G' H1 → va_S (zA z) s.heap H1 locs → W p l e R s m args below meth c H1 locs (cells + 1) (slots + N) Q (F0 m (pc + 3) ls (.ref q :: rest))) : W p l e R s m args below meth c H locs cells slots Q (F0 m pc ls rest) := by
  obtain ⟨hT, hK, -, hB⟩ := hSW
  obtain ⟨hc, hws, h1, h2, h3⟩ := f0
  have hts : ∀ w ∈ u_ws C T N, w.before args s = true := fun w hw => by
    have h := List.all_eq_true.mp hws w hw
    simp only [Bool.and_eq_true, decide_eq_true_eq] at h
    exact hT.use h.2 h.1
  obtain ⟨L, g, hP, hD, hG, hI⟩ := hW
  refine va_new (D := z.1) (ci := ci) (fs := fs) (C := C) (T := T) (N := N) hx hb hts (fun _ h => h) ty0 hty hown (hT.use h1 rfl) (hT.use h2 rfl) (hT.use h3 rfl) hK hP hD hS (fun q h => Nat.le_trans hB h) hc hfs hR.1 hR.2 hdg (fun q H1 hP1 hD1 hS1 => ?_)
  obtain ⟨k1, k2, k3⟩ := gw_raw hA hG hI hP1 hD1
  exact kk q H1 _ k1 k2 up2_self k3 hS1
theorem nb_newi (hx : p.tables.exec = Jvm.exec) (hb : c.code = cc) (hSW : SW z s) (hA : Raw ad) (hW : GW z ad G H) (hS : va_S (zA z) s.heap H locs) (harr : Cond.arrayClass .int ∈ lw_tbl) {n : Int32} {N' : Nat} (hn : ¬ n < 0) (hN : n.toNatClampNeg = N') (hbytes : N' * componentBytes .int ≤ 536870912) (hR : cells + 1 ≤ R.cells ∧ slots + N' ≤ R.slots) (hdg : decode cc pc = .ok (.newarray .int, 2))
    (kk : ∀ (q : Nat) (H1 : Heap) (G' : Gt), G 99 q = none → Ext0 G G' → G' 99 q = some (.inl (z.2.2 0, N', .inl (fun _ => 0))) → GW z ad G' H1 → va_S (zA z) s.heap H1 locs → W p l e R s m args below meth c H1 locs (cells + 1) (slots + N') Q (F0 m (pc + 2) ls (.ref q :: rest))) : W p l e R s m args below meth c H locs cells slots Q (F0 m pc ls (.int n :: rest)) := by
  obtain ⟨hT, hK, -, hB⟩ := hSW
  obtain ⟨L, g, hP, hD, hG, hI⟩ := hW
  refine va_newa (D := z.1) (atype := .int) (ty := .int) (a0 := (N', .inl (fun _ => 0))) hx hb (hT.use harr rfl) rfl hK hP hD hS (fun q h => Nat.le_trans hB h) (fun cA => rfl) hn hN hbytes hR.1 hR.2 hdg (fun q cA H1 hK1 hP1 hD1 hS1 => ?_)
  obtain rfl := same_cls (t0 := 0) hK rfl hK1
  obtain ⟨k1, k2, k3⟩ := gw_raw hA hG hI hP1 hD1
  exact kk q H1 _ k1 k2 up2_self k3 hS1
theorem nb_newq (t0 : Nat) (hx : p.tables.exec = Jvm.exec) (hb : c.code = cc) (hSW : SW z s) (hown : s.vm.findClass own = some m.cls) (hA : Raw ad) (hW : GW z ad G H) (hS : va_S (zA z) s.heap H locs) {cA : ClassId} (ht : (ztys z)[t0]? = some (cA, .object C)) (f0 : Cond.classLink own idx C ∈ lw_tbl ∧ Cond.arrayOver (.object C) ∈ lw_tbl) {n : Int32} {N' : Nat} (hn : ¬ n < 0) (hN : n.toNatClampNeg = N') (hbytes : N' * 4 ≤ 536870912) (hR : cells + 1 ≤ R.cells ∧ slots + N' ≤ R.slots) (hdg : decode cc pc = .ok (.anewarray idx, 3))
    (kk : ∀ (q : Nat) (H1 : Heap) (G' : Gt), G 99 q = none → Ext0 G G' → G' 99 q = some (.inl (cA, N', .inr (.inr (.inr (.inr (fun _ => none)))))) → GW z ad G' H1 → va_S (zA z) s.heap H1 locs → W p l e R s m args below meth c H1 locs (cells + 1) (slots + N') Q (F0 m (pc + 3) ls (.ref q :: rest))) : W p l e R s m args below meth c H locs cells slots Q (F0 m pc ls (.int n :: rest)) := by
  obtain ⟨hT, hK, -, hB⟩ := hSW
  obtain ⟨L, g, hP, hD, hG, hI⟩ := hW
  refine va_newq (D := z.1) (C := C) (index := idx) hx hb hown (hT.use f0.1 rfl) (va_AO.of (hT.use (A := #[]) f0.2 rfl)) hK hP hD hS (fun q h => Nat.le_trans hB h) hn hN hbytes hR.1 hR.2 hdg (fun q cA1 H1 hK1 hP1 hD1 hS1 => ?_)
  obtain rfl := same_cls hK ht hK1
  obtain ⟨k1, k2, k3⟩ := gw_raw hA hG hI hP1 hD1
  exact kk q H1 _ k1 k2 up2_self k3 hS1
theorem nb_obj (hx : p.tables.exec = Jvm.exec) (hb : c.code = cc) (hml : c.maxLocals = nL) (hsz : ls.size = nL) (hT : TB s) (hown : s.vm.findClass own = some m.cls) (f0 : Cond.methodLink own idx objectInit ∈ lw_tbl ∧ Cond.instanceMethod objectInit ∈ lw_tbl ∧ Cond.code objectInit ⟨#[0xb1]⟩ 1 none ∈ lw_tbl) {a : Nat} (hR : 1 ≤ R.frames ∧ (rest.map fun v => v.category).sum + 12 ≤ R.locals) (hdg : decode cc pc = .ok (.invokespecial idx, 3))
    (kk : W p l e R s m args below meth c H locs cells slots Q (F0 m (pc + 3) ls rest)) : W p l e R s m args below meth c H locs cells slots Q (F0 m pc ls (.ref a :: rest)) := by
  refine W.objInit hx hb hown (hT.use f0.1 rfl) (hT.use f0.2.1 rfl) (hT.use f0.2.2 rfl) rfl (by rw [hml]; exact hsz) rfl hdg hR.1 (by have := hR.2; show 2 * 0 + _ + 12 ≤ _; omega) ?_
  exact kk
/-- a constructor's call -/
theorem nb_runI {y : MethodName} {cy : ByteArray} {nLy n mc ms : Nat} {rm : Room} {As : List Value} {b : Nat} {Qc : Array Value → State → Outcome → State → Prop} (hx : p.tables.exec = Jvm.exec) (hb : c.code = cc) (hml : c.maxLocals = nL) (hown : s.vm.findClass own = some m.cls) (hSW : SW z s) (hS : va_S (zA z) s.heap H locs) (hW : GW z ad G H) (hM : MC l z y cy nLy none rm mc ms (.ref b :: As) ad G Qc) (f : MFi y cy nLy n) (lk : LK own idx y)
    (hn : As.length = n) (hrm : rm.cells = mc ∧ rm.slots = ms) (hR : rm.frames + 1 ≤ R.frames ∧ 8 + (nLy + 11) + rm.locals ≤ R.locals) (hsz : ls.size = nL) (hst : (rest.map fun v => v.category).sum ≤ 8) (hdg : decode cc pc = .ok (.invokespecial idx, 3)) (hf : cells + mc ≤ R.cells ∧ slots + ms ≤ R.slots) :
    va_Run p l e R s m args below meth c H locs cells slots mc ms (F0 m pc ls (As.reverse ++ .ref b :: rest)) rest (Qc (.ref b :: As).toArray) (zA z) := by
  obtain ⟨hT, hK, -⟩ := id hSW
  obtain ⟨f1, f3, f4, f5, f6, f7, f8⟩ := f
  have hp : PreS s H (va_Pc (.ref b :: As) (fun U => SW z U ∧ GW z ad G U.heap)) (.ref b :: As) := ⟨mc_blind, fun U hU hW9 => ⟨rfl, hSW.at hS hU hW9, by rw [hU]; exact hW⟩⟩
  have hlen : ∀ sig, parseMethodDescriptor y.desc = some sig → n = sig.parameters.length := fun sig h => by
    rw [h] at f7
    exact (Option.some.inj f7).symm
  rcases lk with h | ⟨host, h⟩
  · exact va_runI (Ts := []) ⟨hx, hb, hml, hown, fun _ h => by cases h⟩ hM ⟨⟨hrm.1, hrm.2, hR.1, hR.2, nb_code hT f4 rfl, List.mem_cons_self, hT.use f4 rfl, hT.use f3 rfl, ⟨f5, f6⟩, hlen, hT.use h rfl⟩, f8, hT.use f1 rfl⟩ hp rfl hn hsz rfl (lv_room hst) hdg hf
  · exact va_runIN (Ts := []) (host := host) ⟨hx, hb, hml, hown, fun _ h => by cases h⟩ hM ⟨⟨⟨hrm.1, hrm.2, hR.1, hR.2, nb_code hT f4 rfl, List.mem_cons_self⟩, hT.use f4 rfl, hT.use f3 rfl, ⟨f5, f6⟩, hlen, hT.use h rfl⟩, f8, hT.use f1 rfl⟩ hp rfl hn hsz rfl (lv_room hst) hdg hf
end NM
