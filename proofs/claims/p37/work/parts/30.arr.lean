/-! 30: rows for the law of p37: arrays of its own, calls that may throw and are caught -/
def hiG (G : Gt) : Gt := fun kd k => if 22 ≤ kd then G kd k else none
theorem gc_99 {z : Zt} {ad : Ad} {N : Nt} {X : Gt} {u : St} (k : Nat) : GC z ad N X u 99 k = X 99 k := rfl
theorem gc_lo {z : Zt} {ad : Ad} {N : Nt} {X X' : Gt} {u : St} {kd k : Nat} (h : kd < 22) : GC z ad N X u kd k = GC z ad N X' u kd k := by
  rcases (show kd = 0 ∨ kd = 1 ∨ kd = 2 ∨ kd = 3 ∨ kd = 4 ∨ kd = 5 ∨ kd = 6 ∨ kd = 7 ∨ kd = 8 ∨ kd = 9 ∨ kd = 10 ∨ kd = 11 ∨ kd = 12 ∨ kd = 13 ∨ kd = 14 ∨ kd = 15 ∨ kd = 16 ∨ kd = 17 ∨ kd = 18 ∨ kd = 19 ∨ kd = 20 ∨ kd = 21 by omega) with rfl | rfl | rfl | rfl | rfl | rfl | rfl | rfl | rfl | rfl | rfl | rfl | rfl | rfl | rfl | rfl | rfl | rfl | rfl | rfl | rfl | rfl <;> rfl
theorem gc_hi {z : Zt} {ad : Ad} {N : Nt} {X : Gt} {u : St} {kd k : Nat} (h : 22 ≤ kd) : GC z ad N X u kd k = X kd k := by
  unfold GC
  split <;> first | (exfalso; omega) | rfl
def eX (X0 X : Gt) : Prop := ∀ kd k e, 22 ≤ kd → X0 kd k = some e → X kd k = some e
/-- fewer raw cells -/
theorem gw_X {z : Zt} {ad : Ad} {N : Nt} {X0 X : Gt} {u : St} {H : Heap} (hE : eX X0 X) (hW : GW z ad (GC z ad N X u) H) : GW z ad (GC z ad N X0 u) H := gw_sub hW (fun kd k e hk => by
  rcases Nat.lt_or_ge kd 22 with h | h
  · exact (gc_lo h).trans hk
  · rw [gc_hi h] at hk ⊢; exact hE _ _ _ h hk)
theorem gw_hi {z : Zt} {ad : Ad} {N : Nt} {X : Gt} {u : St} {G : Gt} {q : Nat} {H : Heap} (hE : Ext (GC z ad N X u) G q) (hW : GW z ad G H) : GW z ad (GC z ad N (hiG G) u) H := gw_sub hW (fun kd k e hk => by
  rcases Nat.lt_or_ge kd 22 with h | h
  · exact hE _ _ _ (fun w => by have := w.1; omega) ((gc_lo h).symm.trans hk)
  · rw [gc_hi h] at hk
    exact (if_pos h).symm.trans hk)
theorem hi_99 {G : Gt} {k : Nat} : hiG G 99 k = G 99 k := if_pos (by decide)
def upd2 (c : Nat → Nat → Int32) (i j : Nat) (x : Int32) : Nat → Nat → Int32 := fun a => if a = i then upd (c a) j x else c a
def eRow (n : Nat) (c : Nat → Int32) (z : Zt) : va_E := .inl (z.2.2 0, n, .inl c)
def RA (z : Zt) (X0 X : Gt) (q : Nat) (r : Nat → Nat) (cm : Nat → Nat → Int32) : Prop := eX X0 X ∧ X 99 q = some (.inl (z.2.2 1, 6, .inr (.inr (.inr (.inr (qrow0 6 r)))))) ∧ (∀ i, i < 6 → X 99 (r i) = some (eRow 6 (cm i) z)) ∧ (∀ i j, i < 6 → j < 6 → r i = r j → i = j) ∧ ∀ i, i < 6 → X0 99 (r i) = none
def RB (z : Zt) (X0 X : Gt) (q : Nat) (r : Nat → Nat) (qo qf : Nat) (cm : Nat → Nat → Int32) (co cf : Nat → Int32) : Prop := RA z X0 X q r cm ∧ X 99 qo = some (eRow 4 co z) ∧ X 99 qf = some (eRow 4 cf z) ∧ qo ≠ qf ∧ X0 99 qo = none ∧ X0 99 qf = none
theorem eX.hi {z : Zt} {ad : Ad} {N : Nt} {X0 X G : Gt} {u : St} {q : Nat} (h : eX X0 X) (hE : Ext (GC z ad N X u) G q) (hn : X0 99 q = none) : eX X0 (hiG G) := fun kd k e hk h0 => by
  have h1 := h _ _ _ hk h0
  refine (if_pos hk).trans (hE _ _ _ (fun w => ?_) ((gc_hi hk).trans h1))
  rw [w.1, w.2, hn] at h0
  cases h0
theorem eX.none {z : Zt} {ad : Ad} {N : Nt} {X0 X : Gt} {u : St} {q : Nat} (h : eX X0 X) (hn : GC z ad N X u 99 q = none) : X0 99 q = none := by
  cases hc : X0 99 q with
  | none => rfl
  | some e => have h1 := h _ _ _ (by decide) hc; rw [gc_99] at hn; rw [hn] at h1; cases h1
theorem row_ne {n n' : Nat} {c c' : Nat → Int32} {z : Zt} (h : n ≠ n') : eRow n c z ≠ eRow n' c' z := fun q => h (congrArg (fun w : va_E => match w with | .inl y => y.2.1 | .inr _ => 0) q)
theorem out_ne {n : Nat} {c : Nat → Int32} {z : Zt} {f : Nat → Option Nat} : (Sum.inl (z.2.2 1, 6, .inr (.inr (.inr (.inr f)))) : va_E) ≠ eRow n c z := fun q => Bool.noConfusion (show (false : Bool) = true from congrArg (fun e : va_E => match e with | .inl (_, _, .inl _) => true | _ => false) q)
section RAS
variable {z : Zt} {ad : Ad} {N : Nt} {X0 X G G1 G2 : Gt} {u : St} {H : Heap} {q qo qf i j : Nat} {r : Nat → Nat} {cm : Nat → Nat → Int32} {co cf : Nat → Int32} {x : Int32}
theorem ra_new (hX : X = X0) (hn : NewL (GC z ad N X u) (q :: (List.range 6).map r)) (hE : Ext0 (GC z ad N X u) G) (hc : G 99 q = some (.inl (z.2.2 1, 6, .inr (.inr (.inr (.inr (qrow0 6 r))))))) (hr : ∀ i, i < 6 → G 99 (r i) = some (.inl (z.2.2 0, 6, .inl (fun _ => 0)))) (hW : GW z ad G H) : RA z X0 (hiG G) q r (fun _ _ => 0) ∧ GW z ad (GC z ad N (hiG G) u) H := by
  subst hX
  refine ⟨⟨fun kd k e hk h0 => (if_pos hk).trans (hE _ _ _ ((gc_hi hk).trans h0)), hi_99.trans hc, fun i hi => hi_99.trans (hr i hi), fun i j hi hj e => ?_, fun i hi => ?_⟩, gw_hi (q := q) hE.ext hW⟩
  · have h1 := (List.nodup_cons.mp hn.1).2
    have h2 := (List.getElem?_inj (l := (List.range 6).map r) (i := i) (j := j) (by simpa using hi) h1).mp (by
      rw [List.getElem?_map, List.getElem?_map, List.getElem?_range hi, List.getElem?_range hj]
      exact congrArg some e)
    exact h2
  · exact hn.2 (r i) (List.mem_cons_of_mem _ (List.mem_map.mpr ⟨i, List.mem_range.mpr hi, rfl⟩))
theorem ra_set (h : RA z X0 X q r cm) (hi : i < 6) (hE : Ext (GC z ad N X u) G (r i)) (hc : G 99 (r i) = some (.inl (z.2.2 0, 6, .inl (upd (cm i) j x)))) (hW : GW z ad G H) : RA z X0 (hiG G) q r (upd2 cm i j x) ∧ GW z ad (GC z ad N (hiG G) u) H := by
  obtain ⟨h1, h2, h3, h4, h5⟩ := h
  have hq : q ≠ r i := fun e => by
    have := h3 i hi
    rw [← e, h2] at this
    exact out_ne (Option.some.inj this)
  refine ⟨⟨h1.hi hE (h5 i hi), hi_99.trans (hE.ne hq h2), fun a ha => ?_, h4, h5⟩, gw_hi hE hW⟩
  by_cases hai : a = i
  · subst hai
    rw [hi_99, hc]
    show some (eRow 6 (upd (cm a) j x) z) = some (eRow 6 (if a = a then upd (cm a) j x else cm a) z)
    rw [if_pos rfl]
  · rw [hi_99, hE.ne (fun e => hai (h4 a i ha hi e)) (h3 a ha)]
    show some (eRow 6 (cm a) z) = some (eRow 6 (if a = i then upd (cm a) j x else cm a) z)
    rw [if_neg hai]
theorem rb_new (h : RA z X0 X q r cm) (hn1 : GC z ad N X u 99 qo = none) (hE1 : Ext0 (GC z ad N X u) G1) (hc1 : G1 99 qo = some (.inl (z.2.2 0, 4, .inl (fun _ => 0)))) (hn2 : G1 99 qf = none) (hE2 : Ext0 G1 G2) (hc2 : G2 99 qf = some (.inl (z.2.2 0, 4, .inl (fun _ => 0)))) (hW : GW z ad G2 H) : RB z X0 (hiG G2) q r qo qf cm (fun _ => 0) (fun _ => 0) ∧ GW z ad (GC z ad N (hiG G2) u) H := by
  obtain ⟨h1, h2, h3, h4, h5⟩ := h
  have hE := hE1.tr hE2
  have hn2' : GC z ad N X u 99 qf = none := by
    cases hc : GC z ad N X u 99 qf with
    | none => rfl
    | some e => rw [hE1 _ _ _ hc] at hn2; cases hn2
  refine ⟨⟨⟨fun kd k e hk h0 => (if_pos hk).trans (hE _ _ _ ((gc_hi hk).trans (h1 _ _ _ hk h0))), hi_99.trans (hE _ _ _ h2), fun a ha => hi_99.trans (hE _ _ _ (h3 a ha)), h4, h5⟩, hi_99.trans (hE2 _ _ _ hc1), hi_99.trans hc2, ne_of_none hn2 hc1, h1.none hn1, h1.none hn2'⟩, gw_hi (q := qo) hE.ext hW⟩
theorem rb_seto (h : RB z X0 X q r qo qf cm co cf) (hE : Ext (GC z ad N X u) G qo) (hc : G 99 qo = some (.inl (z.2.2 0, 4, .inl (upd co j x)))) (hW : GW z ad G H) : RB z X0 (hiG G) q r qo qf cm (upd co j x) cf ∧ GW z ad (GC z ad N (hiG G) u) H := by
  obtain ⟨⟨h1, h2, h3, h4, h5⟩, k1, k2, k3, k4, k5⟩ := h
  have hq : q ≠ qo := fun e => by rw [← e, h2] at k1; exact out_ne (Option.some.inj k1)
  have hr : ∀ a, a < 6 → r a ≠ qo := fun a ha e => by have := h3 a ha; rw [e, k1] at this; exact row_ne (by decide) (Option.some.inj this)
  exact ⟨⟨⟨h1.hi hE k4, hi_99.trans (hE.ne hq h2), fun a ha => hi_99.trans (hE.ne (hr a ha) (h3 a ha)), h4, h5⟩, hi_99.trans hc, hi_99.trans (hE.ne k3.symm k2), k3, k4, k5⟩, gw_hi hE hW⟩
theorem rb_setf (h : RB z X0 X q r qo qf cm co cf) (hE : Ext (GC z ad N X u) G qf) (hc : G 99 qf = some (.inl (z.2.2 0, 4, .inl (upd cf j x)))) (hW : GW z ad G H) : RB z X0 (hiG G) q r qo qf cm co (upd cf j x) ∧ GW z ad (GC z ad N (hiG G) u) H := by
  obtain ⟨⟨h1, h2, h3, h4, h5⟩, k1, k2, k3, k4, k5⟩ := h
  have hq : q ≠ qf := fun e => by rw [← e, h2] at k2; exact out_ne (Option.some.inj k2)
  have hr : ∀ a, a < 6 → r a ≠ qf := fun a ha e => by have := h3 a ha; rw [e, k2] at this; exact row_ne (by decide) (Option.some.inj this)
  exact ⟨⟨⟨h1.hi hE k5, hi_99.trans (hE.ne hq h2), fun a ha => hi_99.trans (hE.ne (hr a ha) (h3 a ha)), h4, h5⟩, hi_99.trans (hE.ne k3 k1), hi_99.trans hc, k3, k4, k5⟩, gw_hi hE hW⟩
theorem qrow0_at (h : i < 6) : qrow0 6 r i = some (r i) := if_pos h
end RAS
/-- a call that may throw E, caught here -/
def xc {α β : Type} (a : Option (Except String α × St)) (E : String) (f : α → St → Option β) (g : St → Option β) : Option β := match a with
  | none => none
  | some (.ok x, u) => f x u
  | some (.error F, u) => if F = E then g u else none
theorem xc_s {α β : Type} {a : Option (Except String α × St)} {E : String} {f : α → St → Option β} {g : St → Option β} {r : β} (h : xc a E f g = some r) : (∃ x u, a = some (.ok x, u) ∧ f x u = some r) ∨ ∃ u, a = some (.error E, u) ∧ g u = some r := by
  match a, h with
  | some (.ok x, u), h => exact Or.inl ⟨x, u, rfl, h⟩
  | some (.error F, u), h =>
    by_cases hF : F = E
    · subst hF
      have h2 : (if F = F then g u else none) = some r := h
      rw [if_pos rfl] at h2
      exact Or.inr ⟨u, rfl, h2⟩
    · have h2 : (if F = E then g u else none) = some r := h
      rw [if_neg hF] at h2
      cases h2
def MFw (y : MethodName) (cy : ByteArray) (nL : Nat) (ret : Option FieldType) (hh : List (Nat × Nat × Nat × Nat)) (n : Nat) : Prop := Cond.static y ∈ lw_tbl ∧ Cond.initialized y.cls ∈ lw_tbl ∧ Cond.codeWith y cy nL ret hh ∈ lw_tbl ∧ y.cls ≠ "java/lang/invoke/MethodHandle" ∧ y.cls ≠ "java/lang/invoke/VarHandle" ∧ (parseMethodDescriptor y.desc).map (fun d => d.parameters.length) = some n
abbrev MCw (l : Launch) (z : Zt) (y : MethodName) (cy : ByteArray) (nL : Nat) (ret : Option FieldType) (hh : List (Nat × Nat × Nat × Nat)) (rm : Room) (mc ms : Nat) (As : List Value) (ad : Ad) (G : Gt) (Qc : Array Value → State → Outcome → State → Prop) : Prop :=
  Met l y [Cond.codeWith y cy nL ret hh] rm (va_Pc As (fun U => SW z U ∧ GW z ad G U.heap)) Qc mc ms (zA z)
section CR
variable {p : Program} {l : Launch} {e : Env} {R : Room} {s : State} {m : MethodId} {args : Array Value} {below : List Frame} {meth : Method} {c : Code} {H : Heap} {locs : List Loc} {cells slots : Nat} {Q : State → Prop}
variable {cc : ByteArray} {pc mc ms : Nat} {ls : Array Slot} {rest st0 : List Value} {z : Zt} {ad ad' : Ad} {G G' : Gt} {own : String} {idx nL nLy n a b : Nat} {tys : List (ClassId × FieldType)}
variable {y : MethodName} {cy : ByteArray} {ret : Option FieldType} {rm : Room} {As : List Value} {Qc : Array Value → State → Outcome → State → Prop}
theorem nb_aaldr (hA : Raw ad) (hx : p.tables.exec = Jvm.exec) (hb : c.code = cc) (hK : va_K z.1 kCl tys s) (hW : GW z ad G H) (t0 : Nat) {cA : ClassId} {ty : FieldType} {n : Nat} {f : Nat → Option Nat} (hk : G 99 a = some (.inl (cA, n, .inr (.inr (.inr (.inr f)))))) (ht : tys[t0]? = some (cA, ty)) (hr : ty.isReference = true) {i : Int32} (hin : vp_in i n) {b : Nat} (hv : f i.toNatClampNeg = some b) (hdg : decode cc pc = .ok (.aaload, 1))
    (kk : W p l e R s m args below meth c H locs cells slots Q (F0 m (pc + 1) ls (.ref b :: rest))) : W p l e R s m args below meth c H locs cells slots Q (F0 m pc ls (.int i :: .ref a :: rest)) := by
  have h := nb_aald (ad := ad) (kd := 99) (k := a) hx hb hK hW t0 hk ht hr hin hv hdg kk
  rw [hA a] at h
  exact h
theorem nb_runW {hh : List (Nat × Nat × Nat × Nat)} (hx : p.tables.exec = Jvm.exec) (hb : c.code = cc) (hml : c.maxLocals = nL) (hown : s.vm.findClass own = some m.cls) (hSW : SW z s) (hS : va_S (zA z) s.heap H locs) (hW : GW z ad G H) (hM : MCw l z y cy nLy ret hh rm mc ms As ad G Qc) (f : MFw y cy nLy ret hh n) (lk : Cond.methodLink own idx y ∈ lw_tbl)
    (hn : As.length = n) (hrm : rm.cells = mc ∧ rm.slots = ms) (hR : rm.frames + 1 ≤ R.frames ∧ 8 + (nLy + 11) + rm.locals ≤ R.locals) (hsz : ls.size = nL) (hst : (rest.map fun v => v.category).sum ≤ 8) (hdg : decode cc pc = .ok (.invokestatic idx, 3)) (hf : cells + mc ≤ R.cells ∧ slots + ms ≤ R.slots) :
    va_Run p l e R s m args below meth c H locs cells slots mc ms (F0 m pc ls (As.reverse ++ rest)) rest (Qc As.toArray) (zA z) := by
  obtain ⟨hT, hK, -⟩ := id hSW
  obtain ⟨f1, f3, f4, f5, f6, f7⟩ := f
  have hp : PreS s H (va_Pc As (fun U => SW z U ∧ GW z ad G U.heap)) As := ⟨mc_blind, fun U hU hW9 => ⟨rfl, hSW.at hS hU hW9, by rw [hU]; exact hW⟩⟩
  have hlen : ∀ sig, parseMethodDescriptor y.desc = some sig → n = sig.parameters.length := fun sig h => by
    rw [h] at f7
    exact (Option.some.inj f7).symm
  exact vx_runSW (Ts := []) (n := n) ⟨hx, hb, hml, hown, fun _ h => by cases h⟩ hM ⟨⟨hrm.1, hrm.2, hR.1, hR.2, nb_code hT f4 rfl, List.mem_cons_self⟩, hT.use f4 rfl, hT.use f3 rfl, ⟨f5, f6⟩, hlen, hT.use lk rfl, hT.use f1 rfl⟩ hp rfl hn hsz rfl (lv_room hst) hdg hf
/-- a call that makes mc cells of its own, and leaves none -/
theorem nb_cim {r : Int32} {av : Array Value} (hr : va_Run p l e R s m args below meth c H locs cells slots mc ms (F0 m pc ls st0) rest (QI z ad' G' r av) (zA z)) (hS : va_S (zA z) s.heap H locs)
    (kk : ∀ (H1 : Heap) (locs1 : List Loc), GW z ad' G' H1 → va_S (zA z) s.heap H1 locs1 → W p l e R s m args below meth c H1 locs1 (cells + mc) (slots + ms) Q (F0 m (pc + 3) ls (.int r :: rest))) : W p l e R s m args below meth c H locs cells slots Q (F0 m pc ls st0) :=
  va_calli hr hS (fun _ _ h => h) (fun _ h => h) (fun r9 u t H1 locs1 ht _ hp hB _ _ hS1 => by subst hp; subst ht; exact kk _ _ hB hS1)
theorem nb_cd {r : UInt64} {av : Array Value} (hr : va_Run p l e R s m args below meth c H locs cells slots 0 0 (F0 m pc ls st0) rest (QD z ad' G' r av) (zA z)) (hS : va_S (zA z) s.heap H locs)
    (kk : ∀ (H1 : Heap) (locs1 : List Loc), GW z ad' G' H1 → va_S (zA z) s.heap H1 locs1 → W p l e R s m args below meth c H1 locs1 cells slots Q (F0 m (pc + 3) ls (.double r :: rest))) : W p l e R s m args below meth c H locs cells slots Q (F0 m pc ls st0) :=
  va_calld hr hS (fun _ _ h => h) (fun _ h => h) (fun r9 u t H1 locs1 ht _ hp hB _ _ hS1 => by subst hp; subst ht; exact kk _ _ hB hS1)
/-- room in the law's turns -/
def Cs (cells slots : Nat) : Prop := cells + 100 ≤ 200000 ∧ slots + 1000 ≤ 2000000
end CR
