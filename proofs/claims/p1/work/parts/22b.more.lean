/-! 24: rows for the reference: raw rows, lists, iterators -/
theorem FM.st {z : Zt} {G G' : Gt} {A : Nat → Nat} {M : St} {q n : Nat} {cA : ClassId} {g : Nat → Int32} (h : FM z G A M) (hE : Ext G G' q) (hq : G 99 q = some (.inl (cA, n, .inl g))) (hn : n ≠ 2 ∧ n ≠ 3 ∧ n ≠ 4) : FM z G' A M := by
  have nn : ∀ {b : Nat} {e : va_E}, G 99 b = some e → (∀ x : va_E, x = .inl (cA, n, .inl g) → e ≠ x) → G' 99 b = some e := fun {b e} hb hn => hE _ _ _ (fun w => cell_ne hb hq (hn _ rfl) w.2) hb
  have num : ∀ {c1 : ClassId} {n1 : Nat} {d1}, n ≠ n1 → ∀ x : va_E, x = .inl (cA, n, .inl g) → (Sum.inl (c1, n1, d1) : va_E) ≠ x := fun {c1 n1 d1} hne x hx w => by
    have q1 : n1 = n := congrArg (fun w : va_E => match w with | .inl y => y.2.1 | .inr _ => 0) (w.trans hx)
    exact hne q1.symm
  refine ⟨nn h.1 (fun x hx w => ?_), fun k hk => nn (h.2.1 k hk) (fun x hx w => ?_), h.2.2.1.elim fun f hf => ⟨f, nn hf (num hn.2.2)⟩, nn h.2.2.2.1 (num hn.2.1), nn h.2.2.2.2.1 (num hn.2.1), fun i hi => nn (h.2.2.2.2.2.1 i hi) (num hn.1), nn h.2.2.2.2.2.2 (fun x hx w => ?_)⟩
  · exact nomatch w.trans hx
  · exact nomatch w.trans hx
  · subst hx; exact nomatch w
theorem ext0_new {G0 G G' : Gt} {q : Nat} (hX : Ext0 G0 G) (hE : Ext G G' q) (hn : G0 99 q = none) : Ext0 G0 G' := fun kd k e hk => hE _ _ _ (fun h => by rw [h.1, h.2, hn] at hk; cases hk) (hX _ _ _ hk)
theorem none_at {G0 G : Gt} {q : Nat} (hX : Ext0 G0 G) (hn : G 99 q = none) : G0 99 q = none := by
  cases hc : G0 99 q with
  | none => rfl
  | some e => rw [hX _ _ _ hc] at hn; cases hn
def MFf (C : String) (x y : MethodName) (cy : ByteArray) (nL : Nat) (ret : Option FieldType) : Prop :=
  (C, x, y) ∈ kFw ∧ Cond.selects C x y ∈ lw_tbl ∧ Cond.instanceMethod y ∈ lw_tbl ∧ Cond.initialized y.cls ∈ lw_tbl ∧ Cond.code y cy nL ret ∈ lw_tbl
/-- a field that is inherited -/
def FLs (own : String) (idx ci j : Nat) (C : String) (T : u_T) (N : Nat) : Prop :=
  kCl[ci]? = some (C, T, N) ∧ ((u_ws C T N).all (fun w => tbGood w && decide (w ∈ lw_tbl))) = true ∧ j < N ∧ Cond.fieldLink own idx C (T j).2.1 (T j).2.2.1 ∈ lw_tbl ∧ Cond.sameField C (T j).1 (T j).2.1 (T j).2.2.1 ∈ lw_tbl
