/-! 58b: bestOrder: the shuffle -/
section BO
variable {N : Nt} {u v : St} {n : Nat}
def swp (od : Nat → Int32) (a b : Nat) : Nat → Int32 := upd (upd od b (od a)) a (od b)
def shufG (n : Nat) : Nat → Nat → Nat → (Nat → Int32) → (Nat → Int32)
  | 0, _, _, od => od
  | d + 1, y, x, od => shufG n d (y + 1) (x / (n - y)) (swp od y (y + x % (n - y)))
def okOd (n : Nat) (od : Nat → Int32) : Prop := ∀ i, i < n → ∃ q, q < 6 ∧ od i = nI q
theorem swp_ok {od : Nat → Int32} {a b : Nat} (h : okOd n od) (ha : a < n) (hb : b < n) : okOd n (swp od a b) := fun i hi => by
  unfold swp upd
  split
  · exact h b hb
  · split
    · exact h a ha
    · exact h i hi
theorem swp_self {od : Nat → Int32} {a : Nat} : swp od a a = od := funext fun i => by
  unfold swp upd
  split
  · rename_i e; rw [e]
  · rfl
theorem shufG_0 : ∀ (d y : Nat) (od : Nat → Int32), shufG n d y 0 od = od := by
  intro d
  induction d with
  | zero => intro y od; rfl
  | succ d ih => intro y od; unfold shufG; rw [Nat.zero_div, Nat.zero_mod, show swp od y (y + 0) = od from swp_self, ih]
theorem shufG_ok : ∀ (d y x : Nat) (od : Nat → Int32), y + d = n → okOd n od → okOd n (shufG n d y x od) := by
  intro d
  induction d with
  | zero => intro y x od _ h; exact h
  | succ d ih =>
    intro y x od hy h
    have := Nat.mod_lt x (show 0 < n - y by omega)
    exact ih (y + 1) _ _ (by omega) (swp_ok h (by omega) (by omega))
theorem shufG_c : ∀ (d y x : Nat) (od od' : Nat → Int32), y + d = n → (∀ i, i < n → od i = od' i) → ∀ i, i < n → shufG n d y x od i = shufG n d y x od' i := by
  intro d
  induction d with
  | zero => intro y x od od' _ h; exact h
  | succ d ih =>
    intro y x od od' hy h
    have := Nat.mod_lt x (show 0 < n - y by omega)
    refine ih (y + 1) _ _ _ (by omega) (fun i hi => ?_)
    unfold swp upd
    rw [h y (by omega), h _ (show y + x % (n - y) < n by omega), h i hi]
/-- order 1 anew -/
def setO1 (u : St) (od : Nat → Int32) : St := fun f k i => if f = 42 ∧ k = 1 then od i else u f k i
theorem setO1_E {od : Nat → Int32} : E u (setO1 u od) := fun f k i h => if_neg (fun q => h (by unfold mk; omega))
theorem setO1_42 {od : Nat → Int32} : setO1 u od 42 1 = od := funext fun i => if_pos ⟨rfl, rfl⟩
theorem setO1_f {od : Nat → Int32} {f : Nat} (h : f ≠ 42) : setO1 u od f = u f := funext fun k => funext fun i => if_neg (fun q => h q.1)
theorem setO1_s {od : Nat → Int32} {i : Nat} {x : Int32} : sset (setO1 u od) 42 1 i x = setO1 u (upd od i x) := funext fun f => funext fun k => funext fun j => by
  unfold sset setO1 upd
  by_cases h : f = 42 ∧ k = 1
  · by_cases hj : j = i
    · subst hj; rw [if_pos ⟨h.1, h.2, rfl⟩, if_pos h, if_pos rfl]
    · rw [if_neg (fun q => hj q.2.2), if_pos h, if_pos h, if_neg hj]
  · rw [if_neg (fun q => h ⟨q.1, q.2.1⟩), if_neg h, if_neg h]
theorem f_shuf_l (h10 : n ≤ 10) (h43 : u 43 1 0 = nI n) : ∀ (d y m x : Nat) (od : Nat → Int32), y + d = n → d < m → x < 2 ^ 31 → f_X0_shuffle_L4 N 1 m (nI y) (nI x) (setO1 u od) = some ((), setO1 u (shufG n d y x od)) := by
  intro d
  induction d with
  | zero =>
    intro y m x od hy hm hx
    obtain ⟨m', rfl, -⟩ := fuel hm
    show f_X0_shuffle_L4b N 1 (f_X0_shuffle_L4 N 1 m') (nI y) (nI x) _ = _
    unfold f_X0_shuffle_L4b
    obtain rfl : y = n := by omega
    rw [setO1_f (f := 43) (by decide), h43, if_pos (Int32.le_refl _)]
    rfl
  | succ d ih =>
    intro y m x od hy hm hx
    obtain ⟨m', rfl, h'⟩ := fuel hm
    have hmod := Nat.mod_lt x (show 0 < n - y by omega)
    have hdiv : x / (n - y) < 2 ^ 31 := Nat.lt_of_le_of_lt (Nat.div_le_self _ _) hx
    show f_X0_shuffle_L4b N 1 (f_X0_shuffle_L4 N 1 m') (nI y) (nI x) _ = _
    unfold f_X0_shuffle_L4b
    rw [setO1_f (f := 43) (by decide), h43, if_neg (nI_ge (by omega) (by omega)), nm_u, pk_sub (by omega), gt1 (nI_ne0 (by omega) (by omega)), nm_u, irem_nI hx (by omega) (by omega), nm_u, nI_add, nm_u, pk_div hx (by omega) (by omega), gt1 (inb_nI (by omega) (by decide)), nm_u, ix_nI (by omega), gt1 (inb_nI (by omega) (by decide)), ix_nI (by omega), setO1_42, nm_u, setO1_s, nm_u, setO1_s, nm_u, nI_1]
    exact ih (y + 1) m' _ _ (by omega) (h' d rfl) hdiv
end BO
