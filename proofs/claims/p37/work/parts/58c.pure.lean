/-! 58c: bestOrder: the loops -/
section BO2
variable {N : Nt} {u v : St} {n : Nat}
def cpO (u : St) : St := fun f k i => if f = 42 ∧ k = 1 ∧ i < 10 then u 42 0 i else if f = 43 ∧ k = 1 ∧ i = 0 then u 43 0 0 else u f k i
theorem f_cpO : f_X0_copyFrom N u 1 0 = some ((), cpO u) := by
  unfold f_X0_copyFrom
  rw [nm_u, nm_u]
  congr 1
  congr 1
  funext f k i
  unfold sset scpy cpO
  by_cases h1 : f = 43 ∧ k = 1 ∧ i = 0
  · rw [if_pos h1, if_neg (fun q => by omega), if_pos h1, if_neg (fun q => by omega)]
  · rw [if_neg h1]
    exact ifc (by omega) rfl (by rw [if_neg h1])
theorem cpO_E : E u (cpO u) := fun f k i h => by
  unfold mk at h
  unfold cpO
  rw [if_neg (fun q => by omega), if_neg (fun q => by omega)]
end BO2
