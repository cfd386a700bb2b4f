/-! stub -/
theorem step_ok {N : Nt} {u : St} (h : Inv N u) (x y : Int32) : ∃ u9, f_L_step N u x y = some (.ok 1, u9) ∧ Inv N u9 := sorry
theorem fin_ok {N : Nt} {u : St} (h : Inv N u) : ∃ u9, f_L_fin N u = some (.ok 1, u9) := sorry
