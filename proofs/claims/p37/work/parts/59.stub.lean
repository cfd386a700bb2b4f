/-! stub -/
theorem fin_ok {N : Nt} {u : St} (h : Inv N u) : ∃ u9, f_L_fin N u = some (.ok 1, u9) := sorry
