/-! stub -/
def YS (i j k r : Nat) (N : Nt) (u : St) : Prop := sorry
theorem ys_0 : YS 0 0 0 0 (fun _ => 0) u00 := sorry
theorem ys_pan {i : Nat} {N : Nt} {u : St} {cl : Int32 → Int32} (h : YS i 0 0 0 N u) (hi : i < 4) : ∃ u9, f_L_span N u cl (nI i) = some (.ok 1, u9) ∧ YS (i + 1) 0 0 0 (Nup N 12) u9 := sorry
theorem ys_phrase {i : Nat} {N : Nt} {u : St} {cl : Int32 → Int32} (h : YS 4 i 0 0 N u) (hi : i < 6) : ∃ u9, f_L_sphrase N u cl (nI i) = some (.ok 1, u9) ∧ YS 4 (i + 1) 0 0 (Nup N 14) u9 := sorry
theorem ys_player {i : Nat} {N : Nt} {u : St} {cl : Int32 → Int32} (h : YS 4 6 i 0 N u) (hi : i < 6) : ∃ u9, f_L_splayer N u cl (nI i) = some (.ok 1, u9) ∧ YS 4 6 (i + 1) 0 (Nup N 15) u9 := sorry
theorem ys_rival {i : Nat} {N : Nt} {u : St} {cl : Int32 → Int32} (h : YS 4 6 6 i N u) (hi : i < 3) : ∃ u9, f_L_srival N u cl (nI i) = some (.ok 1, u9) ∧ YS 4 6 6 (i + 1) N u9 := sorry
theorem ys_inv {N : Nt} {u : St} (h : YS 4 6 6 3 N u) : Inv N u := sorry
theorem xy_ok {i : Nat} {N : Nt} {u : St} {cl : Int32 → Int32} (h : i < 54) : f_L_sxy N u cl (nI i) = some (.ok 1, u) := sorry
theorem step_ok {N : Nt} {u : St} (h : Inv N u) (x y : Int32) : ∃ u9, f_L_step N u x y = some (.ok 1, u9) ∧ Inv N u9 := sorry
theorem fin_ok {N : Nt} {u : St} (h : Inv N u) : ∃ u9, f_L_fin N u = some (.ok 1, u9) := sorry
