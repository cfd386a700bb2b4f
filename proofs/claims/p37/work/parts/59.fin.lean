/-! 59: the law's end -/
section FIN
variable {N : Nt} {u : St}
theorem fin_870 (h : Inv N u) {v : St} (e : E u v) {r : Int64} (hr : ∀ v, E u v → ∃ w, f_X7_digest N v = some (.ok r, w) ∧ E u w) : ∃ u9, f_L_fin_B870 N r v = some (.ok 1, u9) := by
  obtain ⟨b, hb, h1⟩ := f_bt (k := 0) (X := 30) h (by decide) (by decide) (by decide)
  obtain ⟨w1, e1, x1⟩ := h1 v e
  obtain ⟨m, e2, hm⟩ := f_mm (h.E x1)
  obtain ⟨w3, e3, x3⟩ := hr w1 x1
  have e1' : f_X7_bestTeach N v 0 30 = some (.ok b, w1) := e1
  refine ⟨w3, ?_⟩
  unfold f_L_fin_B870
  have hb2 : ¬ b < (-1) := fun q => by
    rw [Int32.lt_iff_toInt_lt] at q
    rw [Int32.le_iff_toInt_le] at hb
    omega
  rw [e1', xb_ok, if_neg hb2, e2, sb_some, nm_u, if_pos hm, e3, xb_ok, nm_u, if_pos ((lg_cmp_eq _ _).mpr rfl)]
theorem fin_ok (h : Inv N u) : ∃ u9, f_L_fin N u = some (.ok 1, u9) := by
  obtain ⟨n, o⟩ := h.ord
  have h10 := o.1
  obtain ⟨r, hr⟩ := al_digest h
  obtain ⟨w1, e0, x1⟩ := hr u E.refl
  have e1 : f_X7_digest N u = some (.ok r, w1) := e0
  obtain ⟨w2, e2, x2⟩ := many10E h o x1
  obtain ⟨w3, e3, x3⟩ := would0 (h.E x2) (o.E0 x2)
  have y3 := x2.trans x3
  rw [totV_E2 x2] at e3
  obtain ⟨w4, t, t', e4, x4, k1, k2, k3⟩ := would60 (h.E y3) (o.E0 y3)
  have y4 := y3.trans x4
  rw [totV_E2 y3] at k1
  unfold f_L_fin
  rw [e1, xb_ok, e2, xb_ok, e3, xb_ok, if_pos rfl, e4, xb_ok, k1, if_neg (nI_nlt k2 (by omega)), many3, xb_ok, (o.E0 y4).2.1]
  by_cases h5 : n ≤ 5
  · obtain ⟨w5, e5, x5⟩ := f_bo h o h5 y4
    obtain ⟨T, B, q1, q2, q3, q4⟩ := bo_ge h o h5
    have hT : T = t := (nI_eq (by omega) (by omega)).mp (q1.symm.trans k1)
    rw [if_neg (show ¬ (6 : Int32) ≤ nI n from nI_ge (b := 6) (by omega) (by decide)), e5, xb_ok, q2, if_neg (nI_nlt (by omega) (by omega))]
    exact fin_870 h x5 hr
  · rw [if_pos (show (6 : Int32) ≤ nI n from nI_le (a := 6) (by omega) (by omega))]
    exact fin_870 h y4 hr
end FIN
