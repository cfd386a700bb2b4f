/-! 56: what would be, asked at the end -/
section WD
variable {N : Nt} {u v : St}
theorem slx_n {g hd : Nat} (hg : g ≤ 100) (hh : hd ≤ 9) : ∃ g', mmax 0 (nI g - nI hd / 2 - 1) = nI g' ∧ g' ≤ g := by
  rw [show nI hd / 2 = nI (hd / 2) from pk_div (d := 2) (by omega) (by decide) (by decide)]
  have e1 : nI g - nI (hd / 2) - 1 = nI g - nI (hd / 2 + 1) := by
    rw [nI_succ]
    exact sub4 _ _ _
  refine ⟨g - (hd / 2 + 1), ?_, by omega⟩
  rw [e1]
  unfold mmax
  by_cases hc : hd / 2 + 1 ≤ g
  · rw [pk_sub hc]
    by_cases h0 : g - (hd / 2 + 1) = 0
    · rw [h0]; rfl
    · rw [if_pos (show (0 : Int32) < nI (g - (hd / 2 + 1)) from nI_lt (a := 0) (by omega) (by omega))]
  · have hn := pk_sneg (a := g) (b := hd / 2 + 1) (by omega) (by omega)
    rw [if_neg (fun q => by rw [Int32.lt_iff_toInt_lt] at q hn; omega), show g - (hd / 2 + 1) = 0 by omega]
    rfl
theorem MB_sl (h : Inv N u) : ∀ (d : Nat) (w : St), E u w → MB (mms u 0) (mms w 1) → MB (mms u 0) (mms (slN d w) 1) := by
  intro d
  induction d with
  | zero => intro w _ hm; exact hm
  | succ d ih =>
    intro w hw hm
    refine ih (slF w 1) (hw.trans slF_E1) (fun y hy j hj => ?_)
    obtain ⟨g, g', h1, h2, h3, h4⟩ := hm y hy j hj
    obtain ⟨hd, hd1, hd2, hd3⟩ := bt_of (a := 1) (b := 9) (h.r j hj).2.1
    have e : mms (slF w 1) 1 y j = sl w 1 y j := slF_40 (by omega) hj
    have e21 : w 21 j 0 = nI hd := (hw.at (by unfold mk; omega)).trans hd3
    have e40 : w 40 (8 * 1 + y) j = nI g' := h2
    rw [e]
    unfold sl
    rw [e21, e40]
    split
    · obtain ⟨g2, q1, q2⟩ := slx_n (g := g') (hd := hd) (by omega) (by omega)
      exact ⟨g, g2, h1, q1, by omega, h4⟩
    · exact ⟨g, g', h1, rfl, h3, h4⟩
theorem mm_cp {y j : Nat} (hy : y < 6) (hj : j < 6) : mms (cpM u 8) 1 y j = mms u 0 y j := by
  show cpM u 8 40 (8 * 1 + y) j = u 40 (8 * 0 + y) j
  unfold cpM
  rw [if_pos ⟨rfl, by omega, by omega, by omega⟩, show 8 * 1 + y - 8 = 8 * 0 + y from by omega]
theorem would0 (h : Inv N u) {n : Nat} (o : OK1 u 0 n) : ∃ v, f_X7_wouldTotal N u 0 = some (.ok (totV u (mms u 0) n), v) ∧ E u v := by
  obtain ⟨v, a1, a2⟩ := f_would (X := 0) h o (by decide)
  refine ⟨v, ?_, a2⟩
  rw [← totV_m (mm := mms u 0) (mm' := mms (slN 0 (cpM u 8)) 1) o (fun y hy j hj => mm_cp hy hj)]
  exact a1
theorem would60 (h : Inv N u) {n : Nat} (o : OK1 u 0 n) : ∃ (v : St) (t t' : Nat), f_X7_wouldTotal N u 60 = some (.ok (nI t'), v) ∧ E u v ∧ totV u (mms u 0) n = nI t ∧ t' ≤ t ∧ t ≤ 1000 := by
  obtain ⟨v, a1, a2⟩ := f_would (X := 60) h o (by decide)
  have hm : MB (mms u 0) (mms (cpM u 8) 1) := fun y hy j hj => by
    obtain ⟨g, g', h1, h2, h3, h4⟩ := mm_b h y hy j hj
    exact ⟨g, g', h1, by rw [mm_cp hy hj]; exact h2, h3, h4⟩
  obtain ⟨t, t', q1, q2, q3, q4⟩ := tot_n h o (MB_sl h 60 (cpM u 8) cpM_E hm)
  rw [q2] at a1
  exact ⟨v, t, t', a1, a2, q1, q3, q4⟩
end WD
