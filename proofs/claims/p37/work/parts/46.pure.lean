/-! 46: bounds -/
section BND
variable {N : Nt} {u v : St} {n j : Nat} {mm mm' : F3}
theorem lvx_n (h : Inv N u) (hj : j < 6) (y : Nat) : ∃ a b : Nat, a ≤ b ∧ 1 ≤ b ∧ b ≤ 8 ∧ ∀ (mm : F3) (m : Nat), m ≤ 100 → mm y j = nI m → lvx u mm j y = nI (m * a / b) := by
  obtain ⟨a, b, h1, h2, h3, h4, h5⟩ := bc_part (x := u 22 j 0) (thr (u 11 (y % 4) 0) (u 14 (y % 4))) (h.r j hj).2.2.1 (h.r j hj).2.2.2
  refine ⟨a, b, h3, h4, h5, fun mm m hm e => ?_⟩
  have h6 : m * a ≤ 100 * 8 := Nat.mul_le_mul hm (by omega)
  unfold lvx nitm
  rw [e, h2, h1, pk_mul, pk_div (by omega) h4 (by omega)]
theorem lvG_n (h : Inv N u) (hj : j < 6) {g g' : Nat → Nat} (hg : ∀ y, y < 6 → mm y j = nI (g y) ∧ mm' y j = nI (g' y) ∧ g' y ≤ g y ∧ g y ≤ 100) : ∀ (d y C S S' : Nat), y + d = 6 → C ≤ y → S ≤ 100 * C → S' ≤ S → ∃ A A' : Nat, lvG u mm j d y (nI C) (nI S) = nI A ∧ lvG u mm' j d y (nI C) (nI S') = nI A' ∧ A' ≤ A ∧ A ≤ 100 := by
  intro d
  induction d with
  | zero =>
    intro y C S S' hy hC hS hS'
    unfold lvG
    rcases Nat.eq_zero_or_pos C with h0 | h0
    · subst h0
      exact ⟨0, 0, if_pos rfl, if_pos rfl, Nat.le_refl _, by omega⟩
    · rw [if_neg (nI_ne0 h0 (by omega)), if_neg (nI_ne0 h0 (by omega)), pk_div (by omega) h0 (by omega), pk_div (by omega) h0 (by omega)]
      exact ⟨_, _, rfl, rfl, Nat.div_le_div_right hS', Nat.div_le_of_le_mul (by rw [Nat.mul_comm]; exact hS)⟩
  | succ d ih =>
    intro y C S S' hy hC hS hS'
    unfold lvG
    by_cases hc : snd u y = true ∧ u 30 y 0 = u 20 j 0
    · rw [if_pos hc, if_pos hc]
      obtain ⟨a, b, h1, h2, h3, h4⟩ := lvx_n h hj y
      obtain ⟨g1, g2, g3, g4⟩ := hg y (by omega)
      rw [h4 mm _ g4 g1, h4 mm' _ (by omega) g2, nI_add, nI_add, nI_1]
      have e1 : g y * a / b ≤ g y := Nat.div_le_of_le_mul (by rw [Nat.mul_comm]; exact Nat.mul_le_mul_right _ h1)
      have e2 : g' y * a / b ≤ g y * a / b := Nat.div_le_div_right (Nat.mul_le_mul_right _ g3)
      exact ih (y + 1) (C + 1) _ _ (by omega) (by omega) (by omega) (by omega)
    · rw [if_neg hc, if_neg hc]
      exact ih (y + 1) C S S' (by omega) (by omega) hS hS'
theorem lev_n (h : Inv N u) (hj : j < 6) {g g' : Nat → Nat} (hg : ∀ y, y < 6 → mm y j = nI (g y) ∧ mm' y j = nI (g' y) ∧ g' y ≤ g y ∧ g y ≤ 100) : ∃ A A' : Nat, lev u mm j = nI A ∧ lev u mm' j = nI A' ∧ A' ≤ A ∧ A ≤ 100 := lvG_n h hj hg 6 0 0 0 0 rfl (Nat.le_refl _) (by omega) (Nat.le_refl _)
/-- memories, and fewer -/
def MB (mm mm' : F3) : Prop := ∀ y, y < 6 → ∀ j, j < 6 → ∃ g g' : Nat, mm y j = nI g ∧ mm' y j = nI g' ∧ g' ≤ g ∧ g ≤ 100
theorem lev_b (h : Inv N u) (hm : MB mm mm') (hj : j < 6) : ∃ A A' : Nat, lev u mm j = nI A ∧ lev u mm' j = nI A' ∧ A' ≤ A ∧ A ≤ 100 := by
  have hf : ∀ y, ∃ p : Nat × Nat, y < 6 → mm y j = nI p.1 ∧ mm' y j = nI p.2 ∧ p.2 ≤ p.1 ∧ p.1 ≤ 100 := fun y => by
    by_cases hy : y < 6
    · obtain ⟨g, g', q⟩ := hm y hy j hj
      exact ⟨(g, g'), fun _ => q⟩
    · exact ⟨(0, 0), fun q => absurd q hy⟩
  obtain ⟨f, hf⟩ := Classical.axiomOfChoice hf
  exact lev_n h hj (g := fun y => (f y).1) (g' := fun y => (f y).2) hf
theorem mm_b (h : Inv N u) : MB (mms u 0) (mms u 0) := fun y hy j hj => by
  have hm := (h.m y hy j hj).1
  have hb : bt (u 40 y j) 0 100 := by
    refine ⟨hm.1, Int.le_trans hm.2 ?_⟩
    unfold most
    split <;> decide
  obtain ⟨g, -, h2, h3⟩ := bt_of (a := 0) (b := 100) hb
  refine ⟨g, g, ?_, ?_, Nat.le_refl _, h2⟩ <;> (show u 40 (8 * 0 + y) j = nI g; rw [Nat.mul_zero, Nat.zero_add]; exact h3)
theorem sAt_n {l l' hd i : Nat} {hf : F3} {lv lv' od : Nat → Int32} {q : Nat} (hq : q < 6) (ho : od i = nI q) (h1 : lv q = nI l) (h2 : lv' q = nI l') (h3 : l' ≤ l) (h4 : l ≤ 100) (h5 : hf q 0 = nI hd) (h6 : hd ≤ 9) (hi : i < 10) : ∃ A A' : Nat, sAt hf lv od i = nI A ∧ sAt hf lv' od i = nI A' ∧ A' ≤ A ∧ A ≤ 100 := by
  have key : ∀ l : Nat, l ≤ 100 → mmax 0 (nI l - (nI i * nI hd) / 4) = nI (l - i * hd / 4) := fun l hl => by
    have h7 : i * hd ≤ 10 * 9 := Nat.mul_le_mul (by omega) h6
    have e : (nI i * nI hd) / 4 = nI (i * hd / 4) := by rw [pk_mul]; exact pk_div (d := 4) (by omega) (by decide) (by decide)
    have h8 : i * hd / 4 ≤ 90 := Nat.le_trans (Nat.div_le_self _ _) h7
    rw [e]
    unfold mmax
    by_cases hc : i * hd / 4 ≤ l
    · rw [pk_sub hc]
      by_cases h0 : l - i * hd / 4 = 0
      · rw [h0]; rfl
      · rw [if_pos (show (0 : Int32) < nI (l - i * hd / 4) from nI_lt (a := 0) (by omega) (by omega))]
    · have hn := pk_sneg (a := l) (b := i * hd / 4) (by omega) (by omega)
      rw [if_neg (fun q => by rw [Int32.lt_iff_toInt_lt] at q hn; omega), show l - i * hd / 4 = 0 by omega]
      rfl
  unfold sAt
  rw [ho, ix_nI (by omega), h1, h2, h5, key l h4, key l' (by omega)]
  exact ⟨_, _, rfl, rfl, by omega, by omega⟩
theorem sumG_n {f f' : Nat → Int32} {m : Nat} (hf : ∀ i, i < m → ∃ A A' : Nat, f i = nI A ∧ f' i = nI A' ∧ A' ≤ A ∧ A ≤ 100) : ∀ (d y S S' : Nat), y + d = m → S' ≤ S → ∃ T T' : Nat, sumG f d y (nI S) = nI T ∧ sumG f' d y (nI S') = nI T' ∧ T' ≤ T ∧ T ≤ S + 100 * d := by
  intro d
  induction d with
  | zero => intro y S S' _ hS; exact ⟨S, S', rfl, rfl, hS, by omega⟩
  | succ d ih =>
    intro y S S' hy hS
    obtain ⟨A, A', h1, h2, h3, h4⟩ := hf y (by omega)
    unfold sumG
    rw [h1, h2, nI_add, nI_add]
    obtain ⟨T, T', q1, q2, q3, q4⟩ := ih (y + 1) (S + A) (S' + A') (by omega) (by omega)
    exact ⟨T, T', q1, q2, q3, by omega⟩
theorem mmin_n {a b : Nat} (ha : a < 1000) (hb : b < 1000) : mmin (nI a) (nI b) = nI (min a b) := by
  unfold mmin
  by_cases h : b < a
  · rw [if_pos (nI_lt h (by omega)), Nat.min_eq_right (by omega)]
  · rw [if_neg (nI_nlt (by omega) (by omega)), Nat.min_eq_left (by omega)]
theorem minG_n {f f' : Nat → Int32} {m : Nat} (hf : ∀ i, i < m → ∃ A A' : Nat, f i = nI A ∧ f' i = nI A' ∧ A' ≤ A ∧ A ≤ 100) : ∀ (d y S S' R : Nat), y + d = m → S' ≤ S → S ≤ 100 → ∃ M M' T : Nat, minG f d y (nI S) = nI M ∧ minG f' d y (nI S') = nI M' ∧ sumG f d y (nI R) = nI T ∧ M' ≤ M ∧ M ≤ S ∧ R + d * M ≤ T ∧ T ≤ R + 100 * d := by
  intro d
  induction d with
  | zero => intro y S S' R _ hS hS2; exact ⟨S, S', R, rfl, rfl, rfl, hS, Nat.le_refl _, by omega, by omega⟩
  | succ d ih =>
    intro y S S' R hy hS hS2
    obtain ⟨A, A', h1, h2, h3, h4⟩ := hf y (by omega)
    unfold minG sumG
    rw [h1, h2, mmin_n (by omega) (by omega), mmin_n (by omega) (by omega), nI_add]
    obtain ⟨M, M', T, q1, q2, q3, q4, q5, q6, q7⟩ := ih (y + 1) (min S A) (min S' A') (R + A) (by omega) (by omega) (by omega)
    refine ⟨M, M', T, q1, q2, q3, q4, by omega, ?_, by omega⟩
    rw [Nat.succ_mul]
    omega
theorem tnG_n : ∀ (d y C S : Nat), y + d = 6 → C ≤ y → S ≤ 8 * C → ∃ A : Nat, tnG u d y (nI C) (nI S) = nI A ∧ A ≤ 96 := by
  intro d
  induction d with
  | zero =>
    intro y C S hy hC hS
    unfold tnG
    rcases Nat.eq_zero_or_pos C with h0 | h0
    · subst h0; exact ⟨0, if_pos rfl, by omega⟩
    · rw [if_neg (nI_ne0 h0 (by omega)), show (12 : Int32) * nI S = nI (12 * S) from pk_mul 12 S, pk_div (by omega) h0 (by omega)]
      exact ⟨_, rfl, Nat.div_le_of_le_mul (by omega)⟩
  | succ d ih =>
    intro y C S hy hC hS
    unfold tnG
    by_cases hc : snd u y = true
    · rw [if_pos hc]
      unfold tng
      rw [nI_add, nI_1]
      have := grd_le (fam := u 11 (y % 4) 0) (w := u 12 (y % 4) 0) (o := u 14 (y % 4))
      exact ih (y + 1) (C + 1) _ (by omega) (by omega) (by omega)
    · rw [if_neg hc]
      exact ih (y + 1) C S (by omega) (by omega) hS
theorem tone_n : ∃ A : Nat, tone u = nI A ∧ A ≤ 96 := tnG_n 6 0 0 0 rfl (Nat.le_refl _) (Nat.le_refl _)
theorem vry_n {hd : F3} {od : Nat → Int32} : ∃ A : Nat, vry hd od n = nI A ∧ A ≤ 100 := by
  have h : ∀ (d y : Nat) (s : Int32), bt (vrG hd od n d y s) 0 100 := by
    intro d
    induction d with
    | zero => intro y s; exact hld_b (a := 0) (b := 100) (by decide)
    | succ d ih => intro y s; unfold vrG; split <;> exact ih _ _
  obtain ⟨A, -, h2, h3⟩ := bt_of (a := 0) (b := 100) (h 6 0 0)
  exact ⟨A, h3, h2⟩
theorem sAt_b (h : Inv N u) {k : Nat} (o : OK1 u k n) (hm : MB mm mm') : ∀ i, i < n → ∃ A A' : Nat, sAt (u 21) (lev u mm) (u 42 k) i = nI A ∧ sAt (u 21) (lev u mm') (u 42 k) i = nI A' ∧ A' ≤ A ∧ A ≤ 100 := fun i hi => by
  obtain ⟨o1, o2, o3⟩ := o
  obtain ⟨q, hq, e⟩ := o3 i hi
  obtain ⟨A, A', h1, h2, h3, h4⟩ := lev_b h hm hq
  obtain ⟨hd, -, h6, h5⟩ := bt_of (a := 1) (b := 9) (h.r q hq).2.1
  exact sAt_n hq e h1 h2 h3 h4 h5 h6 (by omega)
/-- the marks, and those of less -/
theorem marks_n (h : Inv N u) {k : Nat} (o : OK1 u k n) (hm : MB mm mm') : ∃ a a' l l' : Nat, meanS (sAt (u 21) (lev u mm) (u 42 k)) n = nI a ∧ meanS (sAt (u 21) (lev u mm') (u 42 k)) n = nI a' ∧ leastS (sAt (u 21) (lev u mm) (u 42 k)) n = nI l ∧ leastS (sAt (u 21) (lev u mm') (u 42 k)) n = nI l' ∧ a' ≤ a ∧ a ≤ 100 ∧ l' ≤ l ∧ l ≤ a := by
  have hf := sAt_b h o hm
  have h10 := o.1
  rcases Nat.eq_zero_or_pos n with h0 | h0
  · subst h0
    exact ⟨0, 0, 0, 0, if_pos rfl, if_pos rfl, if_pos rfl, if_pos rfl, by omega, by omega, by omega, by omega⟩
  · obtain ⟨T, T', t1, t2, t3, t4⟩ := sumG_n hf n 0 0 0 (by omega) (Nat.le_refl _)
    obtain ⟨M, M', T2, m1, m2, m3, m4, m5, m6, m7⟩ := minG_n hf n 0 100 100 0 (by omega) (Nat.le_refl _) (by omega)
    have hT : T2 = T := (nI_eq (by omega) (by omega)).mp (m3.symm.trans t1)
    subst hT
    unfold meanS leastS
    rw [if_neg (nI_ne0 h0 (by omega)), if_neg (nI_ne0 h0 (by omega)), if_neg (nI_ne0 h0 (by omega)), if_neg (nI_ne0 h0 (by omega))]
    have t1' : sumG (sAt (u 21) (lev u mm) (u 42 k)) n 0 0 = nI T2 := t1
    have t2' : sumG (sAt (u 21) (lev u mm') (u 42 k)) n 0 0 = nI T' := t2
    have m1' : minG (sAt (u 21) (lev u mm) (u 42 k)) n 0 100 = nI M := m1
    have m2' : minG (sAt (u 21) (lev u mm') (u 42 k)) n 0 100 = nI M' := m2
    rw [t1', t2', m1', m2', pk_div (by omega) h0 (by omega), pk_div (by omega) h0 (by omega)]
    refine ⟨_, _, _, _, rfl, rfl, rfl, rfl, Nat.div_le_div_right t3, Nat.div_le_of_le_mul (by omega), m4, ?_⟩
    exact (Nat.le_div_iff_mul_le h0).mpr (by rw [Nat.mul_comm]; omega)
theorem tot_n (h : Inv N u) (o : OK1 u 0 n) (hm : MB mm mm') : ∃ t t' : Nat, totV u mm n = nI t ∧ totV u mm' n = nI t' ∧ t' ≤ t ∧ t ≤ 1000 := by
  obtain ⟨a, a', l, l', h1, h2, h3, h4, h5, h6, h7, h8⟩ := marks_n h o hm
  obtain ⟨V, v1, v2⟩ := vry_n (hd := u 21) (od := u 42 0) (n := n)
  obtain ⟨T, t1, t2⟩ := tone_n (u := u)
  unfold totV hrd
  rw [h1, h2, h3, h4, v1, t1, nI_add, nI_add, nI_add, nI_add, nI_add, nI_add]
  exact ⟨_, _, rfl, rfl, by omega, by omega⟩
end BND
