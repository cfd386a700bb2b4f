/-! 33: class and reference agree on a fresh object, the calls that answer -/
section AG2
variable {w x1 x2 x3 : Int32}
theorem k0 : (0 : Int32).toInt = ((0 : Nat) : Int) := by decide +kernel
theorem cov0 : ∃ r8 u8 t8, f_X7_cover N0 u00 0 = some (r8, u8) ∧ g_X11_cover (mW 0) 0 = some (r8, t8) := ⟨0, _, 0, rfl, rfl⟩
theorem cov1 : ∃ r8 u8 t8, f_X7_cover N0 u00 1 = some (r8, u8) ∧ g_X11_cover (mW 0) 1 = some (r8, t8) := ⟨0, _, 0, rfl, rfl⟩
theorem ag_cover : ∀ {q : Int32}, q = 0 ∨ q = 1 → ∃ r8 u8 t8, f_X7_cover N0 u00 q = some (r8, u8) ∧ g_X11_cover (mW 0) q = some (r8, t8) := by
  intro q h
  rcases h with rfl | rfl
  · exact cov0
  · exact cov1
def okl (a : Option (Except String Int64 × St)) (b : Option (Int64 × Int32)) : Bool := match a, b with
  | some (.ok x, _), some (y, _) => decide (x = y)
  | _, _ => false
theorem okl_s {a : Option (Except String Int64 × St)} {b : Option (Int64 × Int32)} (h : okl a b = true) : ∃ r8 u8 t8, a = some (.ok r8, u8) ∧ b = some (r8, t8) := by
  match a, b, h with
  | some (.ok x, u), some (y, t), h => exact ⟨x, u, t, rfl, by rw [show x = y from of_decide_eq_true h]⟩
theorem ag_digest : ∃ r8 u8 t8, f_X7_digest N0 u00 = some (.ok r8, u8) ∧ g_X11_digest (mW 0) = some (r8, t8) := okl_s (by decide +kernel)
def okd (a : Option (UInt64 × St)) : Bool := match a with
  | some (x, _) => decide (x = 0)
  | _ => false
theorem okd_s {a : Option (UInt64 × St)} (h : okd a = true) : ∃ u8, a = some (0, u8) := by
  match a, h with
  | some (x, u), h => exact ⟨u, by rw [show x = 0 from of_decide_eq_true h]⟩
theorem mean_c : ∃ u8, f_X7_meanMemory N0 u00 = some (0, u8) := okd_s (by decide +kernel)
theorem ag_meanMemory : ∃ r8 u8 t8, f_X7_meanMemory N0 u00 = some (r8, u8) ∧ g_X11_meanMemory (mW 0) = some (r8, t8) := by
  obtain ⟨u8, h⟩ := mean_c
  exact ⟨0, u8, 0, h, rfl⟩
theorem mean_0 : ∀ {r8 : UInt64} {u8 : St}, f_X7_meanMemory N0 u00 = some (r8, u8) → Op.cmpValue (FP.dcmp r8 r8) .l = 0 := by
  intro r8 u8 h
  obtain ⟨u, h2⟩ := mean_c
  rw [h2] at h
  cases h
  decide +kernel
theorem ag_pan : ∃ k w9 b9, R_pan x1 k w9 0 ∧ g_X11_pan (mW w9) x1 = some (b9, k) ∧ (k = 0 → w9 = b9) := by
  rcases win01 x1 0 3 with h | h
  · exact ⟨1, 0, 0, Or.inr (Or.inl ⟨u00, by simp only [↓reduceIte, f_X7_pan, f_X7_requireSection, fwi, h, sb_some, i0, xb_er], rfl, rfl⟩), by simp only [↓reduceIte, g_X11_pan, g_X11_isNoFamily, gwi, h, ob_some, i0, gs1, ob2_some, i1]; rfl, fun q => absurd q (by decide)⟩
  · obtain ⟨n, -, hn, rfl⟩ := win_nat (A := 0) (B := 3) k0 (by decide +kernel) h
    obtain ⟨r, u9, e1, e2⟩ := chk_s (pan_c ⟨n, by omega⟩)
    exact ⟨0, r, r, Or.inl ⟨u9, e1, rfl⟩, e2, fun _ => rfl⟩
theorem ag_many : ∃ k w9 b9, R_many x1 k w9 0 ∧ g_X11_many (mW w9) x1 = some (b9, k) ∧ (k = 0 → w9 = b9) := by
  rcases win01 x1 0 13 with h | h
  · have hne : ∀ j : Int32, win j 0 13 = 1 → ¬ x1 = j := fun j hj e => by rw [e, hj] at h; exact absurd h (by decide)
    refine ⟨1, 0, 0, Or.inr ⟨u00, ?_, rfl, rfl⟩, by simp only [↓reduceIte, g_X11_many, gwi, h, ob_some, i0, gs1, ob2_some]; rfl, fun q => absurd q (by decide)⟩
    unfold f_X7_many
    rw [if_neg (hne 0 (by decide)), if_neg (hne 1 (by decide)), if_neg (hne 2 (by decide)), if_neg (hne 3 (by decide)), if_neg (hne 4 (by decide)), if_neg (hne 5 (by decide)), if_neg (hne 6 (by decide)), if_neg (hne 7 (by decide)), if_neg (hne 8 (by decide)), if_neg (hne 9 (by decide)), if_neg (hne 10 (by decide)), if_neg (hne 11 (by decide)), if_neg (hne 12 (by decide)), if_neg (hne 13 (by decide))]
  · obtain ⟨n, -, hn, rfl⟩ := win_nat (A := 0) (B := 13) k0 (by decide +kernel) h
    obtain ⟨r, u9, e1, e2⟩ := chk_s (many_c ⟨n, by omega⟩)
    exact ⟨0, r, r, Or.inl ⟨u9, e1, rfl⟩, e2, fun _ => rfl⟩
theorem ag_mark : ∃ k w9 b9, R_mark x1 k w9 0 ∧ g_X11_mark_ (mW w9) x1 = some (b9, k) ∧ (k = 0 → w9 = b9) := by
  rcases win01 x1 0 3 with h | h
  · exact ⟨1, 0, 0, Or.inr ⟨u00, by simp only [↓reduceIte, f_X7_mark, fwi, h, sb_some, i0], rfl, rfl⟩, by simp only [↓reduceIte, g_X11_mark_, gwi, h, ob_some, i0, gs1, ob2_some]; rfl, fun q => absurd q (by decide)⟩
  · obtain ⟨n, -, hn, rfl⟩ := win_nat (A := 0) (B := 3) k0 (by decide +kernel) h
    obtain ⟨r, u9, e1, e2⟩ := chk_s (mark_c ⟨n, by omega⟩)
    exact ⟨0, r, r, Or.inl ⟨u9, e1, rfl⟩, e2, fun _ => rfl⟩
theorem ag_ofRound : ∃ k w9 b9, R_ofRound x1 x2 k w9 0 ∧ g_X11_ofRound (mW w9) x1 x2 = some (b9, k) ∧ (k = 0 → w9 = b9) := by
  rcases win01 x1 0 2 with h | h
  · exact ⟨1, 0, 0, Or.inr (Or.inl ⟨u00, by simp only [↓reduceIte, f_X7_ofRound, fwi, h, sb_some, i0], rfl, rfl⟩), by simp only [↓reduceIte, g_X11_ofRound, gwi, h, ob_some, i0, gs1, ob2_some]; rfl, fun q => absurd q (by decide)⟩
  · rcases win01 x2 0 1 with h2 | h2
    · exact ⟨2, 0, 0, Or.inr (Or.inr ⟨u00, by simp only [↓reduceIte, f_X7_ofRound, fwi, h, h2, sb_some, i0, i1], rfl, rfl⟩), by simp only [↓reduceIte, g_X11_ofRound, gwi, h, h2, ob_some, i0, i1, gs0, ob2_some, gt1 (show (0 : Int32) = 0 from rfl), gr2]; rfl, fun q => absurd q (by decide)⟩
    · obtain ⟨n, -, hn, rfl⟩ := win_nat (A := 0) (B := 2) k0 (by decide +kernel) h
      obtain ⟨n2, -, hn2, rfl⟩ := win_nat (A := 0) (B := 1) k0 (by decide +kernel) h2
      obtain ⟨r, u9, e1, e2⟩ := chk_s (ofRound_c ⟨n, by omega⟩ ⟨n2, by omega⟩)
      exact ⟨0, r, r, Or.inl ⟨u9, e1, rfl⟩, e2, fun _ => rfl⟩
theorem ag_bestOrder : ∃ k w9 b9, R_bestOrder k w9 0 ∧ g_X11_bestOrder (mW w9) = some (b9, k) ∧ (k = 0 → w9 = b9) := by
  obtain ⟨r, u9, e1, e2⟩ := chk_s bestOrder_c
  exact ⟨0, r, r, Or.inl ⟨u9, e1, rfl⟩, e2, fun _ => rfl⟩
theorem ag_phrase : ∃ k w9 b9, R_phrase x1 x2 x3 k w9 0 ∧ g_X11_phrase (mW w9) x1 x2 x3 = some (b9, k) ∧ (k = 0 → w9 = b9) := by
  rcases win01 x1 0 3 with h | h
  · exact ⟨1, 0, 0, Or.inr (Or.inl ⟨u00, by simp only [↓reduceIte, f_X7_phrase, f_X7_requireSection, fwi, h, sb_some, i0, xb_er], rfl, rfl⟩), by simp only [↓reduceIte, g_X11_phrase, g_X11_isNoFamily, gwi, h, ob_some, i0, gs1, ob2_some, i1]; rfl, fun q => absurd q (by decide)⟩
  · rcases win01 x2 1 9 with h2 | h2
    · exact ⟨2, 0, 0, Or.inr (Or.inr (Or.inl ⟨u00, by simp only [↓reduceIte, f_X7_phrase, f_X7_requireSection, f_X7_requirePhraseWords, fwi, h, h2, sb_some, i0, i1, xb_er, xb_ok], rfl, rfl⟩)), by simp only [↓reduceIte, g_X11_phrase, g_X11_isNoFamily, g_X11_isNoTold, gwi, h, h2, ob_some, i0, gs0, ob2_some, i1, gr2]; rfl, fun q => absurd q (by decide)⟩
    · rcases win01 x3 1 255 with h3 | h3
      · exact ⟨2, 0, 0, Or.inr (Or.inr (Or.inl ⟨u00, by simp only [↓reduceIte, f_X7_phrase, f_X7_requireSection, f_X7_requirePhraseWords, fwi, h, h2, h3, sb_some, i0, i1, xb_er, xb_ok], rfl, rfl⟩)), by simp only [↓reduceIte, g_X11_phrase, g_X11_isNoFamily, g_X11_isNoTold, gwi, h, h2, h3, ob_some, i0, gs0, ob2_some, i1, gr2]; rfl, fun q => absurd q (by decide)⟩
      · exact ⟨0, 0, 0, Or.inl (by
          simp only [↓reduceIte, R_phrase, f_X7_phrase, f_X7_requireSection, f_X7_requirePhraseWords, fwi, h, h2, h3, sb_some, i0, i1, xb_er, xb_ok]
          exact ⟨_, rfl, trivial⟩), by simp only [↓reduceIte, g_X11_phrase, g_X11_isNoFamily, g_X11_isNoTold, gwi, h, h2, h3, ob_some, i0, gs0, ob2_some, i1, gr0, gt1 (show (0 : Int32) = 0 from rfl)]; rfl, fun _ => rfl⟩
theorem ag_player : ∃ k w9 b9, R_player x1 x2 x3 k w9 0 ∧ g_X11_player (mW w9) x1 x2 x3 = some (b9, k) ∧ (k = 0 → w9 = b9) := by
  rcases win01 x1 0 3 with h | h
  · exact ⟨1, 0, 0, Or.inr (Or.inl ⟨u00, by simp only [↓reduceIte, f_X7_player, f_X7_requireSection, fwi, h, sb_some, i0, xb_er], rfl, rfl⟩), by simp only [↓reduceIte, g_X11_player, g_X11_isNoFamily, gwi, h, ob_some, i0, gs1, ob2_some, i1]; rfl, fun q => absurd q (by decide)⟩
  · rcases win01 x2 1 9 with h2 | h2
    · exact ⟨2, 0, 0, Or.inr (Or.inr (Or.inl ⟨u00, by simp only [↓reduceIte, f_X7_player, f_X7_requireSection, fwi, h, h2, sb_some, i0, i1, xb_er, xb_ok], rfl, rfl⟩)), by simp only [↓reduceIte, g_X11_player, g_X11_isNoFamily, gwi, h, h2, ob_some, i0, gs0, ob2_some, i1, gr2, gt1 (show (1 : Int32) = 1 from rfl)]; rfl, fun q => absurd q (by decide)⟩
    · rcases win01 x3 1 8 with h3 | h3
      · exact ⟨2, 0, 0, Or.inr (Or.inr (Or.inl ⟨u00, by simp only [↓reduceIte, f_X7_player, f_X7_requireSection, fwi, h, h2, h3, sb_some, i0, i1, xb_er, xb_ok], rfl, rfl⟩)), by simp only [↓reduceIte, g_X11_player, g_X11_isNoFamily, gwi, h, h2, h3, ob_some, i0, gs0, ob2_some, i1, gr2, gt1 (show (1 : Int32) = 1 from rfl)]; rfl, fun q => absurd q (by decide)⟩
      · exact ⟨0, 0, 0, Or.inl (by
          simp only [↓reduceIte, f_X7_player, f_X7_requireSection, fwi, h, h2, h3, sb_some, i0, i1, xb_er, xb_ok]
          exact ⟨_, rfl, trivial⟩), by simp only [↓reduceIte, g_X11_player, g_X11_isNoFamily, gwi, h, h2, h3, ob_some, i0, gs0, ob2_some, i1, gr0, gt1 (show (0 : Int32) = 0 from rfl)]; rfl, fun _ => rfl⟩
theorem ag_sponsor : ∃ k w9 b9, R_sponsor x1 k w9 0 ∧ g_X11_sponsor (mW w9) x1 = some (b9, k) ∧ (k = 0 → w9 = b9) := by
  rcases win01 x1 1 500 with h | h
  · exact ⟨1, 0, 0, Or.inr ⟨u00, by simp only [↓reduceIte, f_X7_sponsor, fwi, h, sb_some, i0], rfl, rfl⟩, by simp only [↓reduceIte, g_X11_sponsor, gwi, h, ob_some, i0, gs1, ob2_some]; rfl, fun q => absurd q (by decide)⟩
  · exact ⟨0, 200 + x1, 200 + x1, Or.inl (by
      simp only [↓reduceIte, f_X7_sponsor, fwi, h, sb_some, i1]
      exact ⟨_, rfl, trivial⟩), by simp only [↓reduceIte, g_X11_sponsor, gwi, h, ob_some, i1, gs0, ob2_some, gt1 (show (0 : Int32) = 0 from rfl)]; rfl, fun _ => rfl⟩
theorem ag_rival : ∃ k w9 b9, R_rival x1 k w9 0 ∧ g_X11_rival (mW w9) x1 = some (b9, k) ∧ (k = 0 → w9 = b9) := by
  rcases win01 x1 0 400 with h | h
  · exact ⟨1, 0, 0, Or.inr (Or.inl ⟨u00, by simp only [↓reduceIte, f_X7_rival, fwi, h, sb_some, i0], rfl, rfl⟩), by simp only [↓reduceIte, g_X11_rival, gwi, h, ob_some, i0, gs1, ob2_some]; rfl, fun q => absurd q (by decide)⟩
  · have hb := win_b h
    rw [k0] at hb
    exact ⟨0, 0, 0, Or.inl (by
      simp only [↓reduceIte, f_X7_rival, fwi, h, sb_some, i1]
      exact ⟨_, rfl, trivial⟩), by simp only [↓reduceIte, g_X11_rival, gwi, h, ob_some, i1, gs0, ob2_some, gr0, gt1 (show (0 : Int32) = 0 from rfl), gt1 (show 0 ≤ Int32.toInt x1 from hb.1)]; rfl, fun _ => rfl⟩
theorem ag_lean : ∃ k w9 b9, R_lean x1 x2 k w9 0 ∧ g_X11_lean (mW w9) x1 x2 = some (b9, k) ∧ (k = 0 → w9 = b9) := by
  rcases win01 x1 0 2 with h | h
  · exact ⟨1, 0, 0, Or.inr (Or.inl ⟨u00, by simp only [↓reduceIte, f_X7_lean, fwi, h, sb_some, i0], rfl, rfl⟩), by simp only [↓reduceIte, g_X11_lean, gwi, h, ob_some, i0, gs1, ob2_some]; rfl, fun q => absurd q (by decide)⟩
  · rcases win01 x2 (-9) 9 with h2 | h2
    · exact ⟨2, 0, 0, Or.inr (Or.inr ⟨u00, by simp only [↓reduceIte, f_X7_lean, fwi, h, h2, sb_some, i0, i1], rfl, rfl⟩), by simp only [↓reduceIte, g_X11_lean, gwi, h, h2, ob_some, i0, i1, gs0, ob2_some, gt1 (show (0 : Int32) = 0 from rfl), gr2]; rfl, fun q => absurd q (by decide)⟩
    · have hb := win_b h
      rw [k0, show (2 : Int32).toInt = 2 from by decide +kernel] at hb
      have hi : inb x1 3 := ⟨hb.1, by omega⟩
      exact ⟨0, 0, 0, Or.inl (by
        simp only [↓reduceIte, f_X7_lean, fwi, h, h2, sb_some, i1, gt1 hi]
        exact ⟨_, rfl, trivial⟩), by simp only [↓reduceIte, g_X11_lean, gwi, h, h2, ob_some, i1, gs0, ob2_some, gr0, gt1 (show (0 : Int32) = 0 from rfl), gt1 hi]; rfl, fun _ => rfl⟩
end AG2
