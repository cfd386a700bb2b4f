/-! 34: class and reference agree on a fresh object: rehearse, pass, wouldTotal -/
section AG3
variable {w x1 x2 x3 : Int32} {u : St}
theorem lp_m {T : Type} (z : T) (b : T → T) : lp z b 1000000 = b (lp z b 999999) := rfl
theorem le00 : ((0 : Int32) ≤ 0) = True := eq_true (by decide)
theorem le01 : ((0 : Int32) ≤ 1) = True := eq_true (by decide)
def Fr (u : St) : Prop := u 0 0 0 = 0 ∧ u 1 0 0 = 0 ∧ u 2 0 0 = 0 ∧ u 43 0 0 = 0
theorem weigh0 {k : Nat} (h : u 1 0 0 = 0) : f_X7_weigh N0 u k = some ((), u) := by
  unfold f_X7_weigh f_X7_weigh_L2
  rw [lp_m]
  simp only [f_X7_weigh_L2b, h, le00, ↓reduceIte]
theorem tone0 (h : u 2 0 0 = 0) : f_X7_tone N0 u = some (0, u) := by
  unfold f_X7_tone f_X7_tone_L6
  rw [lp_m]
  simp only [f_X7_tone_L6b, h, le00, ↓reduceIte]
theorem mean0 {k : Nat} (h : u 43 k 0 = 0) : f_X7_meanSound N0 u k = some (0, u) := by
  unfold f_X7_meanSound f_X7_meanSound_L4
  rw [lp_m]
  simp only [f_X7_meanSound_L4b, h, le00, ↓reduceIte]
theorem rep0 {k : Nat} (h : u 43 k 0 = 0) : f_X0_repeats N0 u k = some (0, u) := by
  unfold f_X0_repeats f_X0_repeats_L4
  rw [lp_m]
  simp only [f_X0_repeats_L4b, h, le01, ↓reduceIte]
theorem var0 {k : Nat} (h1 : u 1 0 0 = 0) (h : u 43 k 0 = 0) : f_X7_variety N0 u k = some (0, u) := by
  unfold f_X7_variety f_X7_variety_L4
  rw [lp_m]
  simp only [f_X7_variety_L4b, h1, le00, ↓reduceIte, rep0 h, sb_some]
  rfl
theorem least0 {k : Nat} (h : u 43 k 0 = 0) : f_X7_leastSound N0 u k = some (0, u) := by
  unfold f_X7_leastSound f_X7_leastSound_L5
  rw [lp_m]
  simp only [f_X7_leastSound_L5b, h, le00, ↓reduceIte]
theorem heard0 {k : Nat} (h1 : u 1 0 0 = 0) (h : u 43 k 0 = 0) : f_X7_heard N0 u k = some (0, u) := by
  unfold f_X7_heard
  rw [mean0 h, sb_some, var0 h1 h, sb_some, least0 h, sb_some]
  rfl
theorem snd0 (h : u 2 0 0 = 0) : f_X7_soundingCount N0 u = some (0, u) := by
  unfold f_X7_soundingCount f_X7_soundingCount_L4
  rw [lp_m]
  simp only [f_X7_soundingCount_L4b, h, le00, ↓reduceIte]
theorem weather0 (h : u 0 0 0 = 0) : f_X7_weather N0 u x1 x2 = some ((), u) := by
  unfold f_X7_weather f_X7_weather_L2
  rw [lp_m]
  simp only [f_X7_weather_L2b, h, le00, ↓reduceIte]
theorem sleep0 {k : Nat} : ∃ u', f_X2_sleep N0 u k 0 = some ((), u') ∧ ∀ f a i, f ≠ 41 → u' f a i = u f a i := ⟨_, rfl, fun f a i h => by simp [sset, h]⟩
theorem turn0 : ∃ u', f_X6_turn N0 u = some ((), u') ∧ u' 51 0 0 = u 51 0 0 + 1 ∧ ∀ f a i, f ≠ 50 → f ≠ 51 → f ≠ 52 → f ≠ 53 → u' f a i = u f a i := ⟨_, rfl, rfl, fun f a i h1 h2 h3 h4 => by simp [sset, h1, h2, h3, h4]⟩
theorem s32 {y : Int32} (h : 0 ≤ y.toInt) (h2 : y.toInt < 1000) : (y + 1).toInt = y.toInt + 1 := by
  rw [Int32.toInt_add, show (1 : Int32).toInt = 1 from by decide +kernel]
  simp only [Int.bmod]
  split <;> omega
theorem pass_loop {y1 y2 y3 : Int32} (h30 : y1.toInt ≤ 30) : ∀ (d n : Nat) (y4 : Int32) (u : St), d < n → Fr u → u 51 0 0 = y4 → 0 ≤ y4.toInt → y1.toInt = y4.toInt + d → ∃ u9, f_X7_pass_L53 N0 n y4 y1 y2 y3 u = some (.ok y1, u9) := by
  intro d
  induction d with
  | zero =>
    intro n y4 u hn hF hd h0 he
    obtain ⟨n', rfl⟩ : ∃ n', n = n' + 1 := ⟨n - 1, by omega⟩
    have hy : y1 = y4 := Int32.toInt_inj.mp (by omega)
    refine ⟨u, ?_⟩
    show f_X7_pass_L53b N0 (f_X7_pass_L53 N0 n') y4 y1 y2 y3 u = _
    unfold f_X7_pass_L53b
    rw [if_pos (by rw [hy]; exact Int32.le_refl _), hd, hy]
  | succ d ih =>
    intro n y4 u hn hF hd h0 he
    obtain ⟨n', rfl⟩ : ∃ n', n = n' + 1 := ⟨n - 1, by omega⟩
    show ∃ u9, f_X7_pass_L53b N0 (f_X7_pass_L53 N0 n') y4 y1 y2 y3 u = _
    unfold f_X7_pass_L53b
    obtain ⟨u1, e1, k1⟩ := sleep0 (u := u) (k := 0)
    obtain ⟨u2, e2, d2, k2⟩ := turn0 (u := u1)
    obtain ⟨f0, f1, f2, f3⟩ := hF
    rw [if_neg (by rw [Int32.le_iff_toInt_le]; omega), f1, e1, sb_some, weather0 ((k1 0 0 0 (by decide)).trans f0), sb_some, e2, sb_some]
    have hs := s32 h0 (by omega)
    exact ih n' (y4 + 1) u2 (by omega) ⟨(k2 0 0 0 (by decide) (by decide) (by decide) (by decide)).trans ((k1 0 0 0 (by decide)).trans f0), (k2 1 0 0 (by decide) (by decide) (by decide) (by decide)).trans ((k1 1 0 0 (by decide)).trans f1), (k2 2 0 0 (by decide) (by decide) (by decide) (by decide)).trans ((k1 2 0 0 (by decide)).trans f2), (k2 43 0 0 (by decide) (by decide) (by decide) (by decide)).trans ((k1 43 0 0 (by decide)).trans f3)⟩ (by rw [d2, k1 51 0 0 (by decide), hd]) (by omega) (by omega)
theorem would_loop {y1 : Int32} (h60 : y1.toInt ≤ 60) : ∀ (d n : Nat) (y2 : Int32) (u : St), d < n → Fr u → 0 ≤ y2.toInt → y1.toInt = y2.toInt + d → ∃ u9, f_X7_wouldTotal_L34 N0 n y2 y1 u = some (.ok 0, u9) := by
  intro d
  induction d with
  | zero =>
    intro n y2 u hn hF h0 he
    obtain ⟨n', rfl⟩ : ∃ n', n = n' + 1 := ⟨n - 1, by omega⟩
    obtain ⟨f0, f1, f2, f3⟩ := hF
    refine ⟨u, ?_⟩
    show f_X7_wouldTotal_L34b N0 (f_X7_wouldTotal_L34 N0 n') y2 y1 u = _
    unfold f_X7_wouldTotal_L34b
    rw [if_pos (by rw [Int32.le_iff_toInt_le]; omega), weigh0 f1, sb_some, tone0 f2, sb_some, heard0 f1 f3, sb_some]
    rfl
  | succ d ih =>
    intro n y2 u hn hF h0 he
    obtain ⟨n', rfl⟩ : ∃ n', n = n' + 1 := ⟨n - 1, by omega⟩
    show ∃ u9, f_X7_wouldTotal_L34b N0 (f_X7_wouldTotal_L34 N0 n') y2 y1 u = _
    unfold f_X7_wouldTotal_L34b
    obtain ⟨u1, e1, k1⟩ := sleep0 (u := u) (k := 1)
    obtain ⟨f0, f1, f2, f3⟩ := hF
    rw [if_neg (by rw [Int32.le_iff_toInt_le]; omega), f1, e1, sb_some]
    have hs := s32 h0 (by omega)
    exact ih n' (y2 + 1) u1 (by omega) ⟨(k1 0 0 0 (by decide)).trans f0, (k1 1 0 0 (by decide)).trans f1, (k1 2 0 0 (by decide)).trans f2, (k1 43 0 0 (by decide)).trans f3⟩ (by omega) (by omega)
theorem fr00 : Fr u00 := ⟨rfl, rfl, rfl, rfl⟩
def frc (a : Option (Unit × St)) : Bool := match a with
  | some (_, u) => decide (u 0 0 0 = 0) && (decide (u 1 0 0 = 0) && (decide (u 2 0 0 = 0) && decide (u 43 0 0 = 0)))
  | none => false
theorem frc_s {a : Option (Unit × St)} (h : frc a = true) : ∃ u9, a = some ((), u9) ∧ Fr u9 := by
  match a, h with
  | some ((), u), h =>
    simp only [frc, Bool.and_eq_true, decide_eq_true_eq] at h
    exact ⟨u, rfl, h.1, h.2.1, h.2.2.1, h.2.2.2⟩
theorem copy_c : ∃ u9, f_X2_copyFrom N0 u00 1 0 = some ((), u9) ∧ Fr u9 := frc_s (by decide +kernel)
theorem gpass_c : ∀ n : Fin 30, g_X11_pass (mW (Int32.ofNat (n + 1))) (Int32.ofNat (n + 1)) 0 0 = some (Int32.ofNat (n + 1), 0) := by decide +kernel
set_option maxRecDepth 100000 in
theorem gpass_e {M : St} (h2 : win x2 0 9 = 1) (h3 : win x3 0 9 = 1) : g_X11_pass M x1 x2 x3 = g_X11_pass M x1 0 0 := by
  unfold g_X11_pass
  simp only [gwi, h2, h3, show win 0 0 9 = 1 from by decide, g_X11_weather]
theorem ag_pass : ∃ k w9 b9, R_pass x1 x2 x3 k w9 0 ∧ g_X11_pass (mW w9) x1 x2 x3 = some (b9, k) ∧ (k = 0 → w9 = b9) := by
  rcases win01 x1 1 30 with h | h
  · exact ⟨1, 0, 0, Or.inr ⟨u00, by simp only [f_X7_pass, fwi, h, sb_some, ↓reduceIte], rfl, rfl⟩, by unfold g_X11_pass; rw [gwi, h, ob_some, if_pos rfl, gs1, ob2_some]; rfl, fun q => absurd q (by decide)⟩
  · rcases win01 x2 0 9 with h2 | h2
    · exact ⟨1, 0, 0, Or.inr ⟨u00, by simp only [f_X7_pass, fwi, h, h2, sb_some, ↓reduceIte, i1], rfl, rfl⟩, by unfold g_X11_pass; rw [gwi, h, ob_some, i1, gwi, h2, ob_some, if_pos rfl, gs1, ob2_some]; rfl, fun q => absurd q (by decide)⟩
    · rcases win01 x3 0 9 with h3 | h3
      · exact ⟨1, 0, 0, Or.inr ⟨u00, by simp only [f_X7_pass, fwi, h, h2, h3, sb_some, ↓reduceIte, i1], rfl, rfl⟩, by unfold g_X11_pass; rw [gwi, h, ob_some, i1, gwi, h2, ob_some, i1, gwi, h3, ob_some, if_pos rfl, gs1, ob2_some]; rfl, fun q => absurd q (by decide)⟩
      · have hb := win_b h
        rw [show (1 : Int32).toInt = 1 from by decide +kernel, show (30 : Int32).toInt = 30 from by decide +kernel] at hb
        obtain ⟨u9, e9⟩ := pass_loop (y1 := x1) (y2 := x2) (y3 := x3) hb.2 x1.toInt.toNat 1000000 0 u00 (by omega) fr00 rfl (by decide) (by rw [k0]; omega)
        refine ⟨0, x1, x1, Or.inl ⟨u9, by simp only [f_X7_pass, fwi, h, h2, h3, sb_some, i1]; exact e9, rfl⟩, ?_, fun _ => rfl⟩
        rw [gpass_e h2 h3]
        obtain ⟨n, hn1, hn2, rfl⟩ := win_nat (A := 1) (B := 30) (by decide +kernel) (by decide +kernel) h
        have hg := gpass_c ⟨n - 1, by omega⟩
        rw [show ((⟨n - 1, by omega⟩ : Fin 30).val + 1) = n from by show n - 1 + 1 = n; omega] at hg
        exact hg
theorem ag_wouldTotal : ∃ k w9 b9, R_wouldTotal x1 k w9 0 ∧ g_X11_wouldTotal (mW w9) x1 = some (b9, k) ∧ (k = 0 → w9 = b9) := by
  rcases win01 x1 0 60 with h | h
  · exact ⟨1, 0, 0, Or.inr ⟨u00, by simp only [f_X7_wouldTotal, fwi, h, sb_some, ↓reduceIte], rfl, rfl⟩, by simp only [↓reduceIte, g_X11_wouldTotal, gwi, h, ob_some, gs1, ob2_some]; rfl, fun q => absurd q (by decide)⟩
  · have hb := win_b h
    rw [k0, show (60 : Int32).toInt = 60 from by decide +kernel] at hb
    obtain ⟨u1, e1, f1⟩ := copy_c
    obtain ⟨u9, e9⟩ := would_loop (y1 := x1) hb.2 x1.toInt.toNat 1000000 0 u1 (by omega) f1 (by decide) (by rw [k0]; omega)
    exact ⟨0, 0, 0, Or.inl ⟨u9, by simp only [f_X7_wouldTotal, fwi, h, sb_some, i1, e1]; exact e9, rfl⟩, by simp only [↓reduceIte, g_X11_wouldTotal, gwi, h, i1, ob_some, gs0, ob2_some, gt1 (show (0 : Int32) = 0 from rfl)]; rfl, fun _ => rfl⟩
theorem ag_rehearse : ∃ k w9 b9, R_rehearse x1 k w9 0 ∧ g_X11_rehearse_ (mW w9) x1 = some (b9, k) ∧ (k = 0 → w9 = b9) := by
  rcases win01 x1 10 120 with h | h
  · exact ⟨1, 0, 0, Or.inr (Or.inl ⟨u00, by simp only [f_X7_rehearse, fwi, h, sb_some, ↓reduceIte], rfl, rfl⟩), by simp only [↓reduceIte, g_X11_rehearse_, gwi, h, ob_some, gs1, ob2_some]; rfl, fun q => absurd q (by decide)⟩
  · have hb := win_b h
    have hle : (0 : Int32) + x1 ≤ 120 := by rw [Int32.zero_add, Int32.le_iff_toInt_le]; exact hb.2
    refine ⟨0, 0, 0, Or.inl ?_, ?_, fun _ => rfl⟩
    · simp only [f_X7_rehearse, fwi, h, sb_some, i1]
      rw [if_pos (show u00 52 0 0 + x1 ≤ 120 from hle)]
      refine ⟨sset u00 52 0 0 (u00 52 0 0 + x1), ?_, trivial⟩
      show f_X7_rehearse_L60 N0 1000000 0 x1 (sset u00 52 0 0 (u00 52 0 0 + x1)) = _
      unfold f_X7_rehearse_L60
      rw [lp_m]
      show (if (sset u00 52 0 0 (u00 52 0 0 + x1)) 2 0 0 ≤ (0 : Int32) then sb (f_X7_soundingCount N0 (sset u00 52 0 0 (u00 52 0 0 + x1))) (fun r8 u10 => some ((Except.ok r8 : Except String Int32), u10)) else _) = _
      rw [if_pos (show (sset u00 52 0 0 (u00 52 0 0 + x1)) 2 0 0 ≤ 0 from (show (0 : Int32) ≤ 0 from by decide)), snd0 rfl]
      rfl
    · simp only [g_X11_rehearse_, gwi, h, i1, ob_some, gs0, ob2_some, gt1 (show (0 : Int32) = 0 from rfl)]
      rw [if_pos (show mZ 0 10 0 0 + x1 ≤ 120 from hle), gr0, ob2_some, gt1 rfl]
      rfl
end AG3
