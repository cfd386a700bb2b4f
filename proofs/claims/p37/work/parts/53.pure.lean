/-! 53: days pass -/
theorem sub3 (a b c : Int32) : a - b - c = a - c - b := by
  rw [Int32.sub_eq_add_neg, Int32.sub_eq_add_neg, Int32.sub_eq_add_neg, Int32.sub_eq_add_neg, Int32.add_assoc, Int32.add_comm (-b), ← Int32.add_assoc]
theorem sub4 (a b c : Int32) : a - b - c = a - (b + c) := by
  first
    | exact Int32.sub_sub ..
    | rw [Int32.sub_eq_add_neg a (b + c), Int32.neg_add, Int32.sub_eq_add_neg (-b) c, ← Int32.add_assoc, ← Int32.sub_eq_add_neg, ← Int32.sub_eq_add_neg]
    | (apply Int32.toBitVec_inj.mp; simp only [Int32.toBitVec_sub, Int32.toBitVec_add]; exact BitVec.sub_sub ..)
    | (apply Int32.toBitVec_inj.mp; simp [Int32.toBitVec_sub, Int32.toBitVec_add, BitVec.sub_eq_add_neg, BitVec.neg_add, BitVec.add_assoc])
def wm (o : Nat → Int32) (Y : Nat) : Nat → Int32 := fun i => if i < Y then hld (o i + 1) (-99) 99 else o i
theorem wm_0 {o : Nat → Int32} : wm o 0 = o := funext fun i => if_neg (Nat.not_lt_zero _)
theorem wm_s {o : Nat → Int32} {Y : Nat} : shO (wm o Y) Y 1 = wm o (Y + 1) := funext fun i => by
  unfold shO upd wm
  by_cases h : i = Y
  · subst h
    rw [if_pos rfl, if_neg (Nat.lt_irrefl _), if_pos (Nat.lt_succ_self _)]
  · rw [if_neg h]
    exact ifc (by omega) rfl rfl
theorem wm_ok {o : Nat → Int32} {Y : Nat} (h : okO o) : okO (wm o Y) := fun i hi => by
  unfold wm
  split
  · exact hld_b (a := -99) (b := 99) (by decide)
  · exact h i hi
section PS
variable {N : Nt} {u v : St}
theorem f_warm_l {k : Nat} {w b : Int32} {o : Nat → Int32} : ∀ (d y n : Nat), y + d = 8 → d < n → f_X3_warm_L2 N k n (nI y) (setP u k w b (wm o y)) = some ((), setP u k w b (wm o 8)) := by
  intro d
  induction d with
  | zero =>
    intro y n hy hn
    obtain ⟨n', rfl, -⟩ := fuel hn
    show f_X3_warm_L2b N k (f_X3_warm_L2 N k n') (nI y) _ = _
    unfold f_X3_warm_L2b
    obtain rfl : y = 8 := by omega
    rw [if_pos (by decide)]
  | succ d ih =>
    intro y n hy hn
    obtain ⟨n', rfl, h'⟩ := fuel hn
    show f_X3_warm_L2b N k (f_X3_warm_L2 N k n') (nI y) _ = _
    unfold f_X3_warm_L2b
    rw [if_neg (lge8 (y := y) (by omega)), f_shift (by omega), sb_some, nm_u, nI_1, wm_s]
    exact ih (y + 1) n' (by omega) (h' d rfl)
theorem f_warm {k : Nat} : f_X3_warm N u k = some ((), setP u k (u 12 k 0) (u 13 k 0) (wm (u 14 k) 8)) := by
  have h := f_warm_l (N := N) (u := u) (k := k) (w := u 12 k 0) (b := u 13 k 0) (o := u 14 k) 8 0 1000000 rfl (by omega)
  rw [wm_0, setP_id] at h
  unfold f_X3_warm
  generalize hF : (1000000 : Nat) = F at h ⊢
  exact h
def wO (s : Nat) (o : Nat → Int32) : Nat → Int32 := if s < 7 then o else wm o 8
def wW (t : Nat) (w : Int32) : Int32 := if t < 5 then w else w + 10
theorem f_weather_l {s t : Nat} (hs : s < 10) (ht : t < 10) (h0 : u 0 0 0 = 4) (h4 : u 4 0 0 = 0) (h12 : N 12 = 4) : ∀ (d Y n : Nat) (v : St), Y + d = 4 → d < n → (∀ f, f ≠ 12 → f ≠ 14 → v f = u f) → (∀ p, p < Y → v 14 p = wO s (u 14 p) ∧ v 12 p 0 = wW t (u 12 p 0)) → (∀ p, Y ≤ p → v 14 p = u 14 p ∧ v 12 p = u 12 p) → (s < 7 → t < 5 → v = u) → ∃ w, f_X7_weather_L2 N n (nI Y) (nI s) (nI t) v = some ((), w) ∧ (∀ f, f ≠ 12 → f ≠ 14 → w f = u f) ∧ (∀ p, p < 4 → w 14 p = wO s (u 14 p) ∧ w 12 p 0 = wW t (u 12 p 0)) ∧ (s < 7 → t < 5 → w = u) := by
  intro d
  induction d with
  | zero =>
    intro Y n v hY hn hf h1 h2 h3
    obtain ⟨n', rfl, -⟩ := fuel hn
    obtain rfl : Y = 4 := by omega
    refine ⟨v, ?_, hf, h1, h3⟩
    show f_X7_weather_L2b N (f_X7_weather_L2 N n') (nI 4) (nI s) (nI t) v = _
    unfold f_X7_weather_L2b
    rw [hf 0 (by decide) (by decide), h0, if_pos (by decide)]
  | succ d ih =>
    intro Y n v hY hn hf h1 h2 h3
    obtain ⟨n', rfl, h'⟩ := fuel hn
    obtain ⟨v1, e1⟩ : ∃ v1, v1 = (if s < 7 then v else setP v Y (v 12 Y 0) (v 13 Y 0) (wm (v 14 Y) 8)) := ⟨_, rfl⟩
    have g0 : ∀ f, f ≠ 12 → f ≠ 14 → v1 f = u f := fun f hf1 hf2 => by
      rw [e1]
      split
      · exact hf f hf1 hf2
      · by_cases h13 : f = 13
        · subst h13
          rw [← hf 13 (by decide) (by decide)]
          funext a i
          unfold setP
          by_cases ha : a = Y
          · subst ha
            rw [if_pos rfl, if_neg (fun q => by omega)]
            by_cases hi : i = 0
            · subst hi; rw [if_pos ⟨rfl, rfl⟩]
            · rw [if_neg (fun q => hi q.2), if_neg (by decide)]
          · rw [if_neg ha]
        · rw [setP_f hf1 h13 hf2]; exact hf f hf1 hf2
    have g14 : v1 14 Y = wO s (u 14 Y) := by
      rw [e1]
      unfold wO
      split
      · exact (h2 Y (Nat.le_refl _)).1
      · rw [setP_14, (h2 Y (Nat.le_refl _)).1]
    have g12 : v1 12 = v 12 := by
      rw [e1]
      split
      · rfl
      · funext a i
        unfold setP
        by_cases ha : a = Y
        · subst ha
          rw [if_pos rfl]
          by_cases hi : i = 0
          · subst hi; rw [if_pos ⟨rfl, rfl⟩]
          · rw [if_neg (fun q => hi q.2), if_neg (fun q => by omega), if_neg (by decide)]
        · rw [if_neg ha]
    have gne : ∀ p, p ≠ Y → v1 14 p = v 14 p := fun p hp => by
      rw [e1]
      split
      · rfl
      · exact setP_kf hp
    obtain ⟨v2, e2⟩ : ∃ v2, v2 = (if t < 5 then v1 else sset v1 12 Y 0 (v1 12 Y 0 + 10)) := ⟨_, rfl⟩
    have k14 : v2 14 = v1 14 := by
      rw [e2]
      split
      · rfl
      · exact sset_fk (by decide)
    have k12 : v2 12 Y 0 = wW t (u 12 Y 0) := by
      rw [e2]
      unfold wW
      split
      · rw [g12, (h2 Y (Nat.le_refl _)).2]
      · rw [sset_self, g12, (h2 Y (Nat.le_refl _)).2]
    have k12n : ∀ p, p ≠ Y → v2 12 p = v 12 p := fun p hp => by
      rw [e2]
      split
      · rw [g12]
      · rw [← g12]
        funext i
        exact sset_nk hp
    obtain ⟨w, i1, i2, i3, i4⟩ := ih (Y + 1) n' v2 (by omega) (h' d rfl) (fun f hf1 hf2 => by
        rw [e2]
        split
        · exact g0 f hf1 hf2
        · rw [sset_fk hf1]; exact g0 f hf1 hf2) (fun p hp => by
        by_cases hpY : p = Y
        · subst hpY; rw [k14]; exact ⟨g14, k12⟩
        · rw [k14, gne p hpY, k12n p hpY]; exact h1 p (by omega)) (fun p hp => by
        rw [k14, gne p (by omega), k12n p (by omega)]
        exact h2 p (by omega)) (fun hs7 ht5 => by
        rw [e2, if_pos ht5, e1, if_pos hs7]
        exact h3 hs7 ht5)
    refine ⟨w, ?_, i2, i3, i4⟩
    have hB : f_X7_weather_B25 N (f_X7_weather_L2 N n') (nI Y) (nI s) (nI t) v1 = some ((), w) := by
      unfold f_X7_weather_B25
      by_cases ht5 : t < 5
      · rw [if_pos (show nI t < (5 : Int32) from nI_lt (b := 5) ht5 (by decide)), nm_u, nI_1]
        rw [if_pos ht5] at e2
        rw [← e2]
        exact i1
      · rw [if_neg (show ¬ nI t < (5 : Int32) from nI_nlt (b := 5) (by omega) (by omega)), g0 4 (by decide) (by decide), h4, if_pos rfl, gt1 (inb_nI (by omega) (by decide)), ix_nI (by omega), gt1 (by omega), nm_u, nm_u, nI_1]
        rw [if_neg ht5] at e2
        rw [← e2]
        exact i1
    show f_X7_weather_L2b N (f_X7_weather_L2 N n') (nI Y) (nI s) (nI t) v = _
    unfold f_X7_weather_L2b
    rw [hf 0 (by decide) (by decide), h0, if_neg (show ¬ (4 : Int32) ≤ nI Y from nI_ge (b := 4) (by omega) (by decide))]
    by_cases hs7 : s < 7
    · rw [if_pos (show nI s < (7 : Int32) from nI_lt (b := 7) hs7 (by decide))]
      rw [if_pos hs7] at e1
      rw [← e1]
      exact hB
    · rw [if_neg (show ¬ nI s < (7 : Int32) from nI_nlt (b := 7) (by omega) (by omega)), gt1 (inb_nI (by omega) (by decide)), ix_nI (by omega), gt1 (by omega), f_warm, sb_some]
      rw [if_neg hs7] at e1
      rw [← e1]
      exact hB
theorem f_weather {s t : Nat} (hs : s < 10) (ht : t < 10) (h0 : u 0 0 0 = 4) (h4 : u 4 0 0 = 0) (h12 : N 12 = 4) : ∃ w, f_X7_weather N u (nI s) (nI t) = some ((), w) ∧ (∀ f, f ≠ 12 → f ≠ 14 → w f = u f) ∧ (∀ p, p < 4 → w 14 p = wO s (u 14 p) ∧ w 12 p 0 = wW t (u 12 p 0)) ∧ (s < 7 → t < 5 → w = u) := by
  obtain ⟨w, e1, e2⟩ := f_weather_l hs ht h0 h4 h12 4 0 1000000 u rfl (by omega) (fun _ _ _ => rfl) (fun p hp => absurd hp (Nat.not_lt_zero _)) (fun _ _ => ⟨rfl, rfl⟩) (fun _ _ => rfl)
  refine ⟨w, ?_, e2⟩
  unfold f_X7_weather
  generalize hF : (1000000 : Nat) = F at e1 ⊢
  exact e1
theorem f_turn : ∃ w, f_X6_turn N u = some ((), w) ∧ w 52 0 0 = 0 ∧ w 53 0 0 = 0 ∧ w 51 0 0 = u 51 0 0 + 1 ∧ ∀ f, f ≠ 50 → f ≠ 51 → f ≠ 52 → f ≠ 53 → w f = u f := ⟨_, rfl, rfl, rfl, rfl, fun f h1 h2 h3 h4 => by rw [sset_fk h2, sset_fk h4, sset_fk h3, sset_fk h1, sset_fk h1, sset_fk h1, sset_fk h1]⟩
theorem sl_n (h : Inv N u) {k j : Nat} (hk : k < 6) (hj : j < 6) : ∃ g g' : Nat, u 40 k j = nI g ∧ sl u 0 k j = nI g' ∧ g' ≤ g ∧ g ≤ 100 := by
  obtain ⟨g, M, g1, g2, g3, g4⟩ := mem_n h hk hj
  obtain ⟨hd, hd1, hd2, hd3⟩ := bt_of (a := 1) (b := 9) (h.r j hj).2.1
  unfold sl
  rw [Nat.mul_zero, Nat.zero_add, g1, hd3]
  split
  · rw [show nI hd / 2 = nI (hd / 2) from pk_div (d := 2) (by omega) (by decide) (by decide)]
    have e : mmax 0 (nI g - nI (hd / 2) - 1) = nI (g - (hd / 2 + 1)) := by
      have e1 : nI g - nI (hd / 2) - 1 = nI g - nI (hd / 2 + 1) := by
        rw [nI_succ]
        exact sub4 _ _ _
      rw [e1]
      unfold mmax
      by_cases hc : hd / 2 + 1 ≤ g
      · rw [pk_sub hc]
        by_cases h0 : g - (hd / 2 + 1) = 0
        · rw [h0]; rfl
        · rw [if_pos (show (0 : Int32) < nI (g - (hd / 2 + 1)) from nI_lt (a := 0) (by omega) (by omega))]
      · have hn := pk_sneg (a := g) (b := hd / 2 + 1) (by omega) (by omega)
        rw [if_neg (fun q => by rw [Int32.lt_iff_toInt_lt] at q hn; omega), show g - (hd / 2 + 1) = 0 by omega]
        rfl
    exact ⟨g, _, rfl, e, by omega, by omega⟩
  · exact ⟨g, g, rfl, rfl, Nat.le_refl _, by omega⟩
theorem pass_ok (h : Inv N u) {s t : Nat} (hs : s < 10) (ht : t < 10) : ∃ w, f_X7_pass N u 1 (nI s) (nI t) = some (.ok (u 51 0 0 + 1), w) ∧ Inv N w ∧ w 52 0 0 = 0 ∧ (∀ k, k < 6 → ∀ j, j < 6 → w 40 k j = sl u 0 k j) ∧ (∀ p, p < 4 → w 14 p = wO s (u 14 p) ∧ w 12 p 0 = wW t (u 12 p 0)) ∧ (∀ f, f ≠ 12 → f ≠ 14 → f ≠ 40 → f ≠ 41 → f ≠ 50 → f ≠ 51 → f ≠ 52 → f ≠ 53 → w f = u f) ∧ (s < 7 → t < 5 → w 12 = u 12 ∧ w 14 = u 14) := by
  have a0 : ∀ f, f ≠ 40 → f ≠ 41 → slF u 0 f = u f := fun f h1 h2 => slS_f h1 h2
  obtain ⟨v, b1, b2, b3, b4⟩ := f_weather (N := N) (u := slF u 0) hs ht (by rw [a0 0 (by decide) (by decide)]; exact h.c0) (by rw [a0 4 (by decide) (by decide)]; exact h.c.2.2.2.1) h.n12
  obtain ⟨w, c1, c2, c3, c4, c5⟩ := f_turn (N := N) (u := v)
  rw [a0 14 (by decide) (by decide), a0 12 (by decide) (by decide)] at b3
  have w51 : w 51 0 0 = u 51 0 0 + 1 := by rw [c4, b2 51 (by decide) (by decide), a0 51 (by decide) (by decide)]
  have w40 : ∀ k, k < 6 → ∀ j, j < 6 → w 40 k j = sl u 0 k j := fun k hk j hj => by
    rw [c5 40 (by decide) (by decide) (by decide) (by decide), b2 40 (by decide) (by decide)]
    have := slF_40 (u := u) (k0 := 0) (a := k) (i := j) (by omega) hj
    rw [Nat.mul_zero, Nat.zero_add] at this
    exact this
  have wf : ∀ f, f ≠ 12 → f ≠ 14 → f ≠ 40 → f ≠ 41 → f ≠ 50 → f ≠ 51 → f ≠ 52 → f ≠ 53 → w f = u f := fun f h1 h2 h3 h4 h5 h6 h7 h8 => by rw [c5 f h5 h6 h7 h8, b2 f h1 h2, a0 f h3 h4]
  have wp : ∀ p, p < 4 → w 14 p = wO s (u 14 p) ∧ w 12 p 0 = wW t (u 12 p 0) := fun p hp => by
    rw [c5 14 (by decide) (by decide) (by decide) (by decide), c5 12 (by decide) (by decide) (by decide) (by decide)]
    exact b3 p hp
  refine ⟨w, ?_, ?_, c2, w40, wp, wf, fun hs7 ht5 => ?_⟩
  · unfold f_X7_pass
    rw [fwi, sb_some, show win 1 1 30 = 1 from by decide, if_neg (by decide), fwi, sb_some, show win (nI s) 0 9 = 1 from win_z (b := 9) (by omega) (by omega), if_neg (by decide), fwi, sb_some, show win (nI t) 0 9 = 1 from win_z (b := 9) (by omega) (by omega), if_neg (by decide)]
    obtain ⟨F, hF⟩ : ∃ F, F + 2 = 1000000 := ⟨999998, rfl⟩
    rw [← hF]
    show f_X7_pass_L53b N (f_X7_pass_L53 N (F + 1)) 0 1 (nI s) (nI t) u = _
    unfold f_X7_pass_L53b
    rw [if_neg (by decide), h.c1, f_sleep h.n14, sb_some, b1, sb_some, c1, sb_some, nm_u]
    show f_X7_pass_L53b N (f_X7_pass_L53 N F) (0 + 1) 1 (nI s) (nI t) w = _
    unfold f_X7_pass_L53b
    rw [if_pos (by decide), w51]
  · refine ⟨h.n12, h.n14, h.n15, ?_, fun p hp => ⟨?_, ?_, ?_⟩, ?_, ?_, fun k hk j hj => ?_, ?_, ?_⟩
    · rw [wf 0 (by decide) (by decide) (by decide) (by decide) (by decide) (by decide) (by decide) (by decide), wf 1 (by decide) (by decide) (by decide) (by decide) (by decide) (by decide) (by decide) (by decide), wf 2 (by decide) (by decide) (by decide) (by decide) (by decide) (by decide) (by decide) (by decide), wf 4 (by decide) (by decide) (by decide) (by decide) (by decide) (by decide) (by decide) (by decide), wf 64 (by decide) (by decide) (by decide) (by decide) (by decide) (by decide) (by decide) (by decide)]; exact h.c
    · rw [wf 10 (by decide) (by decide) (by decide) (by decide) (by decide) (by decide) (by decide) (by decide)]; exact (h.p p hp).1
    · rw [wf 11 (by decide) (by decide) (by decide) (by decide) (by decide) (by decide) (by decide) (by decide)]; exact (h.p p hp).2.1
    · rw [(wp p hp).1]
      unfold wO
      split
      · exact (h.p p hp).2.2
      · exact wm_ok (h.p p hp).2.2
    · rw [wf 20 (by decide) (by decide) (by decide) (by decide) (by decide) (by decide) (by decide) (by decide), wf 21 (by decide) (by decide) (by decide) (by decide) (by decide) (by decide) (by decide) (by decide), wf 22 (by decide) (by decide) (by decide) (by decide) (by decide) (by decide) (by decide) (by decide)]; exact h.r
    · rw [wf 30 (by decide) (by decide) (by decide) (by decide) (by decide) (by decide) (by decide) (by decide), wf 31 (by decide) (by decide) (by decide) (by decide) (by decide) (by decide) (by decide) (by decide), wf 32 (by decide) (by decide) (by decide) (by decide) (by decide) (by decide) (by decide) (by decide), wf 33 (by decide) (by decide) (by decide) (by decide) (by decide) (by decide) (by decide) (by decide), wf 34 (by decide) (by decide) (by decide) (by decide) (by decide) (by decide) (by decide) (by decide)]; exact h.y
    · rw [w40 k hk j hj, wf 20 (by decide) (by decide) (by decide) (by decide) (by decide) (by decide) (by decide) (by decide), wf 30 (by decide) (by decide) (by decide) (by decide) (by decide) (by decide) (by decide) (by decide), wf 22 (by decide) (by decide) (by decide) (by decide) (by decide) (by decide) (by decide) (by decide), wf 32 (by decide) (by decide) (by decide) (by decide) (by decide) (by decide) (by decide) (by decide)]
      obtain ⟨g, g', q1, q2, q3, q4⟩ := sl_n h hk hj
      have hm := h.m k hk j hj
      rw [q1] at hm
      rw [q2]
      unfold bt at hm ⊢
      rw [nI_toInt (by omega)] at hm ⊢
      refine ⟨⟨by omega, by have := hm.1.2; omega⟩, fun hne => ?_⟩
      have g0 : g = 0 := (nI_eq (b := 0) (by omega) (by decide)).mp (hm.2 hne)
      have : g' = 0 := by omega
      rw [this]
      rfl
    · rw [wf 42 (by decide) (by decide) (by decide) (by decide) (by decide) (by decide) (by decide) (by decide), wf 43 (by decide) (by decide) (by decide) (by decide) (by decide) (by decide) (by decide) (by decide)]; exact h.o
    · rw [wf 65 (by decide) (by decide) (by decide) (by decide) (by decide) (by decide) (by decide) (by decide), wf 66 (by decide) (by decide) (by decide) (by decide) (by decide) (by decide) (by decide) (by decide)]
      obtain ⟨r, r1, r2, r3, r4⟩ := h.g
      exact ⟨r, r1, r2, r3, fun q => absurd c3 q⟩
  · rw [c5 12 (by decide) (by decide) (by decide) (by decide), c5 14 (by decide) (by decide) (by decide) (by decide), b4 hs7 ht5, a0 12 (by decide) (by decide), a0 14 (by decide) (by decide)]
    exact ⟨rfl, rfl⟩
end PS
