/-! 54: the law's isPassed -/
section IP
variable {N : Nt} {u v z : St}
def PC (u : St) (k y : Nat) (cm : F3) : Prop := ∀ a b, b < 6 → (a < k ∨ (a = k ∧ b < y)) → cm a b = u 40 a b
def PO (u : St) (y : Nat) (co cf : Nat → Int32) : Prop := ∀ p, p < y → co p = u 14 p 2 ∧ cf p = u 12 p 0
theorem ip_22 (h : Inv N u) {x1 x2 : Int32} {R : Option (Except String Int32 × St)} {k : Nat} (hk : k < 6) {ih : Int32 → Int32 → Int32 → F3 → St → Option (Except String Int32 × St)} (hR : ∀ cm', PC u (k + 1) 0 cm' → ih (nI (k + 1)) x1 x2 cm' u = R) : ∀ (d y n : Nat) (cm : F3), y + d = 6 → d < n → PC u k y cm → f_L_isPassed_L22 N ih n (nI y) (nI k) x1 x2 cm u = R := by
  intro d
  induction d with
  | zero =>
    intro y n cm hy hn hc
    obtain ⟨n', rfl, -⟩ := fuel hn
    obtain rfl : y = 6 := by omega
    show f_L_isPassed_L22b N ih (f_L_isPassed_L22 N ih n') (nI 6) (nI k) x1 x2 cm u = _
    unfold f_L_isPassed_L22b
    rw [if_pos (by decide), nm_u, nI_1]
    exact hR cm (fun a b hb q => hc a b hb (by omega))
  | succ d ih1 =>
    intro y n cm hy hn hc
    obtain ⟨n', rfl, h'⟩ := fuel hn
    show f_L_isPassed_L22b N ih (f_L_isPassed_L22 N ih n') (nI y) (nI k) x1 x2 cm u = _
    unfold f_L_isPassed_L22b
    rw [if_neg (show ¬ (6 : Int32) ≤ nI y from nI_ge (b := 6) (by omega) (by decide)), gt1 (inb_nI hk (by decide)), f_mem h.c2 h.c1 hk (by omega), xb_ok, gt1 (inb_nI (by omega) (by decide)), nm_u, nm_u, nI_1, ix_nI (by omega), ix_nI (by omega)]
    refine ih1 (y + 1) n' _ (by omega) (h' d rfl) (fun a b hb q => ?_)
    unfold upd2 upd
    by_cases ha : a = k
    · subst ha
      rw [if_pos rfl]
      by_cases hb2 : b = y
      · subst hb2; rw [if_pos rfl]
      · rw [if_neg hb2]; exact hc a b hb (by omega)
    · rw [if_neg ha]; exact hc a b hb (by omega)
theorem ip_69 (h : Inv N u) {x1 x2 : Int32} {R : Option (Except String Int32 × St)} {cm : F3} (hR : ∀ co' cf' n', PO u 4 co' cf' → f_L_isPassed_L69b N (f_L_isPassed_L69 N n') 4 x1 x2 cm co' cf' u = R) : ∀ (d y n : Nat) (co cf : Nat → Int32), y + d = 4 → d < n → PO u y co cf → f_L_isPassed_L69 N n (nI y) x1 x2 cm co cf u = R := by
  intro d
  induction d with
  | zero =>
    intro y n co cf hy hn hc
    obtain ⟨n', rfl, -⟩ := fuel hn
    obtain rfl : y = 4 := by omega
    exact hR co cf n' hc
  | succ d ih =>
    intro y n co cf hy hn hc
    obtain ⟨n', rfl, h'⟩ := fuel hn
    show f_L_isPassed_L69b N (f_L_isPassed_L69 N n') (nI y) x1 x2 cm co cf u = _
    unfold f_L_isPassed_L69b
    have ho := f_off (N := N) (u := u) (p := y) (j := 2) h.c0 (by omega) (by decide) h.n12
    have ho2 : f_X7_off N u (nI y) 2 = some (.ok (u 14 y 2), u) := ho
    rw [if_neg (show ¬ (4 : Int32) ≤ nI y from nI_ge (b := 4) (by omega) (by decide)), ho2, xb_ok, gt1 (inb_nI (by omega) (by decide)), nm_u, ofPan1 h.c0 (by omega) h.n12, xb_ok, nm_u, nm_u, nI_1, ix_nI (by omega)]
    refine ih (y + 1) n' _ _ (by omega) (h' d rfl) (fun p hp => ?_)
    unfold upd
    by_cases e : p = y
    · subst e; rw [if_pos rfl, if_pos rfl]; exact ⟨rfl, rfl⟩
    · rw [if_neg e, if_neg e]; exact hc p (by omega)
def ZF (v z : St) (s t : Nat) : Prop := (∀ k, k < 6 → ∀ j, j < 6 → z 40 k j = sl v 0 k j) ∧ (∀ p, p < 4 → z 14 p 2 = wO s (v 14 p) 2 ∧ z 12 p 0 = wW t (v 12 p 0)) ∧ (∀ j, j < 6 → z 21 j 0 = v 21 j 0)
theorem ip_255 (hz : Inv N z) {s t k : Nat} (hZ : ZF v z s t) (hk : k < 6) {cm : F3} {co cf : Nat → Int32} (hc : PC v 6 0 cm) {ih : Int32 → F3 → (Nat → Int32) → (Nat → Int32) → St → Option (Except String Int32 × St)} : ∀ (d y n : Nat), y + d = 6 → d < n → f_L_isPassed_L255 N ih n (nI y) (nI k) cm co cf z = ih (nI (k + 1)) cm co cf z := by
  intro d
  induction d with
  | zero =>
    intro y n hy hn
    obtain ⟨n', rfl, -⟩ := fuel hn
    obtain rfl : y = 6 := by omega
    show f_L_isPassed_L255b N ih (f_L_isPassed_L255 N ih n') (nI 6) (nI k) cm co cf z = _
    unfold f_L_isPassed_L255b
    rw [if_pos (by decide), nm_u, nI_1]
  | succ d ih1 =>
    intro y n hy hn
    obtain ⟨n', rfl, h'⟩ := fuel hn
    have ih2 := ih1 (y + 1) n' (by omega) (h' d rfl)
    show f_L_isPassed_L255b N ih (f_L_isPassed_L255 N ih n') (nI y) (nI k) cm co cf z = _
    unfold f_L_isPassed_L255b
    have hcm := hc k y (by omega) (by omega)
    rw [if_neg (show ¬ (6 : Int32) ≤ nI y from nI_ge (b := 6) (by omega) (by decide)), f_mem hz.c2 hz.c1 hk (by omega), xb_ok, gt1 (inb_nI hk (by decide)), gt1 (inb_nI (by omega) (by decide)), ix_nI (by omega), ix_nI (by omega), hcm, hZ.1 k hk y (by omega)]
    by_cases he : sl v 0 k y = v 40 k y
    · rw [if_pos he, nm_u, nI_1]; exact ih2
    · rw [if_neg he, ofPhr1 hz.c1 (by omega) hz.n14, xb_ok, nm_u, hZ.2.2 y (by omega)]
      have e : sl v 0 k y = mmax 0 (v 40 k y - 1 - v 21 y 0 / 2) := by
        unfold sl at he ⊢
        rw [Nat.mul_zero, Nat.zero_add] at he ⊢
        by_cases hb : ((v 41 0 k >>> (nI y &&& 31)) &&& 1) = 0
        · rw [if_pos hb, sub3]
        · rw [if_neg hb] at he; exact absurd rfl he
      rw [if_pos e, nm_u, nI_1]
      exact ih2
theorem ip_245 (hz : Inv N z) {s t : Nat} (hZ : ZF v z s t) {cm : F3} {co cf : Nat → Int32} (hc : PC v 6 0 cm) : ∀ (d k n : Nat), k + d = 6 → d < n → f_L_isPassed_L245 N n (nI k) cm co cf z = some (.ok 1, z) := by
  intro d
  induction d with
  | zero =>
    intro k n hk hn
    obtain ⟨n', rfl, -⟩ := fuel hn
    obtain rfl : k = 6 := by omega
    show f_L_isPassed_L245b N (f_L_isPassed_L245 N n') (nI 6) cm co cf z = _
    unfold f_L_isPassed_L245b
    rw [if_pos (by decide)]
  | succ d ih =>
    intro k n hk hn
    obtain ⟨n', rfl, h'⟩ := fuel hn
    show f_L_isPassed_L245b N (f_L_isPassed_L245 N n') (nI k) cm co cf z = _
    unfold f_L_isPassed_L245b
    generalize hF : (1000000 : Nat) = F
    rw [if_neg (show ¬ (6 : Int32) ≤ nI k from nI_ge (b := 6) (by omega) (by decide))]
    exact (ip_255 hz hZ (by omega) hc 6 0 F rfl (by omega)).trans (ih (k + 1) n' (by omega) (h' d rfl))
theorem mmin_99 {o : Int32} (h : -99 ≤ o.toInt ∧ o.toInt ≤ 99) : mmin 99 (o + 0) = o := by
  unfold mmin
  rw [Int32.add_zero]
  by_cases h1 : o < 99
  · rw [if_pos h1]
  · rw [if_neg h1]
    rw [Int32.lt_iff_toInt_lt, show (99 : Int32).toInt = 99 from by decide] at h1
    exact (Int32.toInt_inj.mp (by rw [show (99 : Int32).toInt = 99 from by decide]; omega)).symm
theorem mmin_91 {o : Int32} (h : -99 ≤ o.toInt ∧ o.toInt ≤ 99) : hld (o + 1) (-99) 99 = mmin 99 (o + 1) := by
  have e : (o + 1).toInt = o.toInt + 1 := by
    rw [Int32.toInt_add, show (1 : Int32).toInt = 1 from by decide]
    simp only [Int.bmod]
    split <;> omega
  rw [← hld_mm]
  unfold mmax
  rw [if_pos]
  rw [Int32.lt_iff_toInt_lt, show (-99 : Int32).toInt = -99 from by decide]
  unfold mmin
  split
  · omega
  · decide
theorem ip_169 (hv : Inv N v) (hz : Inv N z) {s t : Nat} (hs : s < 10) (ht : t < 10) (hZ : ZF v z s t) {cm : F3} {co cf : Nat → Int32} (hc : PC v 6 0 cm) (ho : PO v 4 co cf) : ∀ (d y n : Nat), y + d = 4 → d < n → f_L_isPassed_L169 N n (nI y) (nI s) (nI t) cm co cf z = some (.ok 1, z) := by
  intro d
  induction d with
  | zero =>
    intro y n hy hn
    obtain ⟨n', rfl, -⟩ := fuel hn
    obtain rfl : y = 4 := by omega
    show f_L_isPassed_L169b N (f_L_isPassed_L169 N n') (nI 4) (nI s) (nI t) cm co cf z = _
    unfold f_L_isPassed_L169b
    generalize hF : (1000000 : Nat) = F
    rw [if_pos (by decide)]
    exact ip_245 hz hZ hc 6 0 F rfl (by omega)
  | succ d ih =>
    intro y n hy hn
    obtain ⟨n', rfl, h'⟩ := fuel hn
    have ih2 := ih (y + 1) n' (by omega) (h' d rfl)
    have ho2 : f_X7_off N z (nI y) 2 = some (.ok (z 14 y 2), z) := f_off (N := N) (u := z) (p := y) (j := 2) hz.c0 (by omega) (by decide) hz.n12
    obtain ⟨q1, q2⟩ := hZ.2.1 y (by omega)
    obtain ⟨q3, q4⟩ := ho y (by omega)
    have hb := (hv.p y (by omega)).2.2 2 (by decide)
    have key : ∀ x : Int32, z 14 y 2 = mmin 99 (co y + x) → f_L_isPassed_B200 N (f_L_isPassed_L169 N n') (nI y) (nI s) (nI t) x (co y) 99 (z 14 y 2) cm co cf z = some (.ok 1, z) := fun x hx => by
      unfold f_L_isPassed_B200 f_L_isPassed_B230
      rw [nm_u, if_pos hx, ofPan1 hz.c0 (by omega) hz.n12, xb_ok, gt1 (inb_nI (by omega) (by decide)), ix_nI (by omega), q2, q4]
      unfold wW
      by_cases ht5 : t < 5
      · rw [if_pos (show nI t ≤ (4 : Int32) from nI_le (b := 4) (by omega) (by decide)), if_pos ht5, Int32.add_zero, if_pos rfl, nm_u, nI_1]
        exact ih2
      · rw [if_neg (show ¬ nI t ≤ (4 : Int32) from nI_ge (a := 4) (by omega) (by omega)), if_neg ht5, if_pos rfl, nm_u, nI_1]
        exact ih2
    show f_L_isPassed_L169b N (f_L_isPassed_L169 N n') (nI y) (nI s) (nI t) cm co cf z = _
    unfold f_L_isPassed_L169b
    rw [if_neg (show ¬ (4 : Int32) ≤ nI y from nI_ge (b := 4) (by omega) (by decide)), ho2, xb_ok, gt1 (inb_nI (by omega) (by decide)), ix_nI (by omega)]
    unfold wO at q1
    by_cases hs7 : s < 7
    · rw [if_pos (show nI s ≤ (6 : Int32) from nI_le (b := 6) (by omega) (by decide))]
      rw [if_pos hs7] at q1
      exact key 0 (by rw [q1, q3, mmin_99 hb])
    · rw [if_neg (show ¬ nI s ≤ (6 : Int32) from nI_ge (a := 6) (by omega) (by omega))]
      rw [if_neg hs7] at q1
      refine key 1 ?_
      rw [q1, q3, ← mmin_91 hb]
      exact if_pos (by decide)
theorem lvG_F {mm : F3} {j : Nat} (h11 : v 11 = u 11) (h12 : v 12 = u 12) (h14 : v 14 = u 14) (h20 : v 20 = u 20) (h22 : v 22 = u 22) (h30 : v 30 = u 30) (h34 : v 34 = u 34) : ∀ (d y : Nat) (c s : Int32), lvG v mm j d y c s = lvG u mm j d y c s := by
  intro d
  induction d with
  | zero => intro y c s; rfl
  | succ d ih =>
    intro y c s
    have e1 : snd v y = snd u y := by unfold snd; rw [h34, h12]
    have e2 : lvx v mm j y = lvx u mm j y := by unfold lvx; rw [h11, h14, h22]
    unfold lvG
    rw [e1, e2, h30, h20, ih, ih]
theorem tnG_F (h11 : v 11 = u 11) (h12 : v 12 = u 12) (h14 : v 14 = u 14) (h34 : v 34 = u 34) : ∀ (d y : Nat) (c s : Int32), tnG v d y c s = tnG u d y c s := by
  intro d
  induction d with
  | zero => intro y c s; rfl
  | succ d ih =>
    intro y c s
    have e1 : snd v y = snd u y := by unfold snd; rw [h34, h12]
    have e2 : tng v y = tng u y := by unfold tng; rw [h11, h12, h14]
    unfold tnG
    rw [e1, e2, ih, ih]
theorem totV_F {mm : F3} {n : Nat} (h11 : v 11 = u 11) (h12 : v 12 = u 12) (h14 : v 14 = u 14) (h20 : v 20 = u 20) (h21 : v 21 = u 21) (h22 : v 22 = u 22) (h30 : v 30 = u 30) (h34 : v 34 = u 34) (h42 : v 42 = u 42) : totV v mm n = totV u mm n := by
  unfold totV tone
  rw [tnG_F h11 h12 h14 h34, h21, h42, show lev v mm = lev u mm from funext fun j => lvG_F h11 h12 h14 h20 h22 h30 h34 6 0 0 0]
theorem sl_cp {k j : Nat} (hk : k < 8) (hj : j < 8) : sl (cpM u 8) 1 k j = sl u 0 k j := by
  have e40 : (cpM u 8) 40 (8 * 1 + k) j = u 40 (8 * 0 + k) j := by
    unfold cpM
    rw [if_pos ⟨rfl, by omega, by omega, hj⟩, show 8 * 1 + k - 8 = 8 * 0 + k from by omega]
  have e41 : (cpM u 8) 41 1 k = u 41 0 k := by
    unfold cpM
    rw [if_neg (fun q => by omega), if_pos ⟨rfl, rfl, hk⟩]
  have e21 : (cpM u 8) 21 j 0 = u 21 j 0 := cpM_E.at (by unfold mk; omega)
  unfold sl
  rw [e40, e41, e21]
theorem sl_E (e : E u v) {k j : Nat} (hk : k < 8) : sl v 0 k j = sl u 0 k j := by
  unfold sl
  rw [e.at (f := 41) (by unfold mk; omega), e.at (f := 40) (by unfold mk; omega), e.at (f := 21) (by unfold mk; omega)]
theorem ip_12s {n : Nat} {y x1 x2 : Int32} {cm : F3} : f_L_isPassed_L12 N (n + 1) y x1 x2 cm u = f_L_isPassed_L12b N (f_L_isPassed_L12 N n) y x1 x2 cm u := rfl
theorem ip_12b {ih : Int32 → Int32 → Int32 → F3 → St → Option (Except String Int32 × St)} {x1 x2 : Int32} {cm : F3} {R : Option (Except String Int32 × St)} (hR : ∀ F, 1000 < F → f_L_isPassed_L69 N F 0 x1 x2 cm (fun _ => 0) (fun _ => 0) u = R) : f_L_isPassed_L12b N ih (nI 6) x1 x2 cm u = R := by
  unfold f_L_isPassed_L12b
  generalize hF : (1000000 : Nat) = F
  have h := hR F (by omega)
  rw [if_pos (show (6 : Int32) ≤ nI 6 by decide)]
  clear hR hF
  generalize f_L_isPassed_L69 N F = g at h ⊢
  exact h
theorem ip_12c {ih : Int32 → Int32 → Int32 → F3 → St → Option (Except String Int32 × St)} {x1 x2 : Int32} {cm : F3} {k : Nat} (hk : k < 6) {R : Option (Except String Int32 × St)} (hR : ∀ F, 1000 < F → f_L_isPassed_L22 N ih F (nI 0) (nI k) x1 x2 cm u = R) : f_L_isPassed_L12b N ih (nI k) x1 x2 cm u = R := by
  unfold f_L_isPassed_L12b
  generalize hF : (1000000 : Nat) = F
  have h := hR F (by omega)
  rw [if_neg (show ¬ (6 : Int32) ≤ nI k from nI_ge (b := 6) (by omega) (by decide))]
  exact h
theorem ip_12 (h : Inv N u) {x1 x2 : Int32} {R : Option (Except String Int32 × St)} (hR : ∀ F, 1000 < F → ∀ cm', PC u 6 0 cm' → f_L_isPassed_L69 N F 0 x1 x2 cm' (fun _ => 0) (fun _ => 0) u = R) : ∀ (d k n : Nat) (cm : F3), k + d = 6 → d < n → PC u k 0 cm → f_L_isPassed_L12 N n (nI k) x1 x2 cm u = R := by
  intro d
  induction d with
  | zero =>
    intro k n cm hk hn hc
    obtain ⟨n', rfl, -⟩ := fuel hn
    obtain rfl : k = 6 := by omega
    rw [ip_12s]
    exact ip_12b (fun F hF => hR F hF cm hc)
  | succ d ih =>
    intro k n cm hk hn hc
    obtain ⟨n', rfl, h'⟩ := fuel hn
    rw [ip_12s]
    exact ip_12c (by omega) (fun F hF => ip_22 h (by omega) (fun cm' hc' => ih (k + 1) n' cm' (by omega) (h' d rfl) hc') 6 0 F cm rfl (by omega) hc)
theorem isPassed_ok (h : Inv N u) {s t : Nat} (hs : s < 10) (ht : t < 10) : ∃ w, f_L_isPassed N u (nI s) (nI t) = some (.ok 1, w) ∧ Inv N w := by
  obtain ⟨n, o⟩ := h.ord
  obtain ⟨v, a1, x1⟩ := f_would (X := 1) h o (by decide)
  have hv := h.E x1
  obtain ⟨w, b1, b2, b3, b4, b5, b6, b7⟩ := pass_ok hv hs ht
  have hZw : ZF v w s t := ⟨b4, fun p hp => ⟨by rw [(b5 p hp).1], (b5 p hp).2⟩, fun j hj => by rw [b6 21 (by decide) (by decide) (by decide) (by decide) (by decide) (by decide) (by decide) (by decide)]⟩
  have main : ∃ z, Inv N z ∧ ∀ cm co cf n', PC v 6 0 cm → PO v 4 co cf → f_L_isPassed_L69b N (f_L_isPassed_L69 N n') 4 (nI s) (nI t) cm co cf u = some (.ok 1, z) := by
    have a1' : f_X7_wouldTotal N u 1 = some (.ok (totV u (mms (slN 1 (cpM u 8)) 1) n), v) := a1
    by_cases hc : s < 7 ∧ t < 5
    · have ow : OK1 w 0 n := (o.E0 x1).of (b6 42 (by decide) (by decide) (by decide) (by decide) (by decide) (by decide) (by decide) (by decide)) (b6 43 (by decide) (by decide) (by decide) (by decide) (by decide) (by decide) (by decide) (by decide))
      obtain ⟨z, c1, c2⟩ := many10E b2 ow E.refl
      have et : totV w (mms w 0) n = totV u (mms (slN 1 (cpM u 8)) 1) n := by
        obtain ⟨d12, d14⟩ := b7 hc.1 hc.2
        rw [totV_F (b6 11 (by decide) (by decide) (by decide) (by decide) (by decide) (by decide) (by decide) (by decide)) d12 d14 (b6 20 (by decide) (by decide) (by decide) (by decide) (by decide) (by decide) (by decide) (by decide)) (b6 21 (by decide) (by decide) (by decide) (by decide) (by decide) (by decide) (by decide) (by decide)) (b6 22 (by decide) (by decide) (by decide) (by decide) (by decide) (by decide) (by decide) (by decide)) (b6 30 (by decide) (by decide) (by decide) (by decide) (by decide) (by decide) (by decide) (by decide)) (b6 34 (by decide) (by decide) (by decide) (by decide) (by decide) (by decide) (by decide) (by decide)) (b6 42 (by decide) (by decide) (by decide) (by decide) (by decide) (by decide) (by decide) (by decide)), totV_E x1]
        refine totV_m o (fun y hy j hj => ?_)
        show w 40 (8 * 0 + y) j = (slF (cpM u 8) 1) 40 (8 * 1 + y) j
        rw [slF_40 (by omega) hj, sl_cp (by omega) (by omega), Nat.mul_zero, Nat.zero_add, b4 y hy j hj, sl_E x1 (by omega)]
      refine ⟨z, b2.E c2, fun cm co cf n' hcm hco => ?_⟩
      have hZz : ZF v z s t := ⟨fun k hk j hj => (c2.at (by unfold mk; omega)).trans (b4 k hk j hj), fun p hp => ⟨(c2.at (by unfold mk; omega)).trans (hZw.2.1 p hp).1, (c2.at (by unfold mk; omega)).trans (hZw.2.1 p hp).2⟩, fun j hj => (c2.at (by unfold mk; omega)).trans (hZw.2.2 j hj)⟩
      unfold f_L_isPassed_L69b
      generalize hF : (1000000 : Nat) = F
      rw [if_pos (by decide), a1', xb_ok, many0, xb_ok, b1, xb_ok, if_pos rfl, many12, xb_ok, if_pos b3, if_neg (show ¬ (7 : Int32) ≤ nI s from nI_ge (b := 7) hc.1 (by decide)), if_neg (show ¬ (5 : Int32) ≤ nI t from nI_ge (b := 5) hc.2 (by decide)), c1, xb_ok, if_pos et]
      exact ip_169 hv (b2.E c2) hs ht hZz hcm hco 4 0 F rfl (by omega)
    · refine ⟨w, b2, fun cm co cf n' hcm hco => ?_⟩
      unfold f_L_isPassed_L69b
      generalize hF : (1000000 : Nat) = F
      rw [if_pos (by decide), a1', xb_ok, many0, xb_ok, b1, xb_ok, if_pos rfl, many12, xb_ok, if_pos b3]
      have he := ip_169 (N := N) hv b2 hs ht hZw hcm hco 4 0 F rfl (by omega)
      by_cases h7 : (7 : Int32) ≤ nI s
      · rw [if_pos h7]; exact he
      · have h5 : (5 : Int32) ≤ nI t := by
          refine nI_le (a := 5) (Nat.not_lt.mp fun q => hc ⟨?_, q⟩) (by omega)
          exact Nat.not_le.mp (fun q2 => h7 (nI_le (a := 7) q2 (by omega)))
        rw [if_neg h7, if_pos h5]
        exact he
  obtain ⟨z, hz, hm⟩ := main
  refine ⟨z, ?_, hz⟩
  unfold f_L_isPassed
  generalize hF0 : (1000000 : Nat) = F0
  rw [nm_u]
  exact ip_12 (N := N) h (x1 := nI s) (x2 := nI t) (R := some (.ok 1, z)) (fun F hF cm hcm => by
    have e := ip_69 h (fun co cf n' hco => hm cm co cf n' (fun a b hb q => (hcm a b hb q).trans (x1.at (by unfold mk; omega)).symm) (fun p hp => ⟨(hco p hp).1.trans (x1.at (by unfold mk; omega)).symm, (hco p hp).2.trans (x1.at (by unfold mk; omega)).symm⟩)) 4 0 F (fun _ => 0) (fun _ => 0) rfl (by omega) (fun p hp => absurd hp (Nat.not_lt_zero _))
    rw [nI_0] at e
    exact e) 6 0 F0 (fun _ _ => 0) rfl (by omega) (fun a b hb q => by omega)
end IP
