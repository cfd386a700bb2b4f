/-! 44: an order heard -/
/-- n places, all phrases of the yard -/
def OK1 (u : St) (k n : Nat) : Prop := n ≤ 10 ∧ u 43 k 0 = nI n ∧ ∀ i, i < n → ∃ q, q < 6 ∧ u 42 k i = nI q
def sAt (hd : F3) (lv : Nat → Int32) (od : Nat → Int32) (i : Nat) : Int32 := mmax 0 (lv (ix (od i)) - (nI i * hd (ix (od i)) 0) / 4)
def sumG (f : Nat → Int32) : Nat → Nat → Int32 → Int32
  | 0, _, s => s
  | d + 1, y, s => sumG f d (y + 1) (s + f y)
def minG (f : Nat → Int32) : Nat → Nat → Int32 → Int32
  | 0, _, s => s
  | d + 1, y, s => minG f d (y + 1) (mmin s (f y))
def meanS (f : Nat → Int32) (n : Nat) : Int32 := if nI n = 0 then 0 else sumG f n 0 0 / nI n
def leastS (f : Nat → Int32) (n : Nat) : Int32 := if nI n = 0 then 0 else minG f n 0 100
def plG (od : Nat → Int32) (q : Int32) : Nat → Nat → Int32 → Int32
  | 0, _, c => c
  | d + 1, y, c => if od y = q then plG od q d (y + 1) (c + 1) else plG od q d (y + 1) c
def rpG (od : Nat → Int32) : Nat → Nat → Int32 → Int32
  | 0, _, c => c
  | d + 1, y, c => if od y = od (y - 1) then rpG od d (y + 1) (c + 1) else rpG od d (y + 1) c
def rep (od : Nat → Int32) (n : Nat) : Int32 := rpG od (n - 1) 1 0
def vrG (hd : F3) (od : Nat → Int32) (n : Nat) : Nat → Nat → Int32 → Int32
  | 0, _, s => hld (s - (8 * rep od n)) 0 100
  | d + 1, y, s => if plG od (nI y) n 0 0 ≤ 0 then vrG hd od n d (y + 1) s else vrG hd od n d (y + 1) (s + (3 * hd y 0))
def vry (hd : F3) (od : Nat → Int32) (n : Nat) : Int32 := vrG hd od n 6 0 0
def hrd (hd : F3) (lv : Nat → Int32) (od : Nat → Int32) (n : Nat) : Int32 := (meanS (sAt hd lv od) n + vry hd od n) + leastS (sAt hd lv od) n
section HRD
variable {N : Nt} {u v : St} {k n i : Nat}
theorem f_sAt (h : Inv N u) (o : OK1 u k n) (hi : i < n) : f_X7_soundAt N u k (nI i) = some (sAt (u 21) (u 70 0) (u 42 k) i, u) := by
  obtain ⟨h1, h2, h3⟩ := o
  obtain ⟨q, hq, e⟩ := h3 i hi
  unfold f_X7_soundAt sAt
  rw [gt1 (inb_nI (by omega) (by decide)), nm_u, ix_nI (by omega), e, gt1 (inb_nI (by omega) (by decide)), ix_nI (by omega), gt1 (by rw [h.n14]; omega), nm_u]
theorem f_mean_l (h : Inv N u) (o : OK1 u k n) : ∀ (d y m : Nat) (s : Int32), y + d = n → d < m → f_X7_meanSound_L4 N k m (nI y) s u = some (if nI n = 0 then 0 else sumG (sAt (u 21) (u 70 0) (u 42 k)) d y s / nI n, u) := by
  intro d
  induction d with
  | zero =>
    intro y m s hy hm
    obtain ⟨m', rfl, -⟩ := fuel hm
    show f_X7_meanSound_L4b N k (f_X7_meanSound_L4 N k m') _ _ u = _
    unfold f_X7_meanSound_L4b sumG
    obtain rfl : y = n := by omega
    rw [o.2.1, if_pos (Int32.le_refl _)]
    by_cases hc : nI y = 0
    · rw [if_pos hc, if_pos hc]
    · rw [if_neg hc, if_neg hc, gt1 hc]
  | succ d ih =>
    intro y m s hy hm
    obtain ⟨m', rfl, h'⟩ := fuel hm
    show f_X7_meanSound_L4b N k (f_X7_meanSound_L4 N k m') _ _ u = _
    unfold f_X7_meanSound_L4b sumG
    have h10 := o.1
    rw [o.2.1, if_neg (nI_ge (by omega) (by omega)), f_sAt h o (by omega), sb_some, nm_u, nm_u, nI_1]
    exact ih (y + 1) m' _ (by omega) (h' d rfl)
theorem f_mean (h : Inv N u) (o : OK1 u k n) : f_X7_meanSound N u k = some (meanS (sAt (u 21) (u 70 0) (u 42 k)) n, u) := by
  unfold f_X7_meanSound
  generalize hF : (1000000 : Nat) = F
  have h10 := o.1
  exact f_mean_l h o n 0 F 0 (by omega) (by omega)
theorem f_least_l (h : Inv N u) (o : OK1 u k n) : ∀ (d y m : Nat) (s : Int32), y + d = n → d < m → f_X7_leastSound_L5 N k m (nI y) s u = some (if nI n = 0 then 0 else minG (sAt (u 21) (u 70 0) (u 42 k)) d y s, u) := by
  intro d
  induction d with
  | zero =>
    intro y m s hy hm
    obtain ⟨m', rfl, -⟩ := fuel hm
    show f_X7_leastSound_L5b N k (f_X7_leastSound_L5 N k m') _ _ u = _
    unfold f_X7_leastSound_L5b minG
    obtain rfl : y = n := by omega
    rw [o.2.1, if_pos (Int32.le_refl _)]
    by_cases hc : nI y = 0
    · rw [if_pos hc, if_pos hc]
    · rw [if_neg hc, if_neg hc]
  | succ d ih =>
    intro y m s hy hm
    obtain ⟨m', rfl, h'⟩ := fuel hm
    show f_X7_leastSound_L5b N k (f_X7_leastSound_L5 N k m') _ _ u = _
    unfold f_X7_leastSound_L5b minG
    have h10 := o.1
    rw [o.2.1, if_neg (nI_ge (by omega) (by omega)), f_sAt h o (by omega), sb_some, nm_u, nm_u, nI_1]
    exact ih (y + 1) m' _ (by omega) (h' d rfl)
theorem f_least (h : Inv N u) (o : OK1 u k n) : f_X7_leastSound N u k = some (leastS (sAt (u 21) (u 70 0) (u 42 k)) n, u) := by
  unfold f_X7_leastSound
  generalize hF : (1000000 : Nat) = F
  have h10 := o.1
  exact f_least_l h o n 0 F 100 (by omega) (by omega)
theorem f_pl_l (o : OK1 u k n) {q : Int32} : ∀ (d y m : Nat) (c : Int32), y + d = n → d < m → f_X0_placesOf_L4 N k m (nI y) c q u = some (plG (u 42 k) q d y c, u) := by
  intro d
  induction d with
  | zero =>
    intro y m c hy hm
    obtain ⟨m', rfl, -⟩ := fuel hm
    show f_X0_placesOf_L4b N k (f_X0_placesOf_L4 N k m') _ _ _ u = _
    unfold f_X0_placesOf_L4b plG
    obtain rfl : y = n := by omega
    rw [o.2.1, if_pos (Int32.le_refl _)]
  | succ d ih =>
    intro y m c hy hm
    obtain ⟨m', rfl, h'⟩ := fuel hm
    show f_X0_placesOf_L4b N k (f_X0_placesOf_L4 N k m') _ _ _ u = _
    unfold f_X0_placesOf_L4b plG
    have h10 := o.1
    rw [o.2.1, if_neg (nI_ge (by omega) (by omega)), gt1 (inb_nI (by omega) (by decide)), ix_nI (by omega)]
    by_cases hc : u 42 k y = q
    · rw [if_pos hc, if_pos hc, nm_u, nm_u, nI_1]
      exact ih (y + 1) m' _ (by omega) (h' d rfl)
    · rw [if_neg hc, if_neg hc, nm_u, nI_1]
      exact ih (y + 1) m' _ (by omega) (h' d rfl)
theorem f_pl (o : OK1 u k n) {q : Int32} : f_X0_placesOf N u k q = some (plG (u 42 k) q n 0 0, u) := by
  unfold f_X0_placesOf
  generalize hF : (1000000 : Nat) = F
  have h10 := o.1
  exact f_pl_l o n 0 F 0 (by omega) (by omega)
theorem f_rp_l (o : OK1 u k n) : ∀ (d y m : Nat) (c : Int32), 1 ≤ y → y + d = n ∨ (d = 0 ∧ n ≤ y ∧ y < 100) → d < m → f_X0_repeats_L4 N k m (nI y) c u = some (rpG (u 42 k) d y c, u) := by
  intro d
  induction d with
  | zero =>
    intro y m c h1 hy hm
    obtain ⟨m', rfl, -⟩ := fuel hm
    show f_X0_repeats_L4b N k (f_X0_repeats_L4 N k m') _ _ u = _
    unfold f_X0_repeats_L4b rpG
    have h10 := o.1
    rw [o.2.1, if_pos (nI_le (by omega) (by omega))]
  | succ d ih =>
    intro y m c h1 hy hm
    obtain ⟨m', rfl, h'⟩ := fuel hm
    show f_X0_repeats_L4b N k (f_X0_repeats_L4 N k m') _ _ u = _
    unfold f_X0_repeats_L4b rpG
    have h10 := o.1
    have e : nI y - 1 = nI (y - 1) := by
      have := nI_pred (y - 1)
      rw [show y - 1 + 1 = y from by omega] at this
      exact this
    rw [o.2.1, if_neg (nI_ge (by omega) (by omega)), gt1 (inb_nI (by omega) (by decide)), e, gt1 (inb_nI (by omega) (by decide)), ix_nI (by omega), ix_nI (by omega)]
    by_cases hc : u 42 k y = u 42 k (y - 1)
    · rw [if_pos hc, if_pos hc, nm_u, nm_u, nI_1]
      exact ih (y + 1) m' _ (by omega) (by omega) (h' d rfl)
    · rw [if_neg hc, if_neg hc, nm_u, nI_1]
      exact ih (y + 1) m' _ (by omega) (by omega) (h' d rfl)
theorem f_rp (o : OK1 u k n) : f_X0_repeats N u k = some (rep (u 42 k) n, u) := by
  unfold f_X0_repeats
  generalize hF : (1000000 : Nat) = F
  have h10 := o.1
  exact f_rp_l o (n - 1) 1 F 0 (by omega) (by omega) (by omega)
theorem f_vr_l (h : Inv N u) (o : OK1 u k n) : ∀ (d y m : Nat) (s : Int32), y + d = 6 → d < m → f_X7_variety_L4 N k m (nI y) s u = some (vrG (u 21) (u 42 k) n d y s, u) := by
  intro d
  induction d with
  | zero =>
    intro y m s hy hm
    obtain ⟨m', rfl, -⟩ := fuel hm
    show f_X7_variety_L4b N k (f_X7_variety_L4 N k m') _ _ u = _
    unfold f_X7_variety_L4b vrG
    obtain rfl : y = 6 := by omega
    rw [h.c1, if_pos (by decide), f_rp o, sb_some, fheld, sb_some]
  | succ d ih =>
    intro y m s hy hm
    obtain ⟨m', rfl, h'⟩ := fuel hm
    show f_X7_variety_L4b N k (f_X7_variety_L4 N k m') _ _ u = _
    unfold f_X7_variety_L4b vrG
    rw [h.c1, if_neg (show ¬ (6 : Int32) ≤ nI y from nI_ge (b := 6) (by omega) (by decide)), f_pl o, sb_some]
    by_cases hc : plG (u 42 k) (nI y) n 0 0 ≤ 0
    · rw [if_pos hc, if_pos hc, nm_u, nI_1]
      exact ih (y + 1) m' _ (by omega) (h' d rfl)
    · rw [if_neg hc, if_neg hc, gt1 (inb_nI (by omega) (by decide)), ix_nI (by omega), gt1 (by rw [h.n14]; omega), nm_u, nm_u, nI_1]
      exact ih (y + 1) m' _ (by omega) (h' d rfl)
theorem f_vr (h : Inv N u) (o : OK1 u k n) : f_X7_variety N u k = some (vry (u 21) (u 42 k) n, u) := by
  unfold f_X7_variety
  generalize hF : (1000000 : Nat) = F
  exact f_vr_l h o 6 0 F 0 rfl (by omega)
theorem f_heard (h : Inv N u) (o : OK1 u k n) : f_X7_heard N u k = some (hrd (u 21) (u 70 0) (u 42 k) n, u) := by
  unfold f_X7_heard
  rw [f_mean h o, sb_some, f_vr h o, sb_some, f_least h o, sb_some]
  rfl
/-! only the places are read -/
theorem sAt_c {hd : F3} {lv lv' : Nat → Int32} {od od' : Nat → Int32} (ho : ∀ i, i < n → ∃ q, q < 6 ∧ od i = nI q) (hl : ∀ q, q < 6 → lv' q = lv q) (he : ∀ i, i < n → od' i = od i) (hi : i < n) : sAt hd lv' od' i = sAt hd lv od i := by
  obtain ⟨q, hq, e⟩ := ho i hi
  unfold sAt
  rw [he i hi, e, ix_nI (by omega), hl q hq]
theorem sumG_c {f g : Nat → Int32} : ∀ (d y : Nat) (s : Int32), (∀ i, i < y + d → f i = g i) → sumG f d y s = sumG g d y s := by
  intro d
  induction d with
  | zero => intro y s _; rfl
  | succ d ih => intro y s h; unfold sumG; rw [h y (by omega)]; exact ih (y + 1) _ (fun i hi => h i (by omega))
theorem minG_c {f g : Nat → Int32} : ∀ (d y : Nat) (s : Int32), (∀ i, i < y + d → f i = g i) → minG f d y s = minG g d y s := by
  intro d
  induction d with
  | zero => intro y s _; rfl
  | succ d ih => intro y s h; unfold minG; rw [h y (by omega)]; exact ih (y + 1) _ (fun i hi => h i (by omega))
theorem plG_c {f g : Nat → Int32} {q : Int32} : ∀ (d y : Nat) (s : Int32), (∀ i, i < y + d → f i = g i) → plG f q d y s = plG g q d y s := by
  intro d
  induction d with
  | zero => intro y s _; rfl
  | succ d ih => intro y s h; unfold plG; rw [h y (by omega), ih (y + 1) _ (fun i hi => h i (by omega)), ih (y + 1) _ (fun i hi => h i (by omega))]
theorem rpG_c {f g : Nat → Int32} : ∀ (d y : Nat) (s : Int32), (∀ i, i < y + d → f i = g i) → rpG f d y s = rpG g d y s := by
  intro d
  induction d with
  | zero => intro y s _; rfl
  | succ d ih => intro y s h; unfold rpG; rw [h y (by omega), h (y - 1) (by omega), ih (y + 1) _ (fun i hi => h i (by omega)), ih (y + 1) _ (fun i hi => h i (by omega))]
theorem rep_c {f g : Nat → Int32} (h : ∀ i, i < n → f i = g i) : rep f n = rep g n := by
  unfold rep
  rcases Nat.eq_zero_or_pos n with h0 | h0
  · subst h0; rfl
  · exact rpG_c _ _ _ (fun i hi => h i (by omega))
theorem vrG_c {hd : F3} {f g : Nat → Int32} (h : ∀ i, i < n → f i = g i) : ∀ (d y : Nat) (s : Int32), vrG hd f n d y s = vrG hd g n d y s := by
  intro d
  induction d with
  | zero => intro y s; unfold vrG; rw [rep_c h]
  | succ d ih => intro y s; unfold vrG; rw [plG_c n 0 0 (fun i hi => h i (by omega)), ih, ih]
theorem hrd_c {hd : F3} {lv lv' : Nat → Int32} {od od' : Nat → Int32} (ho : ∀ i, i < n → ∃ q, q < 6 ∧ od i = nI q) (hl : ∀ q, q < 6 → lv' q = lv q) (he : ∀ i, i < n → od' i = od i) : hrd hd lv' od' n = hrd hd lv od n := by
  have hs : ∀ i, i < 0 + n → sAt hd lv' od' i = sAt hd lv od i := fun i hi => sAt_c ho hl he (by omega)
  unfold hrd meanS leastS vry
  rw [sumG_c n 0 0 hs, minG_c n 0 100 hs, vrG_c he]
end HRD
