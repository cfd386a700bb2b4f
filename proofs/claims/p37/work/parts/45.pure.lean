/-! 45: totals, marks; what is forgotten; what would be -/
theorem ifc {α : Type} {c d : Prop} [Decidable c] [Decidable d] {x x' y y' : α} (h : c ↔ d) (hx : x = x') (hy : y = y') : (if c then x else y) = (if d then x' else y') := by
  subst hx; subst hy
  by_cases hc : c
  · rw [if_pos hc, if_pos (h.mp hc)]
  · rw [if_neg hc, if_neg (fun q => hc (h.mpr q))]
theorem lvG_m {u : St} {mm mm' : F3} {j : Nat} (h : ∀ y, y < 6 → mm' y j = mm y j) : ∀ (d y : Nat) (c s : Int32), y + d = 6 → lvG u mm' j d y c s = lvG u mm j d y c s := by
  intro d
  induction d with
  | zero => intro y c s _; rfl
  | succ d ih =>
    intro y c s hy
    unfold lvG
    rw [show lvx u mm' j y = lvx u mm j y from by unfold lvx; rw [h y (by omega)], ih _ _ _ (by omega), ih _ _ _ (by omega)]
theorem lev_m {u : St} {mm mm' : F3} {j : Nat} (h : ∀ y, y < 6 → mm' y j = mm y j) : lev u mm' j = lev u mm j := lvG_m h 6 0 0 0 rfl
def totV (u : St) (mm : F3) (n : Nat) : Int32 := tone u + hrd (u 21) (lev u mm) (u 42 0) n
section TOT
variable {N : Nt} {u v : St} {n k2 : Nat} {mm : F3}
theorem Inv.ord (h : Inv N u) : ∃ n, OK1 u 0 n := by
  obtain ⟨n, h1, h2, h3⟩ := h.o
  exact ⟨n, h1, h2, h3⟩
theorem OK1.E0 (o : OK1 u 0 n) (e : E u v) : OK1 v 0 n := ⟨o.1, (e.at (by unfold mk; omega)).trans o.2.1, fun i hi => by rw [e.at (f := 42) (by unfold mk; omega)]; exact o.2.2 i hi⟩
theorem totV_E (e : E u v) : totV v mm n = totV u mm n := by
  unfold totV
  rw [tone_E e, e.row (f := 42) (fun i => by unfold mk; omega), show lev v mm = lev u mm from funext fun j => lev_E e, show v 21 = u 21 from funext fun k => e.row (fun i => by unfold mk; omega)]
theorem totV_m {mm' : F3} (o : OK1 u 0 n) (h : ∀ y, y < 6 → ∀ j, j < 6 → mm' y j = mm y j) : totV u mm' n = totV u mm n := by
  unfold totV
  rw [hrd_c (lv := lev u mm) (lv' := lev u mm') o.2.2 (fun q hq => lev_m (fun y hy => h y hy q hq)) (fun _ _ => rfl)]
theorem hrd_L (o : OK1 u 0 n) : hrd (u 21) ((setL u (lev u mm) 6) 70 0) (u 42 0) n = hrd (u 21) (lev u mm) (u 42 0) n := hrd_c o.2.2 (fun q hq => setL_70 hq) (fun _ _ => rfl)
theorem f_heardL (h : Inv N u) (o : OK1 u 0 n) : f_X7_heard N (setL u (lev u mm) 6) 0 = some (hrd (u 21) (lev u mm) (u 42 0) n, setL u (lev u mm) 6) := by
  rw [f_heard (h.E setL_E) (o.E0 setL_E), setL_f (f := 21) (by decide), setL_f (f := 42) (by decide), hrd_L o]
theorem f_tot (h : Inv N u) (o : OK1 u 0 n) : f_X7_totalNow N u = some (totV u (mms u 0) n, setL u (lev u (mms u 0)) 6) := by
  unfold f_X7_totalNow
  rw [f_weigh h, sb_some, f_tone (h.E setL_E), sb_some, f_heardL h o, sb_some, tone_E setL_E]
  rfl
def score (u : St) (t : Int32) : Int32 := ((((t + (u 61 0 0)) + (u 61 0 1)) + (u 61 0 2)) - (mmin (u 61 0 0) (mmin (u 61 0 1) (u 61 0 2)))) - (mmax (u 61 0 0) (mmax (u 61 0 1) (u 61 0 2)))
theorem f_score {t : Int32} : f_X1_scoreOf N u t = some (score u t, u) := rfl
theorem many0 : f_X7_many N u 0 = some (.ok (u 51 0 0), u) := by unfold f_X7_many; rw [if_pos rfl]
theorem many3 : f_X7_many N u 3 = some (.ok (u 43 0 0), u) := by
  unfold f_X7_many
  rw [if_neg (by decide), if_neg (by decide), if_neg (by decide), if_pos rfl]
theorem many5 (h : Inv N u) : f_X7_many N u 5 = some (.ok (nI (cnt (snd u) 6)), u) := by
  unfold f_X7_many
  rw [if_neg (by decide), if_neg (by decide), if_neg (by decide), if_neg (by decide), if_neg (by decide), if_pos rfl, sndCount h.c2 h.n15 h.n12 h.h33, sb_some]
theorem many7 : f_X7_many N u 7 = some (.ok (u 3 0 0), u) := by
  unfold f_X7_many
  rw [if_neg (by decide), if_neg (by decide), if_neg (by decide), if_neg (by decide), if_neg (by decide), if_neg (by decide), if_neg (by decide), if_pos rfl]
theorem many8 : f_X7_many N u 8 = some (.ok (u 65 0 0), u) := by
  unfold f_X7_many
  rw [if_neg (by decide), if_neg (by decide), if_neg (by decide), if_neg (by decide), if_neg (by decide), if_neg (by decide), if_neg (by decide), if_neg (by decide), if_pos rfl]
def ovr (u : St) : Bool := !(decide (u 66 0 0 = 0) && decide (u 65 0 0 < 3))
theorem f_over : f_X1_isOver N u = some (b2i (ovr u), u) := by
  unfold f_X1_isOver ovr
  by_cases h1 : u 66 0 0 = 0
  · rw [if_pos h1, decide_eq_true h1]
    by_cases h2 : u 65 0 0 < 3
    · rw [if_pos h2, decide_eq_true h2]; rfl
    · rw [if_neg h2, decide_eq_false h2]; rfl
  · rw [if_neg h1, decide_eq_false h1]; rfl
theorem many9 : f_X7_many N u 9 = some (.ok (b2i (ovr u)), u) := by
  unfold f_X7_many
  rw [if_neg (by decide), if_neg (by decide), if_neg (by decide), if_neg (by decide), if_neg (by decide), if_neg (by decide), if_neg (by decide), if_neg (by decide), if_neg (by decide), if_pos rfl, f_over, sb_some, ib0]
  cases ovr u <;> rfl
theorem many10 (h : Inv N u) (o : OK1 u 0 n) : f_X7_many N u 10 = some (.ok (totV u (mms u 0) n), setL u (lev u (mms u 0)) 6) := by
  unfold f_X7_many
  rw [if_neg (by decide), if_neg (by decide), if_neg (by decide), if_neg (by decide), if_neg (by decide), if_neg (by decide), if_neg (by decide), if_neg (by decide), if_neg (by decide), if_neg (by decide), if_pos rfl, f_tot h o, sb_some]
theorem score_E {t : Int32} (e : E u v) : score v t = score u t := by
  have h : v 61 0 = u 61 0 := e.row (fun i => by unfold mk; omega)
  unfold score
  rw [h]
theorem many11 (h : Inv N u) (o : OK1 u 0 n) : f_X7_many N u 11 = some (.ok (score u (totV u (mms u 0) n)), setL u (lev u (mms u 0)) 6) := by
  unfold f_X7_many
  rw [if_neg (by decide), if_neg (by decide), if_neg (by decide), if_neg (by decide), if_neg (by decide), if_neg (by decide), if_neg (by decide), if_neg (by decide), if_neg (by decide), if_neg (by decide), if_neg (by decide), if_pos rfl, f_tot h o, sb_some, f_score, sb_some, score_E setL_E]
theorem many12 : f_X7_many N u 12 = some (.ok (u 52 0 0), u) := by
  unfold f_X7_many
  rw [if_neg (by decide), if_neg (by decide), if_neg (by decide), if_neg (by decide), if_neg (by decide), if_neg (by decide), if_neg (by decide), if_neg (by decide), if_neg (by decide), if_neg (by decide), if_neg (by decide), if_neg (by decide), if_pos rfl]
theorem mark0 (h : Inv N u) (o : OK1 u 0 n) : f_X7_mark N u 0 = some (.ok (meanS (sAt (u 21) (lev u (mms u 0)) (u 42 0)) n), setL u (lev u (mms u 0)) 6) := by
  unfold f_X7_mark
  rw [fwi, sb_some, show win 0 0 3 = 1 from by decide, if_neg (by decide), f_weigh h, sb_some, if_pos rfl, f_mean (h.E setL_E) (o.E0 setL_E), sb_some, setL_f (f := 21) (by decide), setL_f (f := 42) (by decide)]
  have hs : ∀ i, i < 0 + n → sAt (u 21) ((setL u (lev u (mms u 0)) 6) 70 0) (u 42 0) i = sAt (u 21) (lev u (mms u 0)) (u 42 0) i := fun i hi => sAt_c o.2.2 (fun q hq => setL_70 hq) (fun _ _ => rfl) (by omega)
  unfold meanS
  rw [sumG_c n 0 0 hs]
theorem mark1 (h : Inv N u) : f_X7_mark N u 1 = some (.ok (tone u), setL u (lev u (mms u 0)) 6) := by
  unfold f_X7_mark
  rw [fwi, sb_some, show win 1 0 3 = 1 from by decide, if_neg (by decide), f_weigh h, sb_some, if_neg (by decide), if_pos rfl, f_tone (h.E setL_E), sb_some, tone_E setL_E]
theorem mark2 (h : Inv N u) (o : OK1 u 0 n) : f_X7_mark N u 2 = some (.ok (vry (u 21) (u 42 0) n), setL u (lev u (mms u 0)) 6) := by
  unfold f_X7_mark
  rw [fwi, sb_some, show win 2 0 3 = 1 from by decide, if_neg (by decide), f_weigh h, sb_some, if_neg (by decide), if_neg (by decide), if_pos rfl, f_vr (h.E setL_E) (o.E0 setL_E), sb_some, setL_f (f := 21) (by decide), setL_f (f := 42) (by decide)]
theorem mark3 (h : Inv N u) (o : OK1 u 0 n) : f_X7_mark N u 3 = some (.ok (leastS (sAt (u 21) (lev u (mms u 0)) (u 42 0)) n), setL u (lev u (mms u 0)) 6) := by
  unfold f_X7_mark
  rw [fwi, sb_some, show win 3 0 3 = 1 from by decide, if_neg (by decide), f_weigh h, sb_some, if_neg (by decide), if_neg (by decide), if_neg (by decide), f_least (h.E setL_E) (o.E0 setL_E), sb_some, setL_f (f := 21) (by decide), setL_f (f := 42) (by decide)]
  have hs : ∀ i, i < 0 + n → sAt (u 21) ((setL u (lev u (mms u 0)) 6) 70 0) (u 42 0) i = sAt (u 21) (lev u (mms u 0)) (u 42 0) i := fun i hi => sAt_c o.2.2 (fun q hq => setL_70 hq) (fun _ _ => rfl) (by omega)
  unfold leastS
  rw [minG_c n 0 100 hs]
end TOT
/-! sleep -/
def sl (u : St) (k0 a i : Nat) : Int32 := if ((u 41 k0 a >>> (nI i &&& 31)) &&& 1) = 0 then mmax 0 ((u 40 (8 * k0 + a) i - u 21 i 0 / 2) - 1) else u 40 (8 * k0 + a) i
def slS (u : St) (k0 A J : Nat) : St := fun f k i => if f = 40 ∧ 8 * k0 ≤ k ∧ i < 6 ∧ (k < 8 * k0 + A ∨ (k = 8 * k0 + A ∧ i < J)) then sl u k0 (k - 8 * k0) i else if f = 41 ∧ k = k0 ∧ i < A then 0 else u f k i
section SLP
variable {N : Nt} {u v : St} {k0 A J : Nat}
theorem slS_f {f : Nat} (h : f ≠ 40) (h2 : f ≠ 41) : slS u k0 A J f = u f := funext fun k => funext fun i => by
  unfold slS
  rw [if_neg (fun q => h q.1), if_neg (fun q => h2 q.1)]
theorem slS_0 : slS u k0 0 0 = u := funext fun f => funext fun k => funext fun i => by
  unfold slS
  rw [if_neg (fun q => by omega), if_neg (fun q => by omega)]
theorem slS_s (hJ : J < 6) : sset (slS u k0 A J) 40 (8 * k0 + A) J (sl u k0 A J) = slS u k0 A (J + 1) := funext fun f => funext fun k => funext fun i => by
  unfold sset slS
  by_cases h1 : f = 40 ∧ k = 8 * k0 + A ∧ i = J
  · obtain ⟨rfl, rfl, rfl⟩ := h1
    rw [if_pos ⟨rfl, rfl, rfl⟩, if_pos ⟨rfl, by omega, hJ, Or.inr ⟨rfl, by omega⟩⟩, show 8 * k0 + A - 8 * k0 = A from by omega]
  · rw [if_neg h1]
    exact ifc (by omega) rfl rfl
theorem slS_u (hJ : J < 6) (h : sl u k0 A J = u 40 (8 * k0 + A) J) : slS u k0 A J = slS u k0 A (J + 1) := funext fun f => funext fun k => funext fun i => by
  unfold slS
  by_cases h1 : f = 40 ∧ k = 8 * k0 + A ∧ i = J
  · obtain ⟨rfl, rfl, rfl⟩ := h1
    rw [if_neg (fun q => by omega), if_neg (fun q => by omega), if_pos ⟨rfl, by omega, hJ, Or.inr ⟨rfl, by omega⟩⟩, show 8 * k0 + A - 8 * k0 = A from by omega, h]
  · exact ifc (by omega) rfl rfl
theorem slS_b : sset (slS u k0 A 6) 41 k0 A 0 = slS u k0 (A + 1) 0 := funext fun f => funext fun k => funext fun i => by
  unfold sset slS
  by_cases h1 : f = 41 ∧ k = k0 ∧ i = A
  · rw [if_pos h1, if_neg (fun q => by omega), if_pos ⟨h1.1, h1.2.1, by omega⟩]
  · rw [if_neg h1]
    exact ifc (by omega) rfl (ifc (by omega) rfl rfl)
theorem f_sleep_i (h14 : N 14 = 6) (hA : A < 8) {ih2 : Int32 → Int32 → St → Option (Unit × St)} : ∀ (d y n : Nat), y + d = 6 → d < n → f_X2_sleep_L11 N k0 ih2 n (nI y) (nI A) 6 (slS u k0 A y) = ih2 (nI (A + 1)) 6 (slS u k0 (A + 1) 0) := by
  intro d
  induction d with
  | zero =>
    intro y n hy hn
    obtain ⟨n', rfl, -⟩ := fuel hn
    show f_X2_sleep_L11b N k0 ih2 (f_X2_sleep_L11 N k0 ih2 n') _ _ _ _ = _
    unfold f_X2_sleep_L11b
    obtain rfl : y = 6 := by omega
    rw [if_pos (by decide), gt1 (inb_nI hA (by decide)), ix_nI (by omega), slS_b, nm_u, nm_u, nI_1]
  | succ d ih =>
    intro y n hy hn
    obtain ⟨n', rfl, h'⟩ := fuel hn
    have ih1 := ih (y + 1) n' (by omega) (h' d rfl)
    show f_X2_sleep_L11b N k0 ih2 (f_X2_sleep_L11 N k0 ih2 n') _ _ _ _ = _
    unfold f_X2_sleep_L11b
    have e41 : slS u k0 A y 41 k0 A = u 41 k0 A := by
      unfold slS
      rw [if_neg (fun q => by omega), if_neg (fun q => by omega)]
    have e40 : slS u k0 A y 40 (8 * k0 + A) y = u 40 (8 * k0 + A) y := by
      unfold slS
      rw [if_neg (fun q => by omega), if_neg (fun q => by omega)]
    rw [if_neg (show ¬ (6 : Int32) ≤ nI y from nI_ge (b := 6) (by omega) (by decide)), gt1 (inb_nI hA (by decide)), ix_nI (by omega), e41]
    by_cases hc : ((u 41 k0 A >>> (nI y &&& 31)) &&& 1) = 0
    · rw [if_pos hc, gt1 (inb_nI (by omega) (by decide)), ix_nI (by omega), gt1 (by rw [h14]; omega), e40, slS_f (f := 21) (by decide) (by decide)]
      have e : sl u k0 A y = mmax 0 ((u 40 (8 * k0 + A) y - u 21 y 0 / 2) - 1) := if_pos hc
      rw [nm_u, ← e, slS_s (by omega), nm_u, nm_u, nI_1]
      exact ih1
    · rw [if_neg hc, nm_u, nI_1, slS_u (by omega) (if_neg hc)]
      exact ih1
theorem f_sleep_o (h14 : N 14 = 6) : ∀ (d A n : Nat), A + d = 8 → d < n → f_X2_sleep_L2 N k0 n (nI A) 6 (slS u k0 A 0) = some ((), slS u k0 8 0) := by
  intro d
  induction d with
  | zero =>
    intro A n hA hn
    obtain ⟨n', rfl, -⟩ := fuel hn
    show f_X2_sleep_L2b N k0 (f_X2_sleep_L2 N k0 n') _ _ _ = _
    unfold f_X2_sleep_L2b
    obtain rfl : A = 8 := by omega
    rw [if_pos (by decide)]
  | succ d ih =>
    intro A n hA hn
    obtain ⟨n', rfl, h'⟩ := fuel hn
    show f_X2_sleep_L2b N k0 (f_X2_sleep_L2 N k0 n') _ _ _ = _
    unfold f_X2_sleep_L2b
    generalize hF : (1000000 : Nat) = F
    rw [if_neg (lge8 (y := A) (by omega))]
    exact (f_sleep_i h14 (by omega) 6 0 F rfl (by omega)).trans (ih (A + 1) n' (by omega) (h' d rfl))
def slF (u : St) (k0 : Nat) : St := slS u k0 8 0
theorem f_sleep (h14 : N 14 = 6) : f_X2_sleep N u k0 6 = some ((), slF u k0) := by
  unfold f_X2_sleep
  generalize hF : (1000000 : Nat) = F
  have h := f_sleep_o (u := u) (k0 := k0) h14 8 0 F rfl (by omega)
  rw [slS_0] at h
  exact h
theorem slF_40 {a i : Nat} (ha : a < 8) (hi : i < 6) : slF u k0 40 (8 * k0 + a) i = sl u k0 a i := by
  unfold slF slS
  rw [if_pos ⟨rfl, by omega, hi, by omega⟩, show 8 * k0 + a - 8 * k0 = a from by omega]
theorem slF_E1 : E u (slF u 1) := fun f k i h => by
  unfold slF slS
  unfold mk at h
  rw [if_neg (fun q => by omega), if_neg (fun q => by omega)]
/-- minds 1 out of minds 0 -/
def cpM (u : St) (A : Nat) : St := fun f k i => if f = 40 ∧ 8 ≤ k ∧ k < 8 + A ∧ i < 8 then u 40 (k - 8) i else if f = 41 ∧ k = 1 ∧ i < A then u 41 0 i else u f k i
theorem cpM_0 : cpM u 0 = u := funext fun f => funext fun k => funext fun i => by
  unfold cpM
  rw [if_neg (fun q => by omega), if_neg (fun q => by omega)]
theorem cpM_E {A : Nat} : E u (cpM u A) := fun f k i h => by
  unfold cpM
  unfold mk at h
  rw [if_neg (fun q => by omega), if_neg (fun q => by omega)]
theorem f_cpM_l : ∀ (d A n : Nat), A + d = 8 → d < n → f_X2_copyFrom_L2 N 1 0 n (nI A) (cpM u A) = some ((), cpM u 8) := by
  intro d
  induction d with
  | zero =>
    intro A n hA hn
    obtain ⟨n', rfl, -⟩ := fuel hn
    show f_X2_copyFrom_L2b N 1 0 (f_X2_copyFrom_L2 N 1 0 n') _ _ = _
    unfold f_X2_copyFrom_L2b
    obtain rfl : A = 8 := by omega
    rw [if_pos (by decide)]
  | succ d ih =>
    intro A n hA hn
    obtain ⟨n', rfl, h'⟩ := fuel hn
    show f_X2_copyFrom_L2b N 1 0 (f_X2_copyFrom_L2 N 1 0 n') _ _ = _
    unfold f_X2_copyFrom_L2b
    have e : sset (scpy (cpM u A) 40 (8 * 0 + A) (8 * 1 + A) 8) 41 1 A ((scpy (cpM u A) 40 (8 * 0 + A) (8 * 1 + A) 8) 41 0 A) = cpM u (A + 1) := funext fun f => funext fun k => funext fun i => by
      unfold sset scpy cpM
      by_cases h1 : f = 41 ∧ k = 1 ∧ i = A
      · obtain ⟨rfl, rfl, rfl⟩ := h1
        rw [if_pos ⟨rfl, rfl, rfl⟩, if_neg (fun q => by omega), if_neg (fun q => by omega), if_neg (fun q => by omega), if_neg (fun q => by omega), if_pos ⟨rfl, rfl, by omega⟩]
      · rw [if_neg h1]
        by_cases h2 : f = 40 ∧ k = 8 * 1 + A ∧ i < 8
        · rw [if_pos h2, if_neg (fun q => by omega), if_neg (fun q => by omega), if_pos ⟨h2.1, by omega, by omega, h2.2.2⟩, show k - 8 = 8 * 0 + A from by omega]
        · rw [if_neg h2]
          exact ifc (by omega) rfl (ifc (by omega) rfl rfl)
    rw [if_neg (lge8 (y := A) (by omega)), gt1 (inb_nI (by omega) (by decide)), ix_nI (by omega), nm_u, nm_u, nm_u, nI_1, e]
    exact ih (A + 1) n' (by omega) (h' d rfl)
theorem f_cpM : f_X2_copyFrom N u 1 0 = some ((), cpM u 8) := by
  unfold f_X2_copyFrom
  generalize hF : (1000000 : Nat) = F
  have h := f_cpM_l (N := N) (u := u) 8 0 F rfl (by omega)
  rw [cpM_0] at h
  exact h
def slN : Nat → St → St
  | 0, w => w
  | d + 1, w => slN d (slF w 1)
theorem f_would_l {n X : Nat} (h : Inv N u) (o : OK1 u 0 n) (hX : X ≤ 60) : ∀ (d y m : Nat) (w : St), y + d = X → d < m → E u w → ∃ v, f_X7_wouldTotal_L34 N m (nI y) (nI X) w = some (.ok (totV u (mms (slN d w) 1) n), v) ∧ E u v := by
  intro d
  induction d with
  | zero =>
    intro y m w hy hm hw
    obtain ⟨m', rfl, -⟩ := fuel hm
    refine ⟨setL w (lev w (mms w 1)) 6, ?_, hw.trans setL_E⟩
    show f_X7_wouldTotal_L34b N (f_X7_wouldTotal_L34 N m') _ _ _ = _
    unfold f_X7_wouldTotal_L34b
    obtain rfl : y = X := by omega
    rw [if_pos (Int32.le_refl _), f_weigh (h.E hw), sb_some, f_tone ((h.E hw).E setL_E), sb_some, f_heardL (h.E hw) (o.E0 hw), sb_some, tone_E setL_E]
    show some (Except.ok (totV w (mms w 1) n), _) = _
    rw [totV_E hw]
    rfl
  | succ d ih =>
    intro y m w hy hm hw
    obtain ⟨m', rfl, h'⟩ := fuel hm
    obtain ⟨v, e1, e2⟩ := ih (y + 1) m' (slF w 1) (by omega) (h' d rfl) (hw.trans slF_E1)
    refine ⟨v, ?_, e2⟩
    show f_X7_wouldTotal_L34b N (f_X7_wouldTotal_L34 N m') _ _ _ = _
    unfold f_X7_wouldTotal_L34b
    rw [if_neg (nI_ge (by omega) (by omega)), (h.E hw).c1, f_sleep h.n14, sb_some, nm_u, nI_1]
    exact e1
theorem f_would {n X : Nat} (h : Inv N u) (o : OK1 u 0 n) (hX : X ≤ 60) : ∃ v, f_X7_wouldTotal N u (nI X) = some (.ok (totV u (mms (slN X (cpM u 8)) 1) n), v) ∧ E u v := by
  obtain ⟨v, e1, e2⟩ := f_would_l h o hX X 0 1000000 (cpM u 8) (by omega) (by omega) cpM_E
  refine ⟨v, ?_, e2⟩
  unfold f_X7_wouldTotal
  generalize hF : (1000000 : Nat) = F at e1 ⊢
  rw [fwi, sb_some, show win (nI X) 0 60 = 1 from win_z (b := 60) hX (by omega), if_neg (by decide), f_cpM, sb_some]
  exact e1
end SLP
