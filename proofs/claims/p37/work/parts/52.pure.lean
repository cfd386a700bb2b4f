/-! 52: rehearse, play -/
section RH
variable {N : Nt} {u v : St}
theorem f_wear_l {k : Nat} {w b : Int32} {x1 x2 : Int32} : ∀ (d y n : Nat) (o : Nat → Int32), y + d = 8 → d < n → okO o → ∃ o', f_X3_wear_L2 N k n (nI y) x1 x2 (setP u k w b o) = some ((), setP u k w b o') ∧ okO o' := by
  intro d
  induction d with
  | zero =>
    intro y n o hy hn ho
    obtain ⟨n', rfl, -⟩ := fuel hn
    refine ⟨o, ?_, ho⟩
    show f_X3_wear_L2b N k (f_X3_wear_L2 N k n') (nI y) x1 x2 _ = _
    unfold f_X3_wear_L2b
    obtain rfl : y = 8 := by omega
    rw [if_pos (by decide)]
  | succ d ih =>
    intro y n o hy hn ho
    obtain ⟨n', rfl, h'⟩ := fuel hn
    have hs : ∀ x : Int32, ∃ o', f_X3_wear_B32 N k (f_X3_wear_L2 N k n') (nI y) x1 x2 x (nI y) (setP u k w b o) = some ((), setP u k w b o') ∧ okO o' := fun x => by
      obtain ⟨o', e1, e2⟩ := ih (y + 1) n' (shO o y x) (by omega) (h' d rfl) (shO_ok ho)
      refine ⟨o', ?_, e2⟩
      unfold f_X3_wear_B32
      rw [f_shift (by omega), sb_some, nm_u, nI_1]
      exact e1
    have hn2 : ∃ o', f_X3_wear_L2 N k n' (nI (y + 1)) x1 x2 (setP u k w b o) = some ((), setP u k w b o') ∧ okO o' := ih (y + 1) n' o (by omega) (h' d rfl) ho
    show ∃ o', f_X3_wear_L2b N k (f_X3_wear_L2 N k n') (nI y) x1 x2 _ = _ ∧ _
    unfold f_X3_wear_L2b
    rw [if_neg (lge8 (y := y) (by omega))]
    split
    · rw [nm_u]
      split
      · exact hs 1
      · exact hs (-1)
    · rw [nm_u, nI_1]
      exact hn2
theorem f_wear (h : Inv N u) {p : Nat} (hp : p < 4) {x1 x2 : Int32} : ∃ v, f_X3_wear N u p x1 x2 = some ((), v) ∧ Inv N v ∧ v 42 = u 42 ∧ v 43 = u 43 := by
  obtain ⟨o', e1, e2⟩ := f_wear_l (N := N) (u := u) (k := p) (w := u 12 p 0) (b := u 13 p 0) (x1 := x1) (x2 := x2) 8 0 1000000 (u 14 p) rfl (by omega) (h.p p hp).2.2
  rw [setP_id] at e1
  refine ⟨setP u p (u 12 p 0) (u 13 p 0) o', ?_, h.setP e2, setP_f (by decide) (by decide) (by decide), setP_f (by decide) (by decide) (by decide)⟩
  unfold f_X3_wear
  generalize hF : (1000000 : Nat) = F at e1 ⊢
  exact e1
theorem OK1.of {k n : Nat} (o : OK1 u k n) (h1 : v 42 = u 42) (h2 : v 43 = u 43) : OK1 v k n := by
  obtain ⟨o1, o2, o3⟩ := o
  exact ⟨o1, by rw [h2]; exact o2, fun i hi => by rw [h1]; exact o3 i hi⟩
theorem f_rp_pl {k p n X : Nat} (hk : k < 6) (hp : p < 4) (hX : X ≤ 800) : ∀ (d y m : Nat) (v : St), Inv N v → OK1 v 0 n → y + d = n → d < m → ∃ w, f_X7_rehearsePlaces_L11 N p m (nI y) k (nI k) (nI X) v = some ((), w) ∧ Inv N w ∧ OK1 w 0 n := by
  intro d
  induction d with
  | zero =>
    intro y m v hv o hy hm
    obtain ⟨m', rfl, -⟩ := fuel hm
    refine ⟨v, ?_, hv, o⟩
    show f_X7_rehearsePlaces_L11b N p (f_X7_rehearsePlaces_L11 N p m') (nI y) k (nI k) (nI X) v = _
    unfold f_X7_rehearsePlaces_L11b
    obtain rfl : y = n := by omega
    rw [o.2.1, if_pos (Int32.le_refl _)]
  | succ d ih =>
    intro y m v hv o hy hm
    obtain ⟨m', rfl, h'⟩ := fuel hm
    have h10 := o.1
    obtain ⟨q, hq, eq⟩ := o.2.2 y (by omega)
    obtain ⟨w0, i1, i2, i3⟩ := ih (y + 1) m' v hv o (by omega) (h' d rfl)
    show ∃ w, f_X7_rehearsePlaces_L11b N p (f_X7_rehearsePlaces_L11 N p m') (nI y) k (nI k) (nI X) v = _ ∧ _
    unfold f_X7_rehearsePlaces_L11b
    rw [o.2.1, if_neg (nI_ge (by omega) (by omega)), gt1 (inb_nI (by omega) (by decide)), nm_u, ix_nI (by omega), eq, gt1 (inb_nI (by omega) (by decide)), ix_nI (by omega), gt1 (by rw [hv.n14]; exact hq)]
    by_cases hs : v 20 q 0 = v 30 k 0
    · rw [if_pos hs, gt1 (inb_nI (by omega) (by decide))]
      split
      · rw [nm_u, nI_1]
        exact ⟨w0, i1, i2, i3⟩
      · have hI := learn_inv hv hk hq hX hs (b := v 41 0 k ||| (1 <<< (nI q &&& 31)))
        obtain ⟨v1, hv1⟩ : ∃ v1, v1 = sset (sset v 40 k q (mmin (most (v 22 q 0) (v 32 k 0)) (v 40 k q + nI X))) 41 0 k (v 41 0 k ||| (1 <<< (nI q &&& 31))) := ⟨_, rfl⟩
        rw [← hv1] at hI
        have o1 : OK1 v1 0 n := o.of (by rw [hv1, sset_fk (by decide), sset_fk (by decide)]) (by rw [hv1, sset_fk (by decide), sset_fk (by decide)])
        obtain ⟨v2, a1, a2, a3, a4⟩ := f_wear hI hp (x1 := v1 22 q 0) (x2 := v1 51 0 0)
        obtain ⟨w, b1, b2, b3⟩ := ih (y + 1) m' v2 a2 (o1.of a3 a4) (by omega) (h' d rfl)
        refine ⟨w, ?_, b2, b3⟩
        rw [f_most, sb_some, f_learn hv hk hq, sb_some, ← hv1, a1, sb_some, nm_u, nI_1]
        exact b1
    · rw [if_neg hs, nm_u, nI_1]
      exact ⟨w0, i1, i2, i3⟩
theorem f_rehP (h : Inv N u) {k p n X : Nat} (o : OK1 u 0 n) (hk : k < 6) (hp : p < 4) (hX : X ≤ 800) : ∃ w, f_X7_rehearsePlaces N u (nI k) p (nI X) = some ((), w) ∧ Inv N w ∧ OK1 w 0 n := by
  have h10 := o.1
  obtain ⟨w, e1, e2, e3⟩ := f_rp_pl hk hp hX n 0 1000000 u h o (by omega) (by omega)
  refine ⟨w, ?_, e2, e3⟩
  unfold f_X7_rehearsePlaces
  generalize hF : (1000000 : Nat) = F at e1 ⊢
  rw [gt1 (inb_nI (by omega) (by decide)), ix_nI (by omega), gt1 (by rw [h.n15]; exact hk)]
  exact e1
theorem f_reh_l {n A : Nat} (hA : A ≤ 120) : ∀ (d y m : Nat) (v : St), Inv N v → OK1 v 0 n → y + d = 6 → d < m → ∃ w, f_X7_rehearse_L60 N m (nI y) (nI A) v = some (.ok (nI (cnt (snd w) 6)), w) ∧ Inv N w := by
  intro d
  induction d with
  | zero =>
    intro y m v hv o hy hm
    obtain ⟨m', rfl, -⟩ := fuel hm
    refine ⟨v, ?_, hv⟩
    show f_X7_rehearse_L60b N (f_X7_rehearse_L60 N m') (nI y) (nI A) v = _
    unfold f_X7_rehearse_L60b
    obtain rfl : y = 6 := by omega
    rw [hv.c2, if_pos (by decide), sndCount hv.c2 hv.n15 hv.n12 hv.h33, sb_some]
  | succ d ih =>
    intro y m v hv o hy hm
    obtain ⟨m', rfl, h'⟩ := fuel hm
    show ∃ w, f_X7_rehearse_L60b N (f_X7_rehearse_L60 N m') (nI y) (nI A) v = _ ∧ _
    unfold f_X7_rehearse_L60b
    rw [hv.c2, if_neg (show ¬ (6 : Int32) ≤ nI y from nI_ge (b := 6) (by omega) (by decide)), gt1 (inb_nI (by omega) (by decide)), ix_nI (by omega), gt1 (by rw [hv.n15]; omega), f_snd hv.n12 (hv.h33 y (by omega)), sb_some]
    cases hs : snd v y with
    | true =>
      have h4 : y % 4 < 4 := Nat.mod_lt _ (by decide)
      obtain ⟨w1, a1, a2, a3⟩ := f_rehP hv (k := y) (p := y % 4) (X := A / 10) o (by omega) h4 (by omega)
      obtain ⟨w, b1, b2⟩ := ih (y + 1) m' w1 a2 a3 (by omega) (h' d rfl)
      refine ⟨w, ?_, b2⟩
      rw [if_pos rfl, oc_some, gt1 (Or.inl (by rw [hv.n12]; exact h4)), show nI A / 10 = nI (A / 10) from pk_div (d := 10) (by omega) (by decide) (by decide), a1, sb_some, nm_u, nI_1]
      exact b1
    | false =>
      obtain ⟨w, b1, b2⟩ := ih (y + 1) m' v hv o (by omega) (h' d rfl)
      refine ⟨w, ?_, b2⟩
      rw [if_neg Bool.false_ne_true, oc_none, nm_u, nI_1]
      exact b1
theorem reh_ok (h : Inv N u) {a : Nat} (ha : a < 51) (h60 : ¬ (60 : Int32) ≤ u 52 0 0) : ∃ w, f_X7_rehearse N u (nI (10 + a)) = some (.ok (nI (cnt (snd w) 6)), w) ∧ Inv N w := by
  obtain ⟨n, o⟩ := h.ord
  have hI : Inv N (sset u 52 0 0 (u 52 0 0 + nI (10 + a))) := h.s3 (nU (by omega))
  obtain ⟨w, e1, e2⟩ := f_reh_l (A := 10 + a) (by omega) 6 0 1000000 _ hI (o.of (sset_fk (by decide)) (sset_fk (by decide))) rfl (by omega)
  refine ⟨w, ?_, e2⟩
  have hle : u 52 0 0 + nI (10 + a) ≤ 120 := by
    rw [Int32.le_iff_toInt_le, show (60 : Int32).toInt = 60 from by decide] at h60
    have hlo := Int32.le_toInt (u 52 0 0)
    rw [Int32.le_iff_toInt_le, Int32.toInt_add, nI_toInt (by omega), show (120 : Int32).toInt = 120 from by decide]
    simp only [Int.bmod]
    split <;> omega
  unfold f_X7_rehearse
  generalize hF : (1000000 : Nat) = F at e1 ⊢
  rw [fwi, sb_some, show win (nI (10 + a)) 10 120 = 1 from win_n (a := 10) (b := 120) (by omega) (by omega) (by omega), if_neg (by decide), if_pos hle, nm_u]
  exact e1
/-! play -/
theorem f_rank_l {r : Int32} {t : Int32} (h64 : u 64 0 0 = 3) : ∀ (d y m c : Nat), y + d = 3 → d < m → c ≤ y → ∃ k, 1 ≤ k ∧ k ≤ 4 ∧ f_X1_rankOf_L5 N m (nI y) (nI c) r t u = some (nI k, u) := by
  intro d
  induction d with
  | zero =>
    intro y m c hy hm hc
    obtain ⟨m', rfl, -⟩ := fuel hm
    refine ⟨1 + c, by omega, by omega, ?_⟩
    show f_X1_rankOf_L5b N (f_X1_rankOf_L5 N m') (nI y) (nI c) r t u = _
    unfold f_X1_rankOf_L5b
    obtain rfl : y = 3 := by omega
    rw [h64, if_pos (by decide), show (1 : Int32) + nI c = nI (1 + c) from nI_add 1 c]
  | succ d ih =>
    intro y m c hy hm hc
    obtain ⟨m', rfl, h'⟩ := fuel hm
    show ∃ k, _ ∧ _ ∧ f_X1_rankOf_L5b N (f_X1_rankOf_L5 N m') (nI y) (nI c) r t u = _
    unfold f_X1_rankOf_L5b
    rw [h64, if_neg (show ¬ (3 : Int32) ≤ nI y from nI_ge (b := 3) (by omega) (by decide)), gt1 (inb_nI (by omega) (by decide)), ix_nI (by omega)]
    split
    · rw [nm_u, nI_1]; exact ih (y + 1) m' c (by omega) (h' d rfl) (by omega)
    · rw [nm_u, nm_u, nI_1, nI_1]; exact ih (y + 1) m' (c + 1) (by omega) (h' d rfl) (by omega)
theorem f_rank (h64 : u 64 0 0 = 3) {r t : Int32} : ∃ k, 1 ≤ k ∧ k ≤ 4 ∧ f_X1_rankOf N u r t = some (nI k, u) := by
  obtain ⟨k, h1, h2, h3⟩ := f_rank_l (N := N) (r := r) (t := t) h64 3 0 1000000 0 rfl (by omega) (Nat.le_refl _)
  refine ⟨k, h1, h2, ?_⟩
  unfold f_X1_rankOf
  generalize hF : (1000000 : Nat) = F at h3 ⊢
  exact h3
theorem f_enter (h64 : u 64 0 0 = 3) {r : Nat} {t : Int32} (hr : r < 3) (h65 : u 65 0 0 = nI r) : ∃ k x, 1 ≤ k ∧ k ≤ 4 ∧ (x = 0 ∨ x = 1) ∧ f_X1_enter N u t = some (nI k, sset (sset (sset (sset u 62 0 r t) 63 0 r (nI k)) 66 0 0 x) 65 0 0 (nI (r + 1))) := by
  obtain ⟨k, h1, h2, h3⟩ := f_rank (N := N) (r := u 65 0 0) (t := t) h64
  have hB : ∀ x : Int32, x = 0 ∨ x = 1 → f_X1_enter_B49 N (nI k) x (sset (sset u 62 0 r t) 63 0 r (nI k)) = some (nI k, sset (sset (sset (sset u 62 0 r t) 63 0 r (nI k)) 66 0 0 x) 65 0 0 (nI (r + 1))) := fun x hx => by
    unfold f_X1_enter_B49
    rw [gt1 hx, nm_u, nm_u, sset_ne (f := 66) (by decide), sset_ne (f := 63) (by decide), sset_ne (f := 62) (by decide), h65, nI_1]
  unfold f_X1_enter f_X1_enter_B48
  rw [nm_u, h3, sb_some, h65, gt1 (inb_nI (by omega) (by decide)), ix_nI (by omega), nm_u, nm_u]
  by_cases hc : (2 : Int32) ≤ nI r
  · rw [if_pos hc]
    exact ⟨k, 0, h1, h2, Or.inl rfl, hB 0 (Or.inl rfl)⟩
  · have hr2 : r < 2 := Nat.not_le.mp (fun q => hc (nI_le (a := 2) q (by omega)))
    rw [if_neg hc, gt1 (inb_nI hr2 (by decide))]
    split
    · exact ⟨k, 0, h1, h2, Or.inl rfl, hB 0 (Or.inl rfl)⟩
    · exact ⟨k, 1, h1, h2, Or.inr rfl, hB 1 (Or.inr rfl)⟩
def prz (r k : Nat) : Int32 := if r = 2 ∧ k < 4 then nI 400 - nI (100 * k) else 0
theorem f_prize {r k : Nat} (hr : r < 3) (h1 : 1 ≤ k) (h2 : k ≤ 4) : f_X1_prizeOf N u (nI r) (nI k) = some (prz r k, u) := by
  unfold f_X1_prizeOf prz
  by_cases hr2 : r = 2
  · subst hr2
    rw [if_pos (show nI 2 = (2 : Int32) from rfl), fwi, sb_some]
    rcases (show k = 1 ∨ k = 2 ∨ k = 3 ∨ k = 4 by omega) with rfl | rfl | rfl | rfl
    · rfl
    · rfl
    · rfl
    · rfl
  · rw [if_neg (show ¬ nI r = (2 : Int32) from fun e => hr2 ((nI_eq (b := 2) (by omega) (by decide)).mp e)), if_neg (fun e => hr2 e.1)]
theorem Inv.ctst (h : Inv N u) (hf : ∀ f, Used f → f ≠ 53 → f ≠ 65 → f ≠ 66 → v f = u f) (hg : IG (v 53) (v 65) (v 66)) : Inv N v := by
  refine ⟨h.n12, h.n14, h.n15, ?_, ?_, ?_, ?_, ?_, ?_, hg⟩
  · rw [hf 0 (by unfold Used; omega) (by decide) (by decide) (by decide), hf 1 (by unfold Used; omega) (by decide) (by decide) (by decide), hf 2 (by unfold Used; omega) (by decide) (by decide) (by decide), hf 4 (by unfold Used; omega) (by decide) (by decide) (by decide), hf 64 (by unfold Used; omega) (by decide) (by decide) (by decide)]; exact h.c
  · rw [hf 10 (by unfold Used; omega) (by decide) (by decide) (by decide), hf 11 (by unfold Used; omega) (by decide) (by decide) (by decide), hf 14 (by unfold Used; omega) (by decide) (by decide) (by decide)]; exact h.p
  · rw [hf 20 (by unfold Used; omega) (by decide) (by decide) (by decide), hf 21 (by unfold Used; omega) (by decide) (by decide) (by decide), hf 22 (by unfold Used; omega) (by decide) (by decide) (by decide)]; exact h.r
  · rw [hf 30 (by unfold Used; omega) (by decide) (by decide) (by decide), hf 31 (by unfold Used; omega) (by decide) (by decide) (by decide), hf 32 (by unfold Used; omega) (by decide) (by decide) (by decide), hf 33 (by unfold Used; omega) (by decide) (by decide) (by decide), hf 34 (by unfold Used; omega) (by decide) (by decide) (by decide)]; exact h.y
  · rw [hf 40 (by unfold Used; omega) (by decide) (by decide) (by decide), hf 20 (by unfold Used; omega) (by decide) (by decide) (by decide), hf 30 (by unfold Used; omega) (by decide) (by decide) (by decide), hf 22 (by unfold Used; omega) (by decide) (by decide) (by decide), hf 32 (by unfold Used; omega) (by decide) (by decide) (by decide)]; exact h.m
  · rw [hf 42 (by unfold Used; omega) (by decide) (by decide) (by decide), hf 43 (by unfold Used; omega) (by decide) (by decide) (by decide)]; exact h.o
theorem ofRnd0 {r m : Nat} (hr : r < 3) (h65 : u 65 0 0 = nI m) (hm : r < m) (hm3 : m ≤ 3) : f_X7_ofRound N u (nI r) 0 = some (.ok (u 62 0 r), u) := by
  unfold f_X7_ofRound
  rw [fwi, sb_some, show win (nI r) 0 2 = 1 from win_z (b := 2) (by omega) (by omega), if_neg (by decide), fwi, sb_some, show win 0 0 1 = 1 from by decide, if_neg (by decide), h65, if_pos (nI_lt hm (by omega)), if_pos rfl, gt1 (inb_nI (by omega) (by decide)), ix_nI (by omega)]
theorem ofRnd1 {r m : Nat} (hr : r < 3) (h65 : u 65 0 0 = nI m) (hm : r < m) (hm3 : m ≤ 3) : f_X7_ofRound N u (nI r) 1 = some (.ok (u 63 0 r), u) := by
  unfold f_X7_ofRound
  rw [fwi, sb_some, show win (nI r) 0 2 = 1 from win_z (b := 2) (by omega) (by omega), if_neg (by decide), fwi, sb_some, show win 1 0 1 = 1 from by decide, if_neg (by decide), h65, if_pos (nI_lt hm (by omega)), if_neg (by decide), gt1 (inb_nI (by omega) (by decide)), ix_nI (by omega)]
theorem isPlayed_ok (h : Inv N u) (hov : ovr u = false) (hs : cnt (snd u) 6 ≠ 0) (hc : ¬ u 43 0 0 = 0) : ∃ w, f_L_isPlayed N u = some (.ok 1, w) ∧ Inv N w := by
  obtain ⟨n, o⟩ := h.ord
  obtain ⟨r, hr3, h65, h66, h53⟩ := h.g
  have hr : r < 3 := by
    unfold ovr at hov
    rw [Bool.not_eq_false', Bool.and_eq_true] at hov
    have h1 := of_decide_eq_true hov.2
    rw [h65] at h1
    exact (nI_ltI (b := 3) (by omega) (by decide)).mp h1
  obtain ⟨T, hT⟩ : ∃ T, T = totV u (mms u 0) n := ⟨_, rfl⟩
  obtain ⟨v, hv⟩ : ∃ v, v = setL u (lev u (mms u 0)) 6 := ⟨_, rfl⟩
  have xv : E u v := by rw [hv]; exact setL_E
  have hIv := h.E xv
  have v65 : v 65 0 0 = nI r := (xv.at (by unfold mk; omega)).trans h65
  have m11 := many11 h o
  rw [← hT, ← hv] at m11
  unfold f_L_isPlayed
  rw [many8, xb_ok, h65, m11, xb_ok, many7, xb_ok]
  have ov2 : ovr v = false := by
    unfold ovr at hov ⊢
    rw [xv.at (f := 66) (by unfold mk; omega), xv.at (f := 65) (by unfold mk; omega)]
    exact hov
  by_cases h0 : v 53 0 0 = 0
  · obtain ⟨v2, a1, a2⟩ : ∃ v2, f_X7_totalNow N v = some (T, v2) ∧ E u v2 := by
      refine ⟨setL v (lev v (mms v 0)) 6, ?_, xv.trans setL_E⟩
      rw [f_tot hIv (o.E0 xv), totV_E2 xv, ← hT]
    have hIv2 := h.E a2
    obtain ⟨S, hS⟩ : ∃ S, S = score u T := ⟨_, rfl⟩
    obtain ⟨k, x, k1, k2, hx, k3⟩ := f_enter (N := N) (u := v2) (t := S) (r := r) hIv2.c.2.2.2.2 hr ((a2.at (by unfold mk; omega)).trans h65)
    obtain ⟨v3, hv3⟩ : ∃ v3, v3 = sset (sset (sset (sset v2 62 0 r S) 63 0 r (nI k)) 66 0 0 x) 65 0 0 (nI (r + 1)) := ⟨_, rfl⟩
    rw [← hv3] at k3
    have v33 : v3 3 0 0 = u 3 0 0 := by
      rw [hv3, sset_ne (by decide), sset_ne (by decide), sset_ne (by decide), sset_ne (by decide)]
      exact a2.at (by unfold mk; omega)
    obtain ⟨w, hw⟩ : ∃ w, w = sset (sset v3 3 0 0 (u 3 0 0 + (50 + prz r k))) 53 0 0 1 := ⟨_, rfl⟩
    have et : f_X7_play N v = some (.ok (nI k), w) := by
      unfold f_X7_play
      rw [f_over, sb_some, ov2, ib0, if_neg Bool.false_ne_true, if_pos h0, sndCount hIv.c2 hIv.n15 hIv.n12 hIv.h33, sb_some, cnt_E xv, if_neg (show ¬ nI (cnt (snd u) 6) = (0 : Int32) from fun e => hs ((nI_eq (b := 0) (by have := cnt_le (snd u) 6; omega) (by decide)).mp e)), xv.at (f := 43) (by unfold mk; omega), if_neg hc, nm_u, v65, a1, sb_some, f_score, sb_some, score_E a2, ← hS, k3, sb_some, f_prize hr k1 k2, sb_some, nm_u, nm_u, v33, ← hw]
    have w65 : w 65 0 0 = nI (r + 1) := by rw [hw, sset_ne (by decide), sset_ne (by decide), hv3, sset_self]
    have w62 : w 62 0 r = S := by rw [hw, sset_ne (by decide), sset_ne (by decide), hv3, sset_ne (by decide), sset_ne (by decide), sset_ne (by decide), sset_self]
    have w63 : w 63 0 r = nI k := by rw [hw, sset_ne (by decide), sset_ne (by decide), hv3, sset_ne (by decide), sset_ne (by decide), sset_self]
    have w3 : w 3 0 0 = u 3 0 0 + (50 + prz r k) := by rw [hw, sset_ne (by decide), sset_self]
    have w66 : w 66 0 0 = x := by rw [hw, sset_ne (by decide), sset_ne (by decide), hv3, sset_ne (by decide), sset_self]
    have hIw : Inv N w := by
      refine hIv2.ctst (fun f hf h1 h2 h3 => ?_) ⟨r + 1, by omega, w65, by rw [w66]; exact hx, fun _ => by omega⟩
      have q3 : f ≠ 3 := fun e => by unfold Used at hf; omega
      have q62 : f ≠ 62 := fun e => by unfold Used at hf; omega
      have q63 : f ≠ 63 := fun e => by unfold Used at hf; omega
      rw [hw, sset_fk h1, sset_fk q3, hv3, sset_fk h2, sset_fk h3, sset_fk q63, sset_fk q62]
    rw [et, xc_ok]
    refine ⟨w, ?_, hIw⟩
    have hend : ∀ a b : Int32, a + b = 50 + prz r k → f_L_isPlayed_B53 N (nI k) (v 3 0 0) (score u T) (nI r) b a w = some (.ok 1, w) := fun a b hab => by
      unfold f_L_isPlayed_B53
      rw [nm_u, hab, if_neg (show ¬ nI k < (1 : Int32) from nI_nlt (b := 1) k1 (by omega)), if_neg (show ¬ (4 : Int32) < nI k from nI_nlt (a := 4) k2 (by omega)), ofRnd0 hr w65 (by omega) (by omega), xb_ok, w62, ← hS, if_pos rfl, ofRnd1 hr w65 (by omega) (by omega), xb_ok, w63, if_pos rfl, many8, xb_ok, w65, nI_1, if_pos rfl, many7, xb_ok, w3, xv.at (f := 3) (by unfold mk; omega), if_pos rfl]
      by_cases hr2 : r < 2
      · rw [if_pos (show nI r < (2 : Int32) from nI_lt (b := 2) hr2 (by decide))]
      · rw [if_neg (show ¬ nI r < (2 : Int32) from nI_nlt (b := 2) (by omega) (by omega)), many9, xb_ok]
        have : ovr w = true := by
          unfold ovr
          rw [w65, decide_eq_false (show ¬ nI (r + 1) < (3 : Int32) from nI_nlt (b := 3) (by omega) (by omega)), Bool.and_false]
          rfl
        rw [this]
        rfl
    unfold f_L_isPlayed_B52
    by_cases hr2 : r = 2
    · subst hr2
      rw [if_pos (show nI 2 = (2 : Int32) from rfl)]
      by_cases hk4 : k = 4
      · subst hk4
        rw [if_pos (show (4 : Int32) ≤ nI 4 by decide)]
        exact hend 50 0 rfl
      · rw [if_neg (show ¬ (4 : Int32) ≤ nI k from nI_ge (b := 4) (by omega) (by decide))]
        refine hend 50 _ ?_
        unfold prz
        rw [if_pos ⟨rfl, by omega⟩, show (100 : Int32) * nI k = nI (100 * k) from pk_mul 100 k]
        rfl
    · rw [if_neg (show ¬ nI r = (2 : Int32) from fun e => hr2 ((nI_eq (b := 2) (by omega) (by decide)).mp e))]
      refine hend 50 0 ?_
      unfold prz
      rw [if_neg (fun e => hr2 e.1)]
  · have h53' : ¬ u 53 0 0 = 0 := fun e => h0 ((xv.at (by unfold mk; omega)).trans e)
    have hr1 := h53 h53'
    have et : f_X7_play N v = some (.error "java/lang/IllegalStateException", v) := by
      unfold f_X7_play
      rw [f_over, sb_some, ov2, ib0, if_neg Bool.false_ne_true, if_neg h0]
    rw [et, xc_er]
    refine ⟨v, ?_, hIv⟩
    rw [if_neg (show ¬ nI r ≤ 0 from nI_nle (by omega) (by omega)), many8, xb_ok, v65, if_pos rfl, many7, xb_ok, if_pos rfl]
end RH
