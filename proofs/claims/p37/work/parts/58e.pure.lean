/-! 58e: the checksum's loops -/
section DG
variable {N : Nt} {u : St}
theorem dg_phr_i (h : Inv N u) {ih5 : Int32 → Int64 → St → Option (Except String Int64 × St)} {j : Nat} (hj : j < 6) (hk : ∀ r, AL u (ih5 (nI (j + 1)) r)) : ∀ (d y m : Nat) (r : Int64), y + d = 5 → d < m → AL u (f_X7_digestPhrases_L17 N ih5 m (nI y) (nI j) r) := by
  intro d
  induction d with
  | zero =>
    intro y m r hy hm
    obtain ⟨m', rfl, -⟩ := fuel hm
    refine AL.c (fun v e => ?_) (hk r)
    show f_X7_digestPhrases_L17b N ih5 (f_X7_digestPhrases_L17 N ih5 m') _ _ _ v = _
    unfold f_X7_digestPhrases_L17b
    obtain rfl : y = 5 := by omega
    rw [if_pos (by decide), nm_u, nI_1]
  | succ d ih =>
    intro y m r hy hm
    obtain ⟨m', rfl, h'⟩ := fuel hm
    refine AL.c (fun v e => ?_) (AL.b (al_ofPhr h hj y (by omega)) (fun r4 => ih (y + 1) m' (r * 31 + r4.toInt64) (by omega) (h' d rfl)))
    show f_X7_digestPhrases_L17b N ih5 (f_X7_digestPhrases_L17 N ih5 m') _ _ _ v = _
    unfold f_X7_digestPhrases_L17b
    rw [if_neg (show ¬ (4 : Int32) < nI y from nI_nlt (a := 4) (by omega) (by decide)), nI_1]
    rfl
theorem dg_phr (h : Inv N u) : ∀ (d y m : Nat) (r : Int64), y + d = 6 → d < m → AL u (f_X7_digestPhrases_L5 N m (nI y) r) := by
  intro d
  induction d with
  | zero =>
    intro y m r hy hm
    obtain ⟨m', rfl, -⟩ := fuel hm
    refine AL.c (fun v e => ?_) (AL.ret r)
    show f_X7_digestPhrases_L5b N (f_X7_digestPhrases_L5 N m') _ _ v = _
    unfold f_X7_digestPhrases_L5b
    obtain rfl : y = 6 := by omega
    rw [(h.E e).c1, if_pos (by decide)]
  | succ d ih =>
    intro y m r hy hm
    obtain ⟨m', rfl, h'⟩ := fuel hm
    have hi := dg_phr_i h (j := y) (by omega) (fun r => ih (y + 1) m' r (by omega) (h' d rfl)) 5 0 1000000 r rfl (by omega)
    refine AL.c (fun v e => ?_) hi
    show f_X7_digestPhrases_L5b N (f_X7_digestPhrases_L5 N m') _ _ v = _
    unfold f_X7_digestPhrases_L5b
    generalize hF : (1000000 : Nat) = F
    rw [(h.E e).c1, if_neg (show ¬ (6 : Int32) ≤ nI y from nI_ge (b := 6) (by omega) (by decide))]
    rfl
theorem al_phrases (h : Inv N u) (r : Int64) : AL u (fun v => f_X7_digestPhrases N v r) := by
  have h1 := dg_phr h 6 0 1000000 r rfl (by omega)
  refine AL.c (fun v e => ?_) h1
  unfold f_X7_digestPhrases
  generalize hF : (1000000 : Nat) = F
  rfl
theorem dg_pan_2 (h : Inv N u) {ih5 : Int32 → Int64 → St → Option (Except String Int64 × St)} {p : Nat} (hp : p < 4) (hk : ∀ r, AL u (ih5 (nI (p + 1)) r)) : ∀ (d y m : Nat) (r : Int64), y + d = 8 → d < m → AL u (f_X7_digestPans_L48 N ih5 m (nI y) (nI p) r) := by
  intro d
  induction d with
  | zero =>
    intro y m r hy hm
    obtain ⟨m', rfl, -⟩ := fuel hm
    refine AL.c (fun v e => ?_) (AL.b (al_bl h hp) (fun r4 => hk (r * 31 + r4.toInt64)))
    show f_X7_digestPans_L48b N ih5 (f_X7_digestPans_L48 N ih5 m') _ _ _ v = _
    unfold f_X7_digestPans_L48b
    obtain rfl : y = 8 := by omega
    rw [if_pos (by decide), nI_1]
    rfl
  | succ d ih =>
    intro y m r hy hm
    obtain ⟨m', rfl, h'⟩ := fuel hm
    refine AL.c (fun v e => ?_) (AL.b (al_off h hp y (by omega)) (fun r4 => ih (y + 1) m' (r * 31 + r4.toInt64) (by omega) (h' d rfl)))
    show f_X7_digestPans_L48b N ih5 (f_X7_digestPans_L48 N ih5 m') _ _ _ v = _
    unfold f_X7_digestPans_L48b
    rw [if_neg (lge8 (y := y) (by omega)), nI_1]
    rfl
theorem dg_pan_1 (h : Inv N u) {ih5 : Int32 → Int64 → St → Option (Except String Int64 × St)} {p : Nat} (hp : p < 4) (hk : ∀ r, AL u (ih5 (nI (p + 1)) r)) : ∀ (d y m : Nat) (r : Int64), y + d = 5 → d < m → AL u (f_X7_digestPans_L17 N ih5 m (nI y) (nI p) r) := by
  intro d
  induction d with
  | zero =>
    intro y m r hy hm
    obtain ⟨m', rfl, -⟩ := fuel hm
    have hi := dg_pan_2 h hp hk 8 0 1000000 r rfl (by omega)
    refine AL.c (fun v e => ?_) hi
    show f_X7_digestPans_L17b N ih5 (f_X7_digestPans_L17 N ih5 m') _ _ _ v = _
    unfold f_X7_digestPans_L17b
    generalize hF : (1000000 : Nat) = F
    obtain rfl : y = 5 := by omega
    rw [if_pos (by decide)]
    rfl
  | succ d ih =>
    intro y m r hy hm
    obtain ⟨m', rfl, h'⟩ := fuel hm
    refine AL.c (fun v e => ?_) (AL.b (al_ofPan h hp y (by omega)) (fun r4 => ih (y + 1) m' (r * 31 + r4.toInt64) (by omega) (h' d rfl)))
    show f_X7_digestPans_L17b N ih5 (f_X7_digestPans_L17 N ih5 m') _ _ _ v = _
    unfold f_X7_digestPans_L17b
    generalize hF : (1000000 : Nat) = F
    rw [if_neg (show ¬ (4 : Int32) < nI y from nI_nlt (a := 4) (by omega) (by decide)), nI_1]
    rfl
theorem dg_pan (h : Inv N u) : ∀ (d y m : Nat) (r : Int64), y + d = 4 → d < m → AL u (f_X7_digestPans_L5 N m (nI y) r) := by
  intro d
  induction d with
  | zero =>
    intro y m r hy hm
    obtain ⟨m', rfl, -⟩ := fuel hm
    refine AL.c (fun v e => ?_) (AL.ret r)
    show f_X7_digestPans_L5b N (f_X7_digestPans_L5 N m') _ _ v = _
    unfold f_X7_digestPans_L5b
    obtain rfl : y = 4 := by omega
    rw [(h.E e).c0, if_pos (by decide)]
  | succ d ih =>
    intro y m r hy hm
    obtain ⟨m', rfl, h'⟩ := fuel hm
    have hi := dg_pan_1 h (p := y) (by omega) (fun r => ih (y + 1) m' r (by omega) (h' d rfl)) 5 0 1000000 r rfl (by omega)
    refine AL.c (fun v e => ?_) hi
    show f_X7_digestPans_L5b N (f_X7_digestPans_L5 N m') _ _ v = _
    unfold f_X7_digestPans_L5b
    generalize hF : (1000000 : Nat) = F
    rw [(h.E e).c0, if_neg (show ¬ (4 : Int32) ≤ nI y from nI_ge (b := 4) (by omega) (by decide))]
    rfl
theorem al_pans (h : Inv N u) (r : Int64) : AL u (fun v => f_X7_digestPans N v r) := by
  have h1 := dg_pan h 4 0 1000000 r rfl (by omega)
  refine AL.c (fun v e => ?_) h1
  unfold f_X7_digestPans
  generalize hF : (1000000 : Nat) = F
  rfl
theorem dg_ply_2 (h : Inv N u) {ih5 : Int32 → Int64 → St → Option (Except String Int64 × St)} {k : Nat} (hk6 : k < 6) (hk : ∀ r, AL u (ih5 (nI (k + 1)) r)) : ∀ (d y m : Nat) (r : Int64), y + d = 6 → d < m → AL u (f_X7_digestPlayers_L49 N ih5 m (nI y) (nI k) r) := by
  intro d
  induction d with
  | zero =>
    intro y m r hy hm
    obtain ⟨m', rfl, -⟩ := fuel hm
    refine AL.c (fun v e => ?_) (AL.b (al_bt h hk6) (fun r4 => hk (r * 31 + r4.toInt64)))
    show f_X7_digestPlayers_L49b N ih5 (f_X7_digestPlayers_L49 N ih5 m') _ _ _ v = _
    unfold f_X7_digestPlayers_L49b
    obtain rfl : y = 6 := by omega
    rw [(h.E e).c1, if_pos (by decide), nI_1]
    rfl
  | succ d ih =>
    intro y m r hy hm
    obtain ⟨m', rfl, h'⟩ := fuel hm
    refine AL.c (fun v e => ?_) (AL.b (al_mem h hk6 y (by omega)) (fun r4 => ih (y + 1) m' (r * 31 + r4.toInt64) (by omega) (h' d rfl)))
    show f_X7_digestPlayers_L49b N ih5 (f_X7_digestPlayers_L49 N ih5 m') _ _ _ v = _
    unfold f_X7_digestPlayers_L49b
    rw [(h.E e).c1, if_neg (show ¬ (6 : Int32) ≤ nI y from nI_ge (b := 6) (by omega) (by decide)), nI_1]
    rfl
theorem dg_ply_1 (h : Inv N u) {ih5 : Int32 → Int64 → St → Option (Except String Int64 × St)} {k : Nat} (hk6 : k < 6) (hk : ∀ r, AL u (ih5 (nI (k + 1)) r)) : ∀ (d y m : Nat) (r : Int64), y + d = 7 → d < m → AL u (f_X7_digestPlayers_L17 N ih5 m (nI y) (nI k) r) := by
  intro d
  induction d with
  | zero =>
    intro y m r hy hm
    obtain ⟨m', rfl, -⟩ := fuel hm
    have hi := dg_ply_2 h hk6 hk 6 0 1000000 r rfl (by omega)
    refine AL.c (fun v e => ?_) hi
    show f_X7_digestPlayers_L17b N ih5 (f_X7_digestPlayers_L17 N ih5 m') _ _ _ v = _
    unfold f_X7_digestPlayers_L17b
    generalize hF : (1000000 : Nat) = F
    obtain rfl : y = 7 := by omega
    rw [if_pos (by decide)]
    rfl
  | succ d ih =>
    intro y m r hy hm
    obtain ⟨m', rfl, h'⟩ := fuel hm
    refine AL.c (fun v e => ?_) (AL.b (al_ofPly h hk6 y (by omega)) (fun r4 => ih (y + 1) m' (r * 31 + r4.toInt64) (by omega) (h' d rfl)))
    show f_X7_digestPlayers_L17b N ih5 (f_X7_digestPlayers_L17 N ih5 m') _ _ _ v = _
    unfold f_X7_digestPlayers_L17b
    generalize hF : (1000000 : Nat) = F
    rw [if_neg (show ¬ (6 : Int32) < nI y from nI_nlt (a := 6) (by omega) (by decide)), nI_1]
    rfl
theorem dg_ply (h : Inv N u) : ∀ (d y m : Nat) (r : Int64), y + d = 6 → d < m → AL u (f_X7_digestPlayers_L5 N m (nI y) r) := by
  intro d
  induction d with
  | zero =>
    intro y m r hy hm
    obtain ⟨m', rfl, -⟩ := fuel hm
    refine AL.c (fun v e => ?_) (AL.ret r)
    show f_X7_digestPlayers_L5b N (f_X7_digestPlayers_L5 N m') _ _ v = _
    unfold f_X7_digestPlayers_L5b
    obtain rfl : y = 6 := by omega
    rw [(h.E e).c2, if_pos (by decide)]
  | succ d ih =>
    intro y m r hy hm
    obtain ⟨m', rfl, h'⟩ := fuel hm
    have hi := dg_ply_1 h (k := y) (by omega) (fun r => ih (y + 1) m' r (by omega) (h' d rfl)) 7 0 1000000 r rfl (by omega)
    refine AL.c (fun v e => ?_) hi
    show f_X7_digestPlayers_L5b N (f_X7_digestPlayers_L5 N m') _ _ v = _
    unfold f_X7_digestPlayers_L5b
    generalize hF : (1000000 : Nat) = F
    rw [(h.E e).c2, if_neg (show ¬ (6 : Int32) ≤ nI y from nI_ge (b := 6) (by omega) (by decide))]
    rfl
theorem al_players (h : Inv N u) (r : Int64) : AL u (fun v => f_X7_digestPlayers N v r) := by
  have h1 := dg_ply h 6 0 1000000 r rfl (by omega)
  refine AL.c (fun v e => ?_) h1
  unfold f_X7_digestPlayers
  generalize hF : (1000000 : Nat) = F
  rfl
theorem dg_mk (h : Inv N u) : ∀ (d y m : Nat) (r : Int64), y + d = 4 → d < m → AL u (f_X7_digestPlacesAndMarks_L56 N m (nI y) r) := by
  intro d
  induction d with
  | zero =>
    intro y m r hy hm
    obtain ⟨m', rfl, -⟩ := fuel hm
    refine AL.c (fun v e => ?_) (AL.ret r)
    show f_X7_digestPlacesAndMarks_L56b N (f_X7_digestPlacesAndMarks_L56 N m') _ _ v = _
    unfold f_X7_digestPlacesAndMarks_L56b
    obtain rfl : y = 4 := by omega
    rw [if_pos (by decide)]
  | succ d ih =>
    intro y m r hy hm
    obtain ⟨m', rfl, h'⟩ := fuel hm
    refine AL.c (fun v e => ?_) (AL.b (al_mark h y (by omega)) (fun r4 => ih (y + 1) m' (r * 31 + r4.toInt64) (by omega) (h' d rfl)))
    show f_X7_digestPlacesAndMarks_L56b N (f_X7_digestPlacesAndMarks_L56 N m') _ _ v = _
    unfold f_X7_digestPlacesAndMarks_L56b
    rw [if_neg (show ¬ (4 : Int32) ≤ nI y from nI_ge (b := 4) (by omega) (by decide)), nI_1]
    rfl
theorem dg_plc (h : Inv N u) {n : Nat} (o : OK1 u 0 n) : ∀ (d y m : Nat) (r : Int64), y + d = n → d < m → AL u (f_X7_digestPlacesAndMarks_L5 N m (nI y) r) := by
  have h10 := o.1
  intro d
  induction d with
  | zero =>
    intro y m r hy hm
    obtain ⟨m', rfl, -⟩ := fuel hm
    have hi := dg_mk h 4 0 1000000 r rfl (by omega)
    refine AL.c (fun v e => ?_) hi
    show f_X7_digestPlacesAndMarks_L5b N (f_X7_digestPlacesAndMarks_L5 N m') _ _ v = _
    unfold f_X7_digestPlacesAndMarks_L5b
    generalize hF : (1000000 : Nat) = F
    obtain rfl : y = n := by omega
    rw [(o.E0 e).2.1, if_pos (Int32.le_refl _)]
    rfl
  | succ d ih =>
    intro y m r hy hm
    obtain ⟨m', rfl, h'⟩ := fuel hm
    obtain ⟨a0, a1⟩ := al_plc h o (i := y) (by omega)
    refine AL.c (fun v e => ?_) (AL.b a0 (fun r8 => AL.b a1 (fun r12 => ih (y + 1) m' ((r * 31 + r8.toInt64) * 31 + r12.toInt64) (by omega) (h' d rfl))))
    show f_X7_digestPlacesAndMarks_L5b N (f_X7_digestPlacesAndMarks_L5 N m') _ _ v = _
    unfold f_X7_digestPlacesAndMarks_L5b
    generalize hF : (1000000 : Nat) = F
    rw [(o.E0 e).2.1, if_neg (nI_ge (by omega) (by omega)), nI_1]
    rfl
theorem al_places (h : Inv N u) (r : Int64) : AL u (fun v => f_X7_digestPlacesAndMarks N v r) := by
  obtain ⟨n, o⟩ := h.ord
  have h10 := o.1
  have h1 := dg_plc h o n 0 1000000 r (by omega) (by omega)
  refine AL.c (fun v e => ?_) h1
  unfold f_X7_digestPlacesAndMarks
  generalize hF : (1000000 : Nat) = F
  rfl
theorem dg_rnd (h : Inv N u) : ∀ (d y m : Nat) (r : Int64), y + d = 3 → d < m → AL u (f_X7_digest_L57 N m (nI y) r) := by
  obtain ⟨n, o⟩ := h.ord
  have h10 := o.1
  intro d
  induction d with
  | zero =>
    intro y m r hy hm
    obtain ⟨m', rfl, -⟩ := fuel hm
    by_cases h5 : n ≤ 5
    · refine AL.c (fun v e => ?_) (AL.b (al_would h (X := 5) (by decide)) (fun r15 => AL.b (al_bo h o h5) (fun r20 => AL.ret ((r * 31 + r15.toInt64) * 31 + r20.toInt64))))
      show f_X7_digest_L57b N (f_X7_digest_L57 N m') _ _ v = _
      unfold f_X7_digest_L57b
      obtain rfl : y = 3 := by omega
      obtain ⟨w, e1, e2⟩ := f_would (h.E e) (o.E0 e) (X := 5) (by decide)
      have e3 : f_X7_wouldTotal N v 5 = _ := e1
      rw [if_pos (by decide), e3, e1, xb_ok, xb_ok, nm_u, ((o.E0 e).E0 e2).2.1, if_neg (show ¬ (5 : Int32) < nI n from nI_nlt (a := 5) h5 (by decide))]
      rfl
    · refine AL.c (fun v e => ?_) (AL.b (al_would h (X := 5) (by decide)) (fun r15 => AL.ret (r * 31 + r15.toInt64)))
      show f_X7_digest_L57b N (f_X7_digest_L57 N m') _ _ v = _
      unfold f_X7_digest_L57b
      obtain rfl : y = 3 := by omega
      obtain ⟨w, e1, e2⟩ := f_would (h.E e) (o.E0 e) (X := 5) (by decide)
      have e3 : f_X7_wouldTotal N v 5 = _ := e1
      rw [if_pos (by decide), e3, e1, xb_ok, xb_ok, nm_u, ((o.E0 e).E0 e2).2.1, if_pos (show (5 : Int32) < nI n from nI_lt (a := 5) (by omega) (by omega))]
  | succ d ih =>
    intro y m r hy hm
    obtain ⟨m', rfl, h'⟩ := fuel hm
    obtain ⟨a0, a1⟩ := al_rnd h (i := y) (by omega)
    refine AL.c (fun v e => ?_) (AL.b a0 (fun r8 => AL.b a1 (fun r12 => ih (y + 1) m' ((r * 31 + r8.toInt64) * 31 + r12.toInt64) (by omega) (h' d rfl))))
    show f_X7_digest_L57b N (f_X7_digest_L57 N m') _ _ v = _
    unfold f_X7_digest_L57b
    rw [if_neg (show ¬ (3 : Int32) ≤ nI y from nI_ge (b := 3) (by omega) (by decide)), nI_1]
    rfl
theorem dg_all (h : Inv N u) : ∀ (d y m : Nat) (r : Int64), y + d = 14 → d < m → AL u (f_X7_digest_L6 N m (nI y) r) := by
  intro d
  induction d with
  | zero =>
    intro y m r hy hm
    obtain ⟨m', rfl, -⟩ := fuel hm
    refine AL.c (fun v e => ?_) (AL.b (al_pans h r) (fun r2 => AL.b (al_phrases h r2) (fun r5 => AL.b (al_players h r5) (fun r8 => AL.b (al_places h r8) (fun r11 => dg_rnd h 3 0 1000000 r11 rfl (by omega))))))
    show f_X7_digest_L6b N (f_X7_digest_L6 N m') _ _ v = _
    unfold f_X7_digest_L6b
    generalize hF : (1000000 : Nat) = F
    obtain rfl : y = 14 := by omega
    rw [if_pos (by decide)]
    rfl
  | succ d ih =>
    intro y m r hy hm
    obtain ⟨m', rfl, h'⟩ := fuel hm
    refine AL.c (fun v e => ?_) (AL.b (al_many h y (by omega)) (fun r4 => ih (y + 1) m' (r * 31 + r4.toInt64) (by omega) (h' d rfl)))
    show f_X7_digest_L6b N (f_X7_digest_L6 N m') _ _ v = _
    unfold f_X7_digest_L6b
    generalize hF : (1000000 : Nat) = F
    rw [if_neg (show ¬ (13 : Int32) < nI y from nI_nlt (a := 13) (by omega) (by decide)), nI_1]
    rfl
theorem al_digest (h : Inv N u) : AL u (fun v => f_X7_digest N v) := by
  have h1 := dg_all h 14 0 1000000 58218 rfl (by omega)
  refine AL.c (fun v e => ?_) h1
  unfold f_X7_digest
  generalize hF : (1000000 : Nat) = F
  rfl
end DG
