/-! 47: the yard is made -/
def YS (i j k r : Nat) (N : Nt) (u : St) : Prop := N 12 = i ∧ N 14 = j ∧ N 15 = k ∧ u 0 0 0 = nI i ∧ u 1 0 0 = nI j ∧ u 2 0 0 = nI k ∧ u 4 0 0 = 0 ∧ u 64 0 0 = nI r ∧ (∀ p, p < i → u 10 p 0 = nI p ∧ bt (u 11 p 0) 0 3 ∧ okO (u 14 p)) ∧ (∀ q, q < j → bt (u 20 q 0) 0 3 ∧ bt (u 21 q 0) 1 9 ∧ bt (u 22 q 0) 1 255) ∧ (∀ q, q < k → bt (u 30 q 0) 0 3 ∧ bt (u 31 q 0) 1 9 ∧ bt (u 32 q 0) 1 8 ∧ u 33 q 0 = nI (q % 4) ∧ (u 34 q 0 = 0 ∨ u 34 q 0 = 1)) ∧ (∀ a b, u 40 a b = 0) ∧ u 43 0 0 = 0 ∧ u 65 0 0 = 0 ∧ u 66 0 0 = 0 ∧ u 53 0 0 = 0
theorem ys_0 : YS 0 0 0 0 (fun _ => 0) u00 := ⟨rfl, rfl, rfl, by decide +kernel, by decide +kernel, by decide +kernel, by decide +kernel, by decide +kernel, fun p hp => absurd hp (Nat.not_lt_zero _), fun p hp => absurd hp (Nat.not_lt_zero _), fun p hp => absurd hp (Nat.not_lt_zero _), fun a b => by simp [u00], by decide +kernel, by decide +kernel, by decide +kernel, by decide +kernel⟩
theorem panOff_ok {i p : Nat} (hi : i < 100) (hp : p < 100) : okO (fun j => panOff (nI i) (nI p) (nI j)) := fun j hj => by
  have e : panOff (nI i) (nI p) (nI j) = nI ((7 * i + 5 * j + 3 * p) % 31) - nI 15 := by
    unfold panOff
    rw [show (7 : Int32) * nI i = nI (7 * i) from pk_mul 7 i, show (5 : Int32) * nI j = nI (5 * j) from pk_mul 5 j, show (3 : Int32) * nI p = nI (3 * p) from pk_mul 3 p, nI_add, nI_add]
    have h := pk_rem (a := 7 * i + 5 * j + 3 * p) (d := 31) (by omega) (by decide) (by decide)
    have h2 : nI (7 * i + 5 * j + 3 * p) - nI (7 * i + 5 * j + 3 * p) / 31 * 31 = nI ((7 * i + 5 * j + 3 * p) % 31) := h
    rw [h2]
    rfl
  have hm : (7 * i + 5 * j + 3 * p) % 31 < 31 := Nat.mod_lt _ (by decide)
  simp only
  rw [e, pk_sub_toInt (by omega) (by omega)]
  omega
section MADE
variable {N : Nt} {u : St} {i : Nat} {cl : Int32 → Int32}
theorem ys_pan (h : YS i 0 0 0 N u) (hi : i < 4) : ∃ u9, f_L_span N u cl (nI i) = some (.ok 1, u9) ∧ YS (i + 1) 0 0 0 (Nup N 12) u9 := by
  obtain ⟨h1, h2, h3, h4, h5, h6, h7, h8, h9, h10, h11, h12, h13, h14, h15, h16⟩ := h
  obtain ⟨p, hp, hb⟩ := below_ok (cl (nI i)) (n := 4) (k := 4) rfl (by decide) (by decide)
  refine ⟨sset (mkPan u i (nI i) (nI p)) 3 0 0 ((mkPan u i (nI i) (nI p)) 3 0 0 - 40), ?_, ?_⟩
  · unfold f_L_span
    rw [gt1 (nI_pos (by omega)), nm_u, hb, sb_some]
    unfold f_X7_pan
    rw [rqSec (bt_nI (by omega) (by omega) (by omega)), xb_ok, h4, if_pos (show nI i < (6 : Int32) from nI_lt (b := 6) (by omega) (by decide)), nm_u, gt1 ⟨inb_nI (by omega) (by decide), by rw [ix_nI (by omega), h1]⟩, gt1 (fun q hq => absurd hq (by rw [h3]; exact Nat.not_lt_zero _)), nm_u, nm_u, xb_ok, nm_u, if_pos rfl, h1]
  · refine ⟨?_, ?_, ?_, ?_, ?_, ?_, ?_, ?_, fun p' hp' => ?_, fun q hq => absurd hq (Nat.not_lt_zero _), fun q hq => absurd hq (Nat.not_lt_zero _), fun a b => ?_, ?_, ?_, ?_, ?_⟩
    · simp [Nup, h1]
    · simp [Nup, h2]
    · simp [Nup, h3]
    · simp [sset, mkPan, h4, nI_1]
    · simp [sset, mkPan, h5]
    · simp [sset, mkPan, h6]
    · simp [sset, mkPan, h7]
    · simp [sset, mkPan, h8]
    · by_cases hpi : p' = i
      · subst hpi
        refine ⟨by simp [sset, mkPan], ?_, ?_⟩
        · rw [show sset (mkPan u p' (nI p') (nI p)) 3 0 0 ((mkPan u p' (nI p') (nI p)) 3 0 0 - 40) 11 p' 0 = nI p from by simp [sset, mkPan]]
          exact bt_nI (by omega) (by omega) (by omega)
        · rw [show sset (mkPan u p' (nI p') (nI p)) 3 0 0 ((mkPan u p' (nI p') (nI p)) 3 0 0 - 40) 14 p' = fun j => panOff (nI p') (nI p) (nI j) from funext fun j => by simp [sset, mkPan]]
          exact panOff_ok (by omega) (by omega)
      · have h9' := h9 p' (by omega)
        rw [show sset (mkPan u i (nI i) (nI p)) 3 0 0 ((mkPan u i (nI i) (nI p)) 3 0 0 - 40) 10 p' 0 = u 10 p' 0 from by simp [sset, mkPan, hpi], show sset (mkPan u i (nI i) (nI p)) 3 0 0 ((mkPan u i (nI i) (nI p)) 3 0 0 - 40) 11 p' 0 = u 11 p' 0 from by simp [sset, mkPan, hpi], show sset (mkPan u i (nI i) (nI p)) 3 0 0 ((mkPan u i (nI i) (nI p)) 3 0 0 - 40) 14 p' = u 14 p' from funext fun j => by simp [sset, mkPan, hpi]]
        exact h9'
    · simp [sset, mkPan, h12]
    · simp [sset, mkPan, h13]
    · simp [sset, mkPan, h14]
    · simp [sset, mkPan, h15]
    · simp [sset, mkPan, h16]
theorem ys_phrase (h : YS 4 i 0 0 N u) (hi : i < 6) : ∃ u9, f_L_sphrase N u cl (nI i) = some (.ok 1, u9) ∧ YS 4 (i + 1) 0 0 (Nup N 14) u9 := by
  obtain ⟨h1, h2, h3, h4, h5, h6, h7, h8, h9, h10, h11, h12, h13, h14, h15, h16⟩ := h
  obtain ⟨p, hp, hb⟩ := below_ok (cl (nI i + 2)) (n := 4) (k := 4) rfl (by decide) (by decide)
  obtain ⟨a, ha, hb2⟩ := below_ok (cl (nI i) >>> (2 &&& 31)) (n := 9) (k := 9) rfl (by decide) (by decide)
  obtain ⟨c, hc, hb3⟩ := below_ok (cl (nI i + 1) >>> (3 &&& 31)) (n := 255) (k := 255) rfl (by decide) (by decide)
  have e2 : nI i + 2 = nI (i + 2) := nI_add i 2
  have s1 := (h9 p hp).2.1
  have ea : (1 : Int32) + nI a = nI (1 + a) := nI_add 1 a
  have ec : (1 : Int32) + nI c = nI (1 + c) := nI_add 1 c
  refine ⟨mkPhr u i (u 11 p 0) (nI (1 + a)) (nI (1 + c)), ?_, ?_⟩
  · unfold f_L_sphrase
    rw [gt1 (by rw [e2]; exact nI_pos (by omega)), nm_u, hb, sb_some, ofPan0 (n := 3) h4 (by omega) (by decide) h1, xb_ok, gt1 (nI_pos (by omega)), nm_u, hb2, sb_some, gt1 (by rw [nI_1]; exact nI_pos (by omega)), nm_u, hb3, sb_some, ea, ec]
    unfold f_X7_phrase f_X7_requirePhraseWords
    rw [rqSec s1, xb_ok, fwi, sb_some, show win (nI (1 + a)) 1 9 = 1 from win_n (a := 1) (b := 9) (by omega) (by omega) (by omega), if_neg (by decide), fwi, sb_some, show win (nI (1 + c)) 1 255 = 1 from win_n (a := 1) (b := 255) (by omega) (by omega) (by omega), if_neg (by decide), xb_ok, h5, if_pos (show nI i < (8 : Int32) from nI_lt (b := 8) (by omega) (by decide)), nm_u, gt1 ⟨inb_nI (by omega) (by decide), by rw [ix_nI (by omega), h2]⟩, nm_u, xb_ok, nm_u, if_pos rfl, h2]
  · refine ⟨?_, ?_, ?_, ?_, ?_, ?_, ?_, ?_, fun p' hp' => ?_, fun q hq => ?_, fun q hq => absurd hq (Nat.not_lt_zero _), fun a b => ?_, ?_, ?_, ?_, ?_⟩
    · simp [Nup, h1]
    · simp [Nup, h2]
    · simp [Nup, h3]
    · simp [mkPhr, h4]
    · simp [mkPhr, h5, nI_1]
    · simp [mkPhr, h6]
    · simp [mkPhr, h7]
    · simp [mkPhr, h8]
    · rw [show mkPhr u i (u 11 p 0) (nI (1 + a)) (nI (1 + c)) 10 p' 0 = u 10 p' 0 from by simp [mkPhr], show mkPhr u i (u 11 p 0) (nI (1 + a)) (nI (1 + c)) 11 p' 0 = u 11 p' 0 from by simp [mkPhr], show mkPhr u i (u 11 p 0) (nI (1 + a)) (nI (1 + c)) 14 p' = u 14 p' from funext fun j => by simp [mkPhr]]
      exact h9 p' hp'
    · by_cases hqi : q = i
      · subst hqi
        rw [show mkPhr u q (u 11 p 0) (nI (1 + a)) (nI (1 + c)) 20 q 0 = u 11 p 0 from by simp [mkPhr], show mkPhr u q (u 11 p 0) (nI (1 + a)) (nI (1 + c)) 21 q 0 = nI (1 + a) from by simp [mkPhr], show mkPhr u q (u 11 p 0) (nI (1 + a)) (nI (1 + c)) 22 q 0 = nI (1 + c) from by simp [mkPhr]]
        exact ⟨s1, bt_nI (by omega) (by omega) (by omega), bt_nI (by omega) (by omega) (by omega)⟩
      · rw [show mkPhr u i (u 11 p 0) (nI (1 + a)) (nI (1 + c)) 20 q 0 = u 20 q 0 from by simp [mkPhr, hqi], show mkPhr u i (u 11 p 0) (nI (1 + a)) (nI (1 + c)) 21 q 0 = u 21 q 0 from by simp [mkPhr, hqi], show mkPhr u i (u 11 p 0) (nI (1 + a)) (nI (1 + c)) 22 q 0 = u 22 q 0 from by simp [mkPhr, hqi]]
        exact h10 q (by omega)
    · simp [mkPhr, h12]
    · simp [mkPhr, h13]
    · simp [mkPhr, h14]
    · simp [mkPhr, h15]
    · simp [mkPhr, h16]
theorem ys_player (h : YS 4 6 i 0 N u) (hi : i < 6) : ∃ u9, f_L_splayer N u cl (nI i) = some (.ok 1, u9) ∧ YS 4 6 (i + 1) 0 (Nup N 15) u9 := by
  obtain ⟨h1, h2, h3, h4, h5, h6, h7, h8, h9, h10, h11, h12, h13, h14, h15, h16⟩ := h
  obtain ⟨a, ha, hb2⟩ := below_ok (cl (nI i + 4)) (n := 9) (k := 9) rfl (by decide) (by decide)
  obtain ⟨c, hc, hb3⟩ := below_ok (cl (nI i + 5) >>> (2 &&& 31)) (n := 8) (k := 8) rfl (by decide) (by decide)
  have e4 : nI i + 4 = nI (i + 4) := nI_add i 4
  have e5 : nI i + 5 = nI (i + 5) := nI_add i 5
  have er : irem (nI i) 4 = nI (i % 4) := irem_nI (d := 4) (by omega) (by decide) (by decide)
  have hp : i % 4 < 4 := Nat.mod_lt _ (by decide)
  have s1 := (h9 _ hp).2.1
  have ea : (1 : Int32) + nI a = nI (1 + a) := nI_add 1 a
  have ec : (1 : Int32) + nI c = nI (1 + c) := nI_add 1 c
  obtain ⟨w, hw⟩ : ∃ w, w = mkPly u i (u 11 (i % 4) 0) (nI (1 + a)) (nI (1 + c)) := ⟨_, rfl⟩
  refine ⟨sset w 33 i 0 (penc (some (i % 4))), ?_, ?_⟩
  · unfold f_L_splayer
    rw [nm_u, er, ofPan0 (n := 3) h4 (by omega) (by decide) h1, xb_ok, gt1 (by rw [e4]; exact nI_pos (by omega)), nm_u, hb2, sb_some, gt1 (by rw [e5]; exact nI_pos (by omega)), nm_u, hb3, sb_some, ea, ec]
    unfold f_X7_player
    rw [rqSec s1, xb_ok, fwi, sb_some, show win (nI (1 + a)) 1 9 = 1 from win_n (a := 1) (b := 9) (by omega) (by omega) (by omega), if_neg (by decide), fwi, sb_some, show win (nI (1 + c)) 1 8 = 1 from win_n (a := 1) (b := 8) (by omega) (by omega) (by omega), if_neg (by decide), h6, if_pos (show nI i < (8 : Int32) from nI_lt (b := 8) (by omega) (by decide)), nm_u, gt1 ⟨inb_nI (by omega) (by decide), by rw [ix_nI (by omega), h3]⟩, nm_u, xb_ok, nm_u, if_pos rfl, nm_u, h3, ← hw]
    have w2 : w 2 0 0 = nI (i + 1) := by rw [hw]; simp [mkPly, h6, nI_1]
    have w0 : w 0 0 0 = nI (3 + 1) := by rw [hw]; simp [mkPly, h4]
    have w11 : w 11 (i % 4) 0 = w 30 i 0 := by rw [hw]; simp [mkPly]
    have w33 : w 33 i 0 = -1 := by rw [hw]; simp [mkPly]
    have wp : ppan (Nup N 15) w i = none := by
      unfold ppan
      rw [w33]
      exact if_neg (fun q => absurd q.1 (by decide))
    have hne : ¬ nI (i % 4) = -1 := (show ∀ q, q < 4 → ¬ nI q = -1 by decide +kernel) _ hp
    unfold f_X7_give f_X7_give_B15 f_X5_panNumber
    rw [rqPly w2 (Nat.le_refl _) (by omega), xb_ok, if_neg hne, rqPan w0 (by omega) (by omega), xb_ok, gt1 (inb_nI (by omega) (by decide)), ix_nI (by omega), gt1 (by simp [Nup, h3]), if_neg hne, gt1 (inb_nI (by omega) (by decide)), ix_nI (by omega), gt1 (by simp [Nup, h1]; omega), if_pos w11, wp, oc_none, sb_some, gt1 ⟨by simp [Nup, h1]; omega, by omega⟩, nm_u, xb_ok, if_pos rfl]
  · have r0 : ∀ f k j, f ≠ 33 → sset w 33 i 0 (penc (some (i % 4))) f k j = w f k j := fun f k j hf => sset_ne hf
    refine ⟨?_, ?_, ?_, ?_, ?_, ?_, ?_, ?_, fun p' hp' => ?_, fun q hq => ?_, fun q hq => ?_, fun a b => ?_, ?_, ?_, ?_, ?_⟩
    · simp [Nup, h1]
    · simp [Nup, h2]
    · simp [Nup, h3]
    · rw [r0 _ _ _ (by decide), hw]; simp [mkPly, h4]
    · rw [r0 _ _ _ (by decide), hw]; simp [mkPly, h5]
    · rw [r0 _ _ _ (by decide), hw]; simp [mkPly, h6, nI_1]
    · rw [r0 _ _ _ (by decide), hw]; simp [mkPly, h7]
    · rw [r0 _ _ _ (by decide), hw]; simp [mkPly, h8]
    · rw [r0 _ _ _ (by decide), r0 _ _ _ (by decide), show sset w 33 i 0 (penc (some (i % 4))) 14 p' = u 14 p' from funext fun j => by rw [r0 _ _ _ (by decide), hw]; simp [mkPly], show w 10 p' 0 = u 10 p' 0 from by rw [hw]; simp [mkPly], show w 11 p' 0 = u 11 p' 0 from by rw [hw]; simp [mkPly]]
      exact h9 p' hp'
    · rw [r0 _ _ _ (by decide), r0 _ _ _ (by decide), r0 _ _ _ (by decide), show w 20 q 0 = u 20 q 0 from by rw [hw]; simp [mkPly], show w 21 q 0 = u 21 q 0 from by rw [hw]; simp [mkPly], show w 22 q 0 = u 22 q 0 from by rw [hw]; simp [mkPly]]
      exact h10 q hq
    · rw [r0 30 _ _ (by decide), r0 31 _ _ (by decide), r0 32 _ _ (by decide), r0 34 _ _ (by decide)]
      by_cases hqi : q = i
      · subst hqi
        rw [sset_self, show w 30 q 0 = u 11 (q % 4) 0 from by rw [hw]; simp [mkPly], show w 31 q 0 = nI (1 + a) from by rw [hw]; simp [mkPly], show w 32 q 0 = nI (1 + c) from by rw [hw]; simp [mkPly], show w 34 q 0 = 0 from by rw [hw]; simp [mkPly]]
        exact ⟨s1, bt_nI (by omega) (by omega) (by omega), bt_nI (by omega) (by omega) (by omega), rfl, Or.inl rfl⟩
      · rw [sset_nk hqi, show w 30 q 0 = u 30 q 0 from by rw [hw]; simp [mkPly, hqi], show w 31 q 0 = u 31 q 0 from by rw [hw]; simp [mkPly, hqi], show w 32 q 0 = u 32 q 0 from by rw [hw]; simp [mkPly, hqi], show w 33 q 0 = u 33 q 0 from by rw [hw]; simp [mkPly, hqi], show w 34 q 0 = u 34 q 0 from by rw [hw]; simp [mkPly, hqi]]
        exact h11 q (by omega)
    · rw [r0 _ _ _ (by decide), hw]; simp [mkPly, h12]
    · rw [r0 _ _ _ (by decide), hw]; simp [mkPly, h13]
    · rw [r0 _ _ _ (by decide), hw]; simp [mkPly, h14]
    · rw [r0 _ _ _ (by decide), hw]; simp [mkPly, h15]
    · rw [r0 _ _ _ (by decide), hw]; simp [mkPly, h16]
theorem ys_rival (h : YS 4 6 6 i N u) (hi : i < 3) : ∃ u9, f_L_srival N u cl (nI i) = some (.ok 1, u9) ∧ YS 4 6 6 (i + 1) N u9 := by
  obtain ⟨h1, h2, h3, h4, h5, h6, h7, h8, h9, h10, h11, h12, h13, h14, h15, h16⟩ := h
  obtain ⟨a, ha, hb2⟩ := below_ok (cl (nI i + 7)) (n := 401) (k := 401) rfl (by decide) (by decide)
  have e4 : nI i + 7 = nI (i + 7) := nI_add i 7
  obtain ⟨w, hw⟩ : ∃ w, w = sset u 60 0 i (nI a) := ⟨_, rfl⟩
  have w64 : w 64 0 0 = nI i := by rw [hw, sset_ne (by decide)]; exact h8
  refine ⟨sset w 64 0 0 (nI i + 1), ?_, ?_⟩
  · unfold f_L_srival
    rw [gt1 (by rw [e4]; exact nI_pos (by omega)), nm_u, hb2, sb_some]
    unfold f_X7_rival
    rw [fwi, sb_some, show win (nI a) 0 400 = 1 from win_z (b := 400) (by omega) (by omega), if_neg (by decide), h8, if_pos (show nI i < (6 : Int32) from nI_lt (b := 6) (by omega) (by decide)), nm_u, gt1 (inb_nI (by omega) (by decide)), ix_nI (by omega), nm_u, ← hw, w64, nm_u, xb_ok, if_pos rfl]
  · have r0 : ∀ f k j, f ≠ 60 → f ≠ 64 → sset w 64 0 0 (nI i + 1) f k j = u f k j := fun f k j hf h2 => by rw [sset_ne h2, hw, sset_ne hf]
    refine ⟨h1, h2, h3, ?_, ?_, ?_, ?_, ?_, fun p' hp' => ?_, fun q hq => ?_, fun q hq => ?_, fun a b => ?_, ?_, ?_, ?_, ?_⟩
    · rw [r0 _ _ _ (by decide) (by decide)]; exact h4
    · rw [r0 _ _ _ (by decide) (by decide)]; exact h5
    · rw [r0 _ _ _ (by decide) (by decide)]; exact h6
    · rw [r0 _ _ _ (by decide) (by decide)]; exact h7
    · rw [sset_self, nI_1]
    · rw [r0 _ _ _ (by decide) (by decide), r0 _ _ _ (by decide) (by decide), show sset w 64 0 0 (nI i + 1) 14 p' = u 14 p' from funext fun j => r0 _ _ _ (by decide) (by decide)]
      exact h9 p' hp'
    · rw [r0 _ _ _ (by decide) (by decide), r0 _ _ _ (by decide) (by decide), r0 _ _ _ (by decide) (by decide)]
      exact h10 q hq
    · rw [r0 30 _ _ (by decide) (by decide), r0 31 _ _ (by decide) (by decide), r0 32 _ _ (by decide) (by decide), r0 33 _ _ (by decide) (by decide), r0 34 _ _ (by decide) (by decide)]
      exact h11 q hq
    · rw [r0 _ _ _ (by decide) (by decide)]; exact h12 a b
    · rw [r0 _ _ _ (by decide) (by decide)]; exact h13
    · rw [r0 _ _ _ (by decide) (by decide)]; exact h14
    · rw [r0 _ _ _ (by decide) (by decide)]; exact h15
    · rw [r0 _ _ _ (by decide) (by decide)]; exact h16
theorem ys_inv (h : YS 4 6 6 3 N u) : Inv N u := by
  obtain ⟨h1, h2, h3, h4, h5, h6, h7, h8, h9, h10, h11, h12, h13, h14, h15, h16⟩ := h
  refine ⟨h1, h2, h3, ⟨h4, h5, h6, h7, h8⟩, h9, h10, h11, fun k hk j hj => ?_, ⟨0, by decide, h13, fun i hi => absurd hi (Nat.not_lt_zero _)⟩, ⟨0, by decide, h14, Or.inl h15, fun q => absurd h16 q⟩⟩
  rw [h12]
  refine ⟨⟨by decide, ?_⟩, fun _ => rfl⟩
  unfold most
  split <;> decide
theorem xy_ok (h : i < 54) : f_L_sxy N u cl (nI i) = some (.ok 1, u) := by
  have e1 : irem (nI i) 16 = nI (i % 16) := irem_nI (d := 16) (by omega) (by decide) (by decide)
  have e2 : irem ((7 * nI i) + 3) 16 = nI ((7 * i + 3) % 16) := by
    rw [show (7 : Int32) * nI i = nI (7 * i) from pk_mul 7 i, show nI (7 * i) + 3 = nI (7 * i + 3) from nI_add _ 3]
    exact irem_nI (d := 16) (by omega) (by decide) (by decide)
  unfold f_L_sxy
  rw [nm_u, e1, gt1 (nI_pos (by omega)), nm_u, nm_u, nm_u, e2, gt1 (nI_pos (by omega))]
  rfl
end MADE
