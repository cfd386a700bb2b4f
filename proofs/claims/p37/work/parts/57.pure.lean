/-! 57: bestTeach -/
section BT
variable {N : Nt} {u v : St} {n k X : Nat}
def mmT (u : St) (k X : Nat) : F3 := fun y i => if y = k then mmin (most (u 22 i 0) (u 32 k 0)) (u 40 k i + (nI X * u 31 k 0) / u 21 i 0) else u 40 y i
def hTe (u : St) (k X n j : Nat) : Int32 := hrd (u 21) (fun i => if i = j then lev u (mmT u k X) j else lev u (mms u 0) i) (u 42 0) n
def TW (u : St) (Y : Nat) (w : St) : Prop := E u w ∧ (∀ i, i < 6 → w 70 0 i = lev u (mms u 0) i) ∧ ∀ y, y < 6 → ∀ i, i < 6 → Y ≤ i → w 40 (8 * 1 + y) i = u 40 y i
theorem f_learn1 {w : St} {q : Nat} (hk : k < 6) (hq : q < 6) {x m : Int32} : f_X2_learn N w 1 (nI k) (nI q) x m = some ((), sset (sset w 40 (8 * 1 + k) q (mmin m (w 40 (8 * 1 + k) q + x))) 41 1 k (w 41 1 k ||| (1 <<< (nI q &&& 31)))) := by
  unfold f_X2_learn
  rw [gt1 (inb_nI (by omega) (by decide)), gt1 (inb_nI (by omega) (by decide)), ix_nI (by omega), ix_nI (by omega), nm_u, nm_u, nm_u, sset_ne (f := 40) (a := 41) (by decide)]
theorem sset_E {f a i : Nat} {x : Int32} (h : mk f a i) : E u (sset u f a i x) := fun f' a' i' h' => by
  unfold sset
  exact if_neg (fun q => h' (by obtain ⟨rfl, rfl, rfl⟩ := q; exact h))
theorem hif (h : Inv N u) (o : OK1 u 0 n) (hk : k < 6) {j : Nat} (hj : j < 6) {w : St} (hw : TW u j w) : ∃ w3, f_X7_heardIfTaught N w (nI k) (nI j) (nI X) = some (hTe u k X n j, w3) ∧ TW u (j + 1) w3 := by
  obtain ⟨x1, x2, x3⟩ := hw
  have hIw := h.E x1
  have e31 : w 31 k 0 = u 31 k 0 := x1.at (by unfold mk; omega)
  have e21 : w 21 j 0 = u 21 j 0 := x1.at (by unfold mk; omega)
  obtain ⟨hd, hd1, hd2, hd3⟩ := bt_of (a := 1) (b := 9) (h.r j hj).2.1
  obtain ⟨w1, hw1⟩ : ∃ w1, w1 = sset (sset w 40 (8 * 1 + k) j (mmin (most (w 22 j 0) (w 32 k 0)) (w 40 (8 * 1 + k) j + (nI X * w 31 k 0) / w 21 j 0))) 41 1 k (w 41 1 k ||| (1 <<< (nI j &&& 31))) := ⟨_, rfl⟩
  have y1 : E u w1 := by
    rw [hw1]
    exact (x1.trans (sset_E (by unfold mk; omega))).trans (sset_E (by unfold mk; omega))
  have hI1 := h.E y1
  have em : ∀ y, y < 6 → mms w1 1 y j = mmT u k X y j := fun y hy => by
    show w1 40 (8 * 1 + y) j = _
    rw [hw1, sset_ne (by decide)]
    unfold mmT
    by_cases e : y = k
    · subst e
      rw [sset_self, if_pos rfl, x3 y hy j hj (Nat.le_refl _), e31, e21, x1.at (f := 22) (by unfold mk; omega), x1.at (f := 32) (by unfold mk; omega)]
    · rw [if_neg e, sset_nk (by omega)]
      exact x3 y hy j hj (Nat.le_refl _)
  obtain ⟨w2, hw2⟩ : ∃ w2, w2 = sset w1 70 0 j (lev u (mmT u k X) j) := ⟨_, rfl⟩
  have y2 : E u w2 := by rw [hw2]; exact y1.trans (sset_E (by unfold mk; omega))
  have hI2 := h.E y2
  have w70 : ∀ i, i < 6 → w2 70 0 i = (if i = j then lev u (mmT u k X) j else lev u (mms u 0) i) := fun i hi => by
    rw [hw2]
    by_cases e : i = j
    · subst e; rw [sset_self, if_pos rfl]
    · rw [sset_ni e, if_neg e, hw1, sset_ne (by decide), sset_ne (by decide)]; exact x2 i hi
  refine ⟨sset w2 70 0 j (w 70 0 j), ?_, y2.trans (sset_E (by unfold mk; omega)), fun i hi => ?_, fun y hy i hi hji => ?_⟩
  · unfold f_X7_heardIfTaught f_X7_giveLesson
    rw [gt1 (inb_nI (by omega) (by decide)), nm_u, ix_nI (by omega), gt1 (inb_nI (by omega) (by decide)), ix_nI (by omega), gt1 (by rw [h.n15]; exact hk), gt1 (inb_nI (by omega) (by decide)), gt1 (by rw [h.n14]; exact hj), gt1 (by rw [e21, hd3]; exact nI_ne0 hd1 (by omega)), f_most, sb_some, f_learn1 hk hj, sb_some, sb_some, ← hw1, f_lev hI1 hj, sb_some, lev_E y1, lev_m em, nm_u, ← hw2, f_heard hI2 (o.E0 y2), sb_some, nm_u]
    unfold hTe
    rw [f21_E y2, f42_E y2, hrd_c o.2.2 w70 (fun _ _ => rfl)]
  · by_cases e : i = j
    · subst e; rw [sset_self]; exact x2 i hi
    · rw [sset_ni e, w70 i hi, if_neg e]
  · rw [sset_ne (by decide), hw2, sset_ne (by decide), hw1, sset_ne (by decide), sset_ni (by omega)]
    exact x3 y hy i hi (by omega)
def btG (u : St) (k X n : Nat) : Nat → Nat → Int32 → Int32 → Int32
  | 0, _, _, who => who
  | d + 1, y, best, who => if u 20 y 0 = u 30 k 0 then (if hTe u k X n y ≤ best then btG u k X n d (y + 1) best who else btG u k X n d (y + 1) (hTe u k X n y) (nI y)) else btG u k X n d (y + 1) best who
theorem btG_b : ∀ (d y : Nat) (best who : Int32), y + d ≤ 6 → -1 ≤ who → -1 ≤ btG u k X n d y best who := by
  intro d
  induction d with
  | zero => intro y best who _ h; exact h
  | succ d ih =>
    intro y best who hy h
    have h2 : (-1 : Int32) ≤ nI y := by
      rw [Int32.le_iff_toInt_le, nI_toInt (by omega), show (-1 : Int32).toInt = -1 from by decide]
      omega
    unfold btG
    split
    · split
      · exact ih _ _ _ (by omega) h
      · exact ih _ _ _ (by omega) h2
    · exact ih _ _ _ (by omega) h
theorem TW.s {Y : Nat} {w : St} (h : TW u Y w) : TW u (Y + 1) w := ⟨h.1, h.2.1, fun y hy i hi q => h.2.2 y hy i hi (by omega)⟩
theorem f_bt_l (h : Inv N u) (o : OK1 u 0 n) (hk : k < 6) : ∀ (d y m : Nat) (best who : Int32) (w : St), y + d = 6 → d < m → TW u y w → ∃ w', f_X7_bestTeach_L36 N m (nI y) best who (nI k) (nI X) w = some (.ok (btG u k X n d y best who), w') ∧ E u w' := by
  intro d
  induction d with
  | zero =>
    intro y m best who w hy hm hw
    obtain ⟨m', rfl, -⟩ := fuel hm
    refine ⟨w, ?_, hw.1⟩
    show f_X7_bestTeach_L36b N (f_X7_bestTeach_L36 N m') (nI y) best who (nI k) (nI X) w = _
    unfold f_X7_bestTeach_L36b btG
    obtain rfl : y = 6 := by omega
    rw [(h.E hw.1).c1, if_pos (by decide)]
  | succ d ih =>
    intro y m best who w hy hm hw
    obtain ⟨m', rfl, h'⟩ := fuel hm
    have hI := h.E hw.1
    show ∃ w', f_X7_bestTeach_L36b N (f_X7_bestTeach_L36 N m') (nI y) best who (nI k) (nI X) w = _ ∧ _
    unfold f_X7_bestTeach_L36b btG
    rw [hI.c1, if_neg (show ¬ (6 : Int32) ≤ nI y from nI_ge (b := 6) (by omega) (by decide)), gt1 (inb_nI (by omega) (by decide)), ix_nI (by omega), gt1 (by rw [h.n14]; omega), gt1 (inb_nI (by omega) (by decide)), ix_nI (by omega), gt1 (by rw [h.n15]; exact hk), hw.1.at (f := 20) (by unfold mk; omega), hw.1.at (f := 30) (by unfold mk; omega)]
    by_cases hs : u 20 y 0 = u 30 k 0
    · obtain ⟨w3, a1, a2⟩ := hif (X := X) h o hk (by omega) hw
      rw [if_pos hs, if_pos hs, a1, sb_some]
      by_cases hb : hTe u k X n y ≤ best
      · rw [if_pos hb, if_pos hb, nm_u, nI_1]
        exact ih (y + 1) m' best who w3 (by omega) (h' d rfl) a2
      · rw [if_neg hb, if_neg hb, nm_u, nI_1]
        exact ih (y + 1) m' _ _ w3 (by omega) (h' d rfl) a2
    · rw [if_neg hs, if_neg hs, nm_u, nI_1]
      exact ih (y + 1) m' best who w (by omega) (h' d rfl) hw.s
theorem f_bt (h : Inv N u) (hk : k < 6) (hX1 : 1 ≤ X) (hX : X ≤ 60) : ∃ r : Int32, -1 ≤ r ∧ ∀ v, E u v → ∃ w, f_X7_bestTeach N v (nI k) (nI X) = some (.ok r, w) ∧ E u w := by
  obtain ⟨n, o⟩ := h.ord
  refine ⟨btG u k X n 6 0 (-1) (-1), btG_b 6 0 _ _ (by omega) (by decide), fun v xv => ?_⟩
  have hv := h.E xv
  have hw : TW u 0 (cpM (setL v (lev v (mms v 0)) 6) 8) := by
    refine ⟨(xv.trans setL_E).trans cpM_E, fun i hi => ?_, fun y hy i hi _ => ?_⟩
    · unfold cpM
      rw [if_neg (fun q => by omega), if_neg (fun q => by omega), setL_70 hi, lvv_E xv]
    · unfold cpM
      rw [if_pos ⟨rfl, by omega, by omega, by omega⟩, show 8 * 1 + y - 8 = y from by omega, setL_f (f := 40) (by decide)]
      exact xv.at (by unfold mk; omega)
  obtain ⟨w, a1, a2⟩ := f_bt_l (X := X) h o hk 6 0 1000000 (-1) (-1) _ rfl (by omega) hw
  refine ⟨w, ?_, a2⟩
  unfold f_X7_bestTeach f_X7_requireLesson
  generalize hF : (1000000 : Nat) = F at a1 ⊢
  rw [rqPly (n := 5) hv.c2 (by omega) (by omega), xb_ok, fwi, sb_some, show win (nI X) 1 60 = 1 from win_n (a := 1) (b := 60) hX1 hX (by omega), if_neg (by decide), xb_ok, f_weigh hv, sb_some, f_cpM, sb_some]
  exact a1
end BT
