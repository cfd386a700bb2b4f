/-! 55: one turn of the law -/
section ST1
variable {N : Nt} {u : St}
theorem xbt {α : Type} {a : Option (Except String Int32 × St)} {w : St} {r : Int32} {f : Int32 → St → Option (Except String α × St)} (h : a = some (.ok r, w)) : xb a f = f r w := by rw [h, xb_ok]
theorem b388 (h : Inv N u) {p : Nat} (hp : p < 4) {y8 y x : Int32} (h8 : y8 = b2i (!crk (u 12 p 0))) : ∃ w, f_L_step_B388 N y8 (nI p) y x u = some (.ok 1, w) ∧ Inv N w := by
  unfold f_L_step_B388
  rw [h8, ib0]
  cases hc : crk (u 12 p 0) with
  | true => rw [if_neg (by decide)]; exact b802 h
  | false =>
    obtain ⟨j, hj, e1⟩ := below_ok (y >>> (4 &&& 31)) (n := 8) (k := 8) rfl (by decide) (by decide)
    obtain ⟨r, hr, e2⟩ := below_ok (x >>> (4 &&& 31)) (n := 41) (k := 41) rfl (by decide) (by decide)
    have hx : bt (nI r - 20) (-20) 20 := by
      have : (nI r - 20 : Int32).toInt = (r : Int) - 20 := pk_sub_toInt (b := 20) (by omega) (by omega)
      unfold bt
      rw [this]
      omega
    obtain ⟨w, a1, a2⟩ := isHit_ok h hp hj hc hx
    rw [if_pos (by decide), e1, sb_some, e2, sb_some, xbt a1, if_neg (by decide)]
    exact b802 a2
theorem b474 (h : Inv N u) {k q : Nat} (hk : k < 6) (hq : q < 6) {x : Int32} : ∃ w, f_L_step_B474 N (nI q) (nI k) x u = some (.ok 1, w) ∧ Inv N w := by
  unfold f_L_step_B474
  obtain ⟨b, hb, e1⟩ := below_ok (x >>> (3 &&& 31)) (n := 60) (k := 60) rfl (by decide) (by decide)
  obtain ⟨w, a1, a2⟩ := isTaught_ok (X := 1 + b) h hk hq (by omega) (by omega)
  rw [e1, sb_some, show (1 : Int32) + nI b = nI (1 + b) from nI_add 1 b, xbt a1, if_neg (by decide)]
  exact b802 a2
theorem b567 (h : Inv N u) {q : Nat} (hq : q < 6) : ∃ w, f_L_step_B567 N (nI q) u = some (.ok 1, w) ∧ Inv N w := by
  unfold f_L_step_B567
  obtain ⟨n, o⟩ := h.ord
  rw [many3, xb_ok, o.2.1]
  by_cases hc : (10 : Int32) ≤ nI n
  · rw [if_pos hc]; exact b802 h
  · have hn : n < 10 := Nat.not_le.mp (fun e => hc (nI_le (a := 10) e (by have := o.1; omega)))
    obtain ⟨v, a1, a2, a3, a4⟩ := put_ok h o hn hq
    rw [if_neg hc, xbt a1, many3, xb_ok, a3, nI_pred, if_pos rfl, many3, xb_ok, a3, nI_pred, ofPlc0 a2 a3 (Nat.le_refl _) hn, xb_ok, a4, if_pos rfl]
    exact b802 a2
theorem b673 (h : Inv N u) {k : Nat} (hk : k < 6) {x : Int32} (hx : x = 0 ∨ x = 1) {w0 : Int32} (hw : w0 = u 34 k 0) : ∃ w, f_L_step_B673 N x (nI k) w0 u = some (.ok 1, w) ∧ Inv N w := by
  obtain ⟨a1, a2⟩ := absent_ok h hk hx
  unfold f_L_step_B673
  rw [xbt a1, if_pos hw.symm]
  by_cases h0 : x = 0
  · rw [if_pos h0]; exact b802 a2
  · have e : snd (sset u 34 k 0 x) k = false := by
      unfold snd
      rw [sset_self, decide_eq_false h0]
      rfl
    rw [if_neg h0, ofPly5 a2.c2 hk a2.n15 a2.n12 (a2.h33 k hk), xb_ok, e, if_neg (by decide)]
    exact b802 a2
theorem b655 (h : Inv N u) {k : Nat} (hk : k < 6) {x : Int32} (hx : x = 0 ∨ x = 1) : ∃ w, f_L_step_B655 N (nI k) x u = some (.ok 1, w) ∧ Inv N w := by
  unfold f_L_step_B655
  rw [ofPly4 h.c2 hk h.n15, xb_ok]
  rcases (h.y k hk).2.2.2.2 with q | q
  · rw [if_neg (by rw [q]; decide)]
    exact b673 h hk hx q.symm
  · rw [if_pos (by rw [q]; decide)]
    exact b673 h hk hx q.symm
theorem b706 (h : Inv N u) {x : Int32} : ∃ w, f_L_step_B706 N x u = some (.ok 1, w) ∧ Inv N w := by
  unfold f_L_step_B706
  rw [many12, xb_ok]
  by_cases hc : (60 : Int32) ≤ u 52 0 0
  · rw [if_pos hc]; exact b802 h
  · obtain ⟨a, ha, e1⟩ := below_ok (x >>> (3 &&& 31)) (n := 51) (k := 51) rfl (by decide) (by decide)
    obtain ⟨w, a1, a2⟩ := reh_ok h ha hc
    rw [if_neg hc, e1, sb_some, show (10 : Int32) + nI a = nI (10 + a) from nI_add 10 a, xbt a1, many5 a2, xb_ok, if_pos rfl]
    exact b802 a2
theorem b307 (h : Inv N u) {p k q : Nat} (hp : p < 4) (hk : k < 6) (hq : q < 6) {x y w0 : Int32} (h0 : w0 = b2i (!crk (u 12 p 0))) : ∃ w, f_L_step_B307 N (nI q) (nI k) (nI p) y x w0 u = some (.ok 1, w) ∧ Inv N w := by
  unfold f_L_step_B307
  obtain ⟨c, hc, ec⟩ := below_ok x (n := 17) (k := 17) rfl (by decide) (by decide)
  rw [ec, sb_some]
  generalize nI c = r
  by_cases c0 : r = 0
  · rw [if_pos c0]
    exact b388 h hp h0
  rw [if_neg c0]
  by_cases c1 : r = 1
  · rw [if_pos c1]
    exact b388 h hp h0
  rw [if_neg c1]
  by_cases c2 : r = 2
  · rw [if_pos c2]
    rw [h0, ib0]
    cases hw : crk (u 12 p 0) with
    | true => rw [if_neg (by decide)]; exact b802 h
    | false =>
      obtain ⟨a, ha, e1⟩ := below_ok (x >>> (4 &&& 31)) (n := 111) (k := 111) rfl (by decide) (by decide)
      obtain ⟨w, a1, a2⟩ := isTuned_ok h hp hw ha
      rw [if_pos (by decide), e1, sb_some, show (10 : Int32) + nI a = nI (10 + a) from nI_add 10 a, xbt a1, if_neg (by decide)]
      exact b802 a2
  rw [if_neg c2]
  by_cases c3 : r = 3
  · rw [if_pos c3]
    rw [h0, ib0]
    cases hw : crk (u 12 p 0) with
    | true => rw [if_neg (by decide)]; exact b802 h
    | false =>
      obtain ⟨w, a1, a2⟩ := burn_ok h hp hw
      rw [if_pos (by decide), xbt a1, ofPan1 a2.c0 hp a2.n12, xb_ok, if_pos rfl]
      exact b802 a2
  rw [if_neg c3]
  by_cases c4 : r = 4
  · rw [if_pos c4]
    exact b474 h hk hq
  rw [if_neg c4]
  by_cases c5 : r = 5
  · rw [if_pos c5]
    exact b474 h hk hq
  rw [if_neg c5]
  by_cases c6 : r = 6
  · rw [if_pos c6]
    exact b474 h hk hq
  rw [if_neg c6]
  by_cases c7 : r = 7
  · rw [if_pos c7]
    obtain ⟨a, ha, e1⟩ := below_ok y (n := 9) (k := 9) rfl (by decide) (by decide)
    obtain ⟨b, hb, e2⟩ := below_ok (y >>> (3 &&& 31)) (n := 255) (k := 255) rfl (by decide) (by decide)
    obtain ⟨w, a1, a2, a3⟩ := change_ok (a := 1 + a) (b := 1 + b) h hq (by omega) (by omega) (by omega) (by omega)
    rw [f_mem h.c2 h.c1 hk hq, xb_ok, ofPhr3 h.c1 hq h.n14, xb_ok, e1, sb_some, e2, sb_some, show (1 : Int32) + nI a = nI (1 + a) from nI_add 1 a, show (1 : Int32) + nI b = nI (1 + b) from nI_add 1 b, xbt a1, if_pos rfl, f_mem a2.c2 a2.c1 hk hq, xb_ok, if_pos (a3 k hk)]
    exact b802 a2
  rw [if_neg c7]
  by_cases c8 : r = 8
  · rw [if_pos c8]
    exact b567 h hq
  rw [if_neg c8]
  by_cases c9 : r = 9
  · rw [if_pos c9]
    exact b567 h hq
  rw [if_neg c9]
  by_cases c10 : r = 10
  · rw [if_pos c10]
    obtain ⟨n, o⟩ := h.ord
    have h10 := o.1
    rw [many3, xb_ok, o.2.1]
    by_cases hn : nI n ≤ 0
    · rw [if_pos hn]; exact b802 h
    · have hn0 : 0 < n := Nat.pos_of_ne_zero (fun e => hn (by rw [e]; decide))
      obtain ⟨m, rfl⟩ : ∃ m, n = m + 1 := ⟨n - 1, by omega⟩
      obtain ⟨i, hi, e1⟩ := below_ok y (n := nI (m + 1)) (k := m + 1) rfl hn0 (by omega)
      obtain ⟨w, q2, hq2, a1, a2⟩ := cut_ok (i := i) h o (by omega)
      rw [if_neg hn, many3, xb_ok, o.2.1, e1, sb_some, xbt a1, if_pos (nI_pos' (by omega))]
      exact b802 a2
  rw [if_neg c10]
  by_cases c11 : r = 11
  · rw [if_pos c11]
    obtain ⟨a, ha, e1⟩ := below_ok (y >>> (5 &&& 31)) (n := 3) (k := 3) rfl (by decide) (by decide)
    rw [e1, sb_some]
    split
    · exact b655 h hk (Or.inr rfl)
    · exact b655 h hk (Or.inl rfl)
  rw [if_neg c11]
  by_cases c12 : r = 12
  · rw [if_pos c12]
    exact b706 h
  rw [if_neg c12]
  by_cases c13 : r = 13
  · rw [if_pos c13]
    exact b706 h
  rw [if_neg c13]
  by_cases c14 : r = 14
  · rw [if_pos c14]
    rw [many9, xb_ok, ib0]
    cases hov : ovr u with
    | true => rw [if_pos rfl]; exact b802 h
    | false =>
      rw [if_neg Bool.false_ne_true, many5 h, xb_ok]
      by_cases h5 : nI (cnt (snd u) 6) ≤ 0
      · rw [if_pos h5]; exact b802 h
      · rw [if_neg h5, many3, xb_ok]
        by_cases h3 : u 43 0 0 ≤ 0
        · rw [if_pos h3]; exact b802 h
        · obtain ⟨w, a1, a2⟩ := isPlayed_ok h hov (fun e => h5 (by rw [e]; decide)) (fun e => h3 (by rw [e]; decide))
          rw [if_neg h3, xbt a1, if_neg (by decide)]
          exact b802 a2
  rw [if_neg c14]
  · obtain ⟨s, hs, e1⟩ := below_ok (x >>> (3 &&& 31)) (n := 10) (k := 10) rfl (by decide) (by decide)
    obtain ⟨t, ht, e2⟩ := below_ok (y >>> (3 &&& 31)) (n := 10) (k := 10) rfl (by decide) (by decide)
    obtain ⟨w, a1, a2⟩ := isPassed_ok h hs ht
    rw [e1, sb_some, e2, sb_some, xbt a1, if_neg (by decide)]
    exact b802 a2
theorem step_ok (h : Inv N u) (x y : Int32) : ∃ u9, f_L_step N u x y = some (.ok 1, u9) ∧ Inv N u9 := by
  obtain ⟨p, hp, e1⟩ := below_ok y (n := 4) (k := 4) rfl (by decide) (by decide)
  obtain ⟨k, hk, e2⟩ := below_ok (y >>> (2 &&& 31)) (n := 6) (k := 6) rfl (by decide) (by decide)
  obtain ⟨q, hq, e3⟩ := below_ok (x >>> (5 &&& 31)) (n := 6) (k := 6) rfl (by decide) (by decide)
  unfold f_L_step
  rw [e1, sb_some, e2, sb_some, e3, sb_some, ofPan2 h.c0 hp h.n12, xb_ok, ib0]
  cases hc : crk (u 12 p 0) with
  | true => rw [if_pos rfl]; exact b307 h hp hk hq (by rw [hc]; rfl)
  | false => rw [if_neg Bool.false_ne_true]; exact b307 h hp hk hq (by rw [hc]; rfl)
end ST1
