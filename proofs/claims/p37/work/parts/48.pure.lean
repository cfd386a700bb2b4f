/-! 48: the yard is sound -/
theorem lvv_E {u v : St} (e : E u v) : lev v (mms v 0) = lev u (mms u 0) := funext fun j => by
  rw [lev_E e]
  exact lev_m (fun y hy => e.at (by unfold mk; omega))
theorem f21_E {u v : St} (e : E u v) : v 21 = u 21 := funext fun k => e.row (fun i => by unfold mk; omega)
theorem f42_E {u v : St} (e : E u v) : v 42 0 = u 42 0 := e.row (fun i => by unfold mk; omega)
theorem totV_E2 {u v : St} {n : Nat} (e : E u v) : totV v (mms v 0) n = totV u (mms u 0) n := by
  unfold totV
  rw [tone_E e, f21_E e, f42_E e, lvv_E e]
def M0 (u : St) (n : Nat) : Int32 := meanS (sAt (u 21) (lev u (mms u 0)) (u 42 0)) n
def M2 (u : St) (n : Nat) : Int32 := vry (u 21) (u 42 0) n
def M3 (u : St) (n : Nat) : Int32 := leastS (sAt (u 21) (lev u (mms u 0)) (u 42 0)) n
section ISS
variable {N : Nt} {u v : St} {n : Nat}
theorem mark0E (h : Inv N u) (o : OK1 u 0 n) (e : E u v) : ∃ w, f_X7_mark N v 0 = some (.ok (M0 u n), w) ∧ E u w := by
  refine ⟨setL v (lev v (mms v 0)) 6, (mark0 (h.E e) (o.E0 e)).trans ?_, e.trans setL_E⟩
  unfold M0
  rw [lvv_E e, f21_E e, f42_E e]
theorem mark1E (h : Inv N u) (e : E u v) : ∃ w, f_X7_mark N v 1 = some (.ok (tone u), w) ∧ E u w := by
  refine ⟨setL v (lev v (mms v 0)) 6, (mark1 (h.E e)).trans ?_, e.trans setL_E⟩
  rw [tone_E e]
theorem mark2E (h : Inv N u) (o : OK1 u 0 n) (e : E u v) : ∃ w, f_X7_mark N v 2 = some (.ok (M2 u n), w) ∧ E u w := by
  refine ⟨setL v (lev v (mms v 0)) 6, (mark2 (h.E e) (o.E0 e)).trans ?_, e.trans setL_E⟩
  unfold M2
  rw [f21_E e, f42_E e]
theorem mark3E (h : Inv N u) (o : OK1 u 0 n) (e : E u v) : ∃ w, f_X7_mark N v 3 = some (.ok (M3 u n), w) ∧ E u w := by
  refine ⟨setL v (lev v (mms v 0)) 6, (mark3 (h.E e) (o.E0 e)).trans ?_, e.trans setL_E⟩
  unfold M3
  rw [lvv_E e, f21_E e, f42_E e]
theorem many10E (h : Inv N u) (o : OK1 u 0 n) (e : E u v) : ∃ w, f_X7_many N v 10 = some (.ok (totV u (mms u 0) n), w) ∧ E u w := by
  refine ⟨setL v (lev v (mms v 0)) 6, (many10 (h.E e) (o.E0 e)).trans ?_, e.trans setL_E⟩
  rw [totV_E2 e]
theorem cnt_E (e : E u v) : cnt (snd v) 6 = cnt (snd u) 6 := by
  rw [show snd v = snd u from funext fun k => snd_E e]
theorem many5E (h : Inv N u) (e : E u v) : f_X7_many N v 5 = some (.ok (nI (cnt (snd u) 6)), v) := by rw [many5 (h.E e), cnt_E e]
theorem marks_i (h : Inv N u) (o : OK1 u 0 n) : ∃ a t V l : Nat, M0 u n = nI a ∧ tone u = nI t ∧ M2 u n = nI V ∧ M3 u n = nI l ∧ l ≤ a ∧ a ≤ 100 ∧ t ≤ 96 ∧ V ≤ 100 := by
  obtain ⟨a, a', l, l', h1, h2, h3, h4, h5, h6, h7, h8⟩ := marks_n h o (mm_b h)
  obtain ⟨V, v1, v2⟩ := vry_n (hd := u 21) (od := u 42 0) (n := n)
  obtain ⟨T, t1, t2⟩ := tone_n (u := u)
  exact ⟨a, T, V, l, h1, t1, v1, h3, h8, h6, t2, v2⟩
theorem iss_end (h : Inv N u) {m : Nat} : ∃ w, f_L_isSound_L153 N (m + 1) (nI 4) (nI (cnt (snd u) 6)) u = some (.ok 1, w) ∧ E u w := by
  obtain ⟨n, o⟩ := h.ord
  obtain ⟨a, t, V, l, k0, k1, k2, k3, q1, q2, q3, q4⟩ := marks_i h o
  obtain ⟨w1, e1, x1⟩ := mark0E h o E.refl
  obtain ⟨w2, e2, x2⟩ := mark1E h x1
  obtain ⟨w3, e3, x3⟩ := mark2E h o x2
  obtain ⟨w4, e4, x4⟩ := mark3E h o x3
  obtain ⟨w5, e5, x5⟩ := many10E h o x4
  obtain ⟨w6, e6, x6⟩ := mark3E h o x5
  obtain ⟨w7, e7, x7⟩ := mark0E h o x6
  obtain ⟨w8, e8, x8⟩ := mark1E h x7
  obtain ⟨w9, e9, x9⟩ := mark2E h o x8
  refine ⟨w9, ?_, x9⟩
  show f_L_isSound_L153b N (f_L_isSound_L153 N m) (nI 4) (nI (cnt (snd u) 6)) u = _
  unfold f_L_isSound_L153b
  generalize hF : (1000000 : Nat) = F
  have et : totV u (mms u 0) n = nI (a + t + V + l) := by
    show tone u + ((M0 u n + M2 u n) + M3 u n) = _
    rw [k0, k1, k2, k3, nI_add, nI_add, nI_add, show t + (a + V + l) = a + t + V + l by omega]
  rw [if_pos (by decide), e1, xb_ok, e2, xb_ok, e3, xb_ok, e4, xb_ok, nm_u, many5E h x4, xb_ok, if_pos rfl, e5, xb_ok, et, k0, k1, k2, k3, nI_add, nI_add, nI_add, if_pos rfl, e6, xb_ok, e7, xb_ok, k0, k3, if_neg (nI_nlt q1 (by omega)), e8, xb_ok, k1, if_neg (show ¬ (96 : Int32) < nI t from nI_nlt (a := 96) q3 (by omega)), e9, xb_ok, k2, if_neg (show ¬ (100 : Int32) < nI V from nI_nlt (a := 100) q4 (by omega))]
theorem mabs_le {x : Int32} (h : -99 ≤ x.toInt ∧ x.toInt ≤ 99) : mabs x ≤ 99 := by
  unfold mabs
  rw [Int32.le_iff_toInt_le, show (99 : Int32).toInt = 99 from by decide]
  split
  · exact h.2
  · rw [Int32.toInt_sub, show (0 : Int32).toInt = 0 from rfl]
    simp only [Int.bmod]
    split <;> omega
theorem iss_notes (h : Inv N u) {p : Nat} (hp : p < 4) {y1 : Int32} {ih : Int32 → Int32 → St → Option (Except String Int32 × St)} : ∀ (d z m : Nat), z + d = 8 → d < m → f_L_isSound_L163 N ih m (nI z) (nI (cnt (thr (u 11 p 0) (u 14 p)) z)) (nI p) y1 u = ih (nI (p + 1)) y1 u := by
  intro d
  induction d with
  | zero =>
    intro z m hz hm
    obtain ⟨m', rfl, -⟩ := fuel hm
    show f_L_isSound_L163b N ih (f_L_isSound_L163 N ih m') _ _ _ _ u = _
    unfold f_L_isSound_L163b
    obtain rfl : z = 8 := by omega
    rw [if_pos (by decide), ofPan2 h.c0 hp h.n12, xb_ok]
    unfold f_L_isSound_B240
    rw [ofPan3 h.c0 hp h.n12, xb_ok, xb_ok]
    unfold grd f_L_isSound_B258
    rw [ofPan1 h.c0 hp h.n12]
    cases hc : crk (u 12 p 0) with
    | true => rw [show b2i true = (1 : Int32) from rfl, if_pos (rfl : (1 : Int32) = 1), if_neg (show ¬ (1 : Int32) = 0 by decide), if_pos (rfl : true = true), if_pos (show nI 0 = (0 : Int32) from rfl), if_neg (show ¬ (1 : Int32) = 0 by decide), nm_u, nI_1]
    | false =>
      have hw : u 12 p 0 ≤ 299 := by
        unfold crk at hc
        have hc := of_decide_eq_false hc
        have hc2 : u 12 p 0 < 300 := Decidable.not_not.mp hc
        rw [Int32.lt_iff_toInt_lt, show (300 : Int32).toInt = 300 from by decide] at hc2
        rw [Int32.le_iff_toInt_le, show (299 : Int32).toInt = 299 from by decide]
        omega
      rw [show b2i false = (0 : Int32) from rfl, if_neg (show ¬ (0 : Int32) = 1 by decide), if_pos (rfl : (0 : Int32) = 0), if_neg Bool.false_ne_true, if_pos (rfl : nI (cnt (thr (u 11 p 0) (u 14 p)) 8) = _), if_pos (rfl : (0 : Int32) = 0), xb_ok, if_pos hw, nm_u, nI_1]
  | succ d ih1 =>
    intro z m hz hm
    obtain ⟨m', rfl, h'⟩ := fuel hm
    have ih2 := ih1 (z + 1) m' (by omega) (h' d rfl)
    show f_L_isSound_L163b N ih (f_L_isSound_L163 N ih m') _ _ _ _ u = _
    unfold f_L_isSound_L163b
    have ho := (h.p p hp).2.2 z (by omega)
    rw [if_neg (lge8 (y := z) (by omega)), f_off h.c0 hp (by omega) h.n12, xb_ok, nm_u, if_pos (mabs_le ho), f_off h.c0 hp (by omega) h.n12, xb_ok, nm_u, ofPan0 (n := 3) h.c0 (by omega) (by decide) h.n12, xb_ok]
    by_cases hc : (6 + 2 * u 11 p 0) < mabs (u 14 p z)
    · rw [if_pos hc, nm_u, nm_u, nI_1, Int32.add_zero]
      have e : cnt (thr (u 11 p 0) (u 14 p)) (z + 1) = cnt (thr (u 11 p 0) (u 14 p)) z := by
        show cnt _ z + (if thr (u 11 p 0) (u 14 p) z then 1 else 0) = _
        rw [if_neg (by unfold thr; simp [hc])]
        rfl
      rw [e] at ih2
      exact ih2
    · rw [if_neg hc, nm_u, nm_u, nI_1, nI_1]
      have e : cnt (thr (u 11 p 0) (u 14 p)) (z + 1) = cnt (thr (u 11 p 0) (u 14 p)) z + 1 := by
        show cnt _ z + (if thr (u 11 p 0) (u 14 p) z then 1 else 0) = _
        rw [if_pos (by unfold thr; simp [hc])]
      rw [e] at ih2
      exact ih2
theorem iss_pans (h : Inv N u) : ∀ (d p m : Nat), p + d = 4 → d < m → ∃ w, f_L_isSound_L153 N m (nI p) (nI (cnt (snd u) 6)) u = some (.ok 1, w) ∧ E u w := by
  intro d
  induction d with
  | zero =>
    intro p m hp hm
    obtain ⟨m', rfl, -⟩ := fuel hm
    obtain rfl : p = 4 := by omega
    exact iss_end h
  | succ d ih =>
    intro p m hp hm
    obtain ⟨m', rfl, h'⟩ := fuel hm
    obtain ⟨w, e1, e2⟩ := ih (p + 1) m' (by omega) (h' d rfl)
    refine ⟨w, ?_, e2⟩
    show f_L_isSound_L153b N (f_L_isSound_L153 N m') _ _ u = _
    unfold f_L_isSound_L153b
    generalize hF : (1000000 : Nat) = F
    rw [if_neg (show ¬ (4 : Int32) ≤ nI p from nI_ge (b := 4) (by omega) (by decide))]
    exact (iss_notes h (by omega) 8 0 F rfl (by omega)).trans e1
theorem iss_mem (h : Inv N u) {k : Nat} (hk : k < 6) {y1 : Int32} {ih : Int32 → Int32 → St → Option (Except String Int32 × St)} : ∀ (d z m : Nat), z + d = 6 → d < m → f_L_isSound_L80 N ih m (nI z) y1 (nI k) u = ih (nI (k + 1)) y1 u := by
  intro d
  induction d with
  | zero =>
    intro z m hz hm
    obtain ⟨m', rfl, -⟩ := fuel hm
    show f_L_isSound_L80b N ih (f_L_isSound_L80 N ih m') _ _ _ u = _
    unfold f_L_isSound_L80b
    obtain rfl : z = 6 := by omega
    rw [if_pos (by decide), nm_u, nI_1]
  | succ d ih1 =>
    intro z m hz hm
    obtain ⟨m', rfl, h'⟩ := fuel hm
    have ih2 := ih1 (z + 1) m' (by omega) (h' d rfl)
    show f_L_isSound_L80b N ih (f_L_isSound_L80 N ih m') _ _ _ u = _
    unfold f_L_isSound_L80b
    have hm := (h.m k hk z (by omega)).1
    have hn : ¬ u 40 k z < 0 := by rw [Int32.lt_iff_toInt_lt, show (0 : Int32).toInt = 0 from rfl]; have := hm.1; omega
    have hx : u 40 k z ≤ most (u 22 z 0) (u 32 k 0) := Int32.le_iff_toInt_le.mpr hm.2
    rw [if_neg (show ¬ (6 : Int32) ≤ nI z from nI_ge (b := 6) (by omega) (by decide)), ofPhr2 h.c1 (by omega) h.n14, xb_ok, f_bc, sb_some, ofPly2 h.c2 hk h.n15, xb_ok]
    unfold most at hx
    unfold f_L_isSound_B113
    by_cases hc : bc (u 22 z 0) ≤ u 32 k 0
    · rw [if_pos hc] at hx ⊢
      rw [f_mem h.c2 h.c1 hk (by omega), xb_ok, if_neg hn, f_mem h.c2 h.c1 hk (by omega), xb_ok, if_pos hx, nm_u, nI_1]
      exact ih2
    · rw [if_neg hc] at hx ⊢
      rw [f_mem h.c2 h.c1 hk (by omega), xb_ok, if_neg hn, f_mem h.c2 h.c1 hk (by omega), xb_ok, if_pos hx, nm_u, nI_1]
      exact ih2
theorem iss_l (h : Inv N u) : ∀ (d k m : Nat), k + d = 6 → d < m → ∃ w, f_L_isSound_L4 N m (nI k) (nI (cnt (snd u) k)) u = some (.ok 1, w) ∧ E u w := by
  intro d
  induction d with
  | zero =>
    intro k m hk hm
    obtain ⟨m', rfl, -⟩ := fuel hm
    obtain rfl : k = 6 := by omega
    obtain ⟨w, e1, e2⟩ := iss_pans h 4 0 1000000 rfl (by omega)
    refine ⟨w, ?_, e2⟩
    show f_L_isSound_L4b N (f_L_isSound_L4 N m') (nI 6) (nI (cnt (snd u) 6)) u = _
    unfold f_L_isSound_L4b
    generalize hF : (1000000 : Nat) = F at e1 ⊢
    rw [if_pos (by decide)]
    exact e1
  | succ d ih =>
    intro k m hk hm
    obtain ⟨m', rfl, h'⟩ := fuel hm
    obtain ⟨w, e1, e2⟩ := ih (k + 1) m' (by omega) (h' d rfl)
    refine ⟨w, ?_, e2⟩
    have hk6 : k < 6 := by omega
    have h4 : k % 4 < 4 := Nat.mod_lt _ (by decide)
    have key : f_L_isSound_B40 N (f_L_isSound_L4 N m') (nI k) (nI (cnt (snd u) k)) (b2i (snd u k)) u = some (.ok 1, w) := by
      unfold f_L_isSound_B40
      rw [ofPly5 h.c2 hk6 h.n15 h.n12 (h.h33 k hk6), xb_ok]
      have e3 : cnt (snd u) (k + 1) = cnt (snd u) k + if snd u k then 1 else 0 := rfl
      unfold f_L_isSound_B57
      generalize hF : (1000000 : Nat) = F
      cases hs : snd u k with
      | true =>
        rw [hs, if_pos rfl] at e3
        rw [show b2i true = 1 from rfl, if_pos rfl, if_pos rfl, if_neg (by decide), nm_u, nI_1, ← e3]
        exact (iss_mem h hk6 6 0 F rfl (by omega)).trans e1
      | false =>
        rw [hs, if_neg Bool.false_ne_true] at e3
        rw [show b2i false = 0 from rfl, if_neg (by decide), if_pos rfl, if_pos rfl, nm_u, Int32.add_zero]
        rw [e3] at e1
        exact (iss_mem h hk6 6 0 F rfl (by omega)).trans e1
    show f_L_isSound_L4b N (f_L_isSound_L4 N m') _ _ u = _
    unfold f_L_isSound_L4b
    generalize hF : (1000000 : Nat) = F
    rw [if_neg (show ¬ (6 : Int32) ≤ nI k from nI_ge (b := 6) (by omega) (by decide)), ofPly3 h.c2 hk6 h.n15 h.n12 (h.h33 k hk6) (h.p _ h4).1, xb_ok, ofPly4 h.c2 hk6 h.n15, xb_ok, ib0]
    unfold snd at key
    by_cases ha : u 34 k 0 = 0
    · rw [if_neg (by simp [ha]), ofPan2 h.c0 h4 h.n12, xb_ok, ib0]
      rw [decide_eq_true ha] at key
      cases hc : crk (u 12 (k % 4) 0) with
      | true => rw [hc] at key; rw [if_pos rfl]; exact key
      | false => rw [hc] at key; rw [if_neg Bool.false_ne_true]; exact key
    · rw [if_pos (by simp [ha])]
      rw [decide_eq_false ha] at key
      exact key
theorem isSound_ok (h : Inv N u) : ∃ w, f_L_isSound N u = some (.ok 1, w) ∧ E u w := by
  obtain ⟨w, e1, e2⟩ := iss_l h 6 0 1000000 rfl (by omega)
  refine ⟨w, ?_, e2⟩
  unfold f_L_isSound
  generalize hF : (1000000 : Nat) = F at e1 ⊢
  exact e1
theorem b802 (h : Inv N u) : ∃ w, f_L_step_B802 N u = some (.ok 1, w) ∧ Inv N w := by
  obtain ⟨w, e1, e2⟩ := isSound_ok h
  refine ⟨w, ?_, h.E e2⟩
  unfold f_L_step_B802
  rw [e1, xb_ok, if_neg (by decide)]
end ISS
