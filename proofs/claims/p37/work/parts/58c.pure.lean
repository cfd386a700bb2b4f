/-! 58c: bestOrder: the loops -/
section BO2
variable {N : Nt} {u v w : St} {n : Nat}
def cpO (u : St) : St := fun f k i => if f = 42 ∧ k = 1 ∧ i < 10 then u 42 0 i else if f = 43 ∧ k = 1 ∧ i = 0 then u 43 0 0 else u f k i
theorem f_cpO : f_X0_copyFrom N u 1 0 = some ((), cpO u) := by
  have e : sset (scpy u 42 0 1 10) 43 1 0 ((scpy u 42 0 1 10) 43 0 0) = cpO u := funext fun f => funext fun k => funext fun i => by
    unfold sset scpy cpO
    by_cases h1 : f = 43 ∧ k = 1 ∧ i = 0
    · obtain ⟨rfl, rfl, rfl⟩ := h1
      rw [if_pos ⟨rfl, rfl, rfl⟩, if_neg (fun q => by omega), if_neg (fun q => by omega), if_pos ⟨rfl, rfl, rfl⟩]
    · rw [if_neg h1, if_neg h1]
  unfold f_X0_copyFrom
  rw [nm_u, nm_u, e]
theorem cpO_E : E u (cpO u) := fun f k i h => by
  unfold mk at h
  unfold cpO
  rw [if_neg (fun q => by omega), if_neg (fun q => by omega)]
theorem cpO_43 : cpO u 43 1 0 = u 43 0 0 := by
  unfold cpO
  rw [if_neg (fun q => by omega), if_pos ⟨rfl, rfl, rfl⟩]
theorem cpO_42 {i : Nat} (h : i < 10) : cpO u 42 1 i = u 42 0 i := if_pos ⟨rfl, rfl, h⟩
theorem cpO_70 : cpO u 70 = u 70 := funext fun k => funext fun i => by
  unfold cpO
  rw [if_neg (fun q => by omega), if_neg (fun q => by omega)]
theorem setO1_id : setO1 u (u 42 1) = u := funext fun f => funext fun k => funext fun i => by
  unfold setO1
  by_cases h : f = 42 ∧ k = 1
  · rw [if_pos h, h.1, h.2]
  · rw [if_neg h]
theorem f_shuf (h10 : n ≤ 10) (h43 : u 43 1 0 = nI n) {a : Nat} (ha : a < 2 ^ 31) : f_X0_shuffle N u 1 (nI a) = some ((), setO1 u (shufG n n 0 a (u 42 1))) := by
  have h := f_shuf_l (N := N) (u := u) h10 h43 n 0 1000000 a (u 42 1) (by omega) (by omega) ha
  rw [setO1_id] at h
  unfold f_X0_shuffle
  generalize hF : (1000000 : Nat) = F at h ⊢
  exact h
/-- what is heard of the a-th order -/
def hA (u : St) (n a : Nat) : Int32 := hrd (u 21) (lev u (mms u 0)) (shufG n n 0 a (u 42 0)) n
theorem okS (o : OK1 u 0 n) (a : Nat) : okOd n (shufG n n 0 a (u 42 0)) := shufG_ok n 0 a _ (by omega) o.2.2
theorem hA_n (h : Inv N u) (o : OK1 u 0 n) (a : Nat) : ∃ A : Nat, hA u n a = nI A ∧ A ≤ 300 := by
  obtain ⟨w, hw⟩ : ∃ w, w = setO1 (cpO u) (shufG n n 0 a (u 42 0)) := ⟨_, rfl⟩
  have e : E u w := by rw [hw]; exact cpO_E.trans setO1_E
  have e42 : w 42 1 = shufG n n 0 a (u 42 0) := by rw [hw]; exact setO1_42
  have o1 : OK1 w 1 n := ⟨o.1, by rw [hw, setO1_f (by decide), cpO_43]; exact o.2.1, by rw [e42]; exact okS o a⟩
  obtain ⟨a, a', l, l', h1, h2, h3, h4, h5, h6, h7, h8⟩ := marks_n (h.E e) o1 (mm_b (h.E e))
  obtain ⟨V, v1, v2⟩ := vry_n (hd := w 21) (od := w 42 1) (n := n)
  rw [lvv_E e, f21_E e, e42] at h1 h3
  rw [f21_E e, e42] at v1
  unfold hA hrd
  rw [h1, h3, v1, nI_add, nI_add]
  exact ⟨_, rfl, by omega⟩
/-- the levels weighed -/
def LW (u w : St) : Prop := E u w ∧ ∀ q, q < 6 → w 70 0 q = lev u (mms u 0) q
theorem f_ho (h : Inv N u) (o : OK1 u 0 n) {a : Nat} (ha : a < 2 ^ 31) {β : Type} {g : Int32 → St → Option β} (hw : LW u w) : ∃ w3, (sb (f_X0_copyFrom N w 1 0) fun _ u13 => sb (f_X0_shuffle N u13 1 (nI a)) fun _ u16 => sb (f_X7_heard N u16 1) g) = g (hA u n a) w3 ∧ LW u w3 := by
  obtain ⟨e, hl⟩ := hw
  have h10 := o.1
  have c43 : cpO w 43 1 0 = nI n := by rw [cpO_43, e.at (f := 43) (by unfold mk; omega)]; exact o.2.1
  have c42 : ∀ i, i < n → cpO w 42 1 i = u 42 0 i := fun i hi => by rw [cpO_42 (by omega), f42_E e]
  obtain ⟨w3, hw3⟩ : ∃ w3, w3 = setO1 (cpO w) (shufG n n 0 a (cpO w 42 1)) := ⟨_, rfl⟩
  have e3 : E u w3 := by rw [hw3]; exact (e.trans cpO_E).trans setO1_E
  have e42 : w3 42 1 = shufG n n 0 a (cpO w 42 1) := by rw [hw3]; exact setO1_42
  have o3 : OK1 w3 1 n := by
    refine ⟨h10, by rw [hw3, setO1_f (by decide)]; exact c43, ?_⟩
    rw [e42]
    exact shufG_ok n 0 a _ (by omega) (fun i hi => by rw [c42 i hi]; exact o.2.2 i hi)
  have e70 : w3 70 = w 70 := by rw [hw3, setO1_f (by decide), cpO_70]
  have eh : hrd (w3 21) (w3 70 0) (w3 42 1) n = hA u n a := by
    rw [f21_E e3, e42, e70]
    exact hrd_c (okS o a) hl (fun i hi => shufG_c n 0 a _ _ (by omega) c42 i hi)
  refine ⟨w3, ?_, e3, fun q hq => by rw [e70]; exact hl q hq⟩
  rw [f_cpO, sb_some, f_shuf h10 c43 ha, sb_some, ← hw3, f_heard (h.E e3) o3, sb_some, eh]
def boG (u : St) (n : Nat) : Nat → Nat → Int32 → Int32
  | 0, _, b => b
  | d + 1, a, b => boG u n d (a + 1) (mmax b (hA u n a))
theorem f_bo_l (h : Inv N u) (o : OK1 u 0 n) {P : Nat} (hP : P ≤ 120) : ∀ (d a m : Nat) (b : Int32) (w : St), a + d = P → d < m → LW u w → ∃ w', f_X7_bestOrder_L56 N m (nI a) b (nI P) w = some (.ok (tone u + boG u n d a b), w') ∧ E u w' := by
  intro d
  induction d with
  | zero =>
    intro a m b w ha hm hw
    obtain ⟨m', rfl, -⟩ := fuel hm
    refine ⟨w, ?_, hw.1⟩
    show f_X7_bestOrder_L56b N (f_X7_bestOrder_L56 N m') _ _ _ w = _
    unfold f_X7_bestOrder_L56b boG
    obtain rfl : a = P := by omega
    rw [if_pos (Int32.le_refl _), f_tone (h.E hw.1), sb_some, tone_E hw.1]
  | succ d ih =>
    intro a m b w ha hm hw
    obtain ⟨m', rfl, h'⟩ := fuel hm
    obtain ⟨w3, e3, hw3⟩ := f_ho h o (a := a) (by omega) (g := fun r17 u19 => nm (mmax b r17) fun v20 => nm (nI a + 1) fun v21 => f_X7_bestOrder_L56 N m' v21 v20 (nI P) u19) hw
    obtain ⟨w', e1, e2⟩ := ih (a + 1) m' (mmax b (hA u n a)) w3 (by omega) (h' d rfl) hw3
    refine ⟨w', ?_, e2⟩
    show f_X7_bestOrder_L56b N (f_X7_bestOrder_L56 N m') _ _ _ w = _
    unfold f_X7_bestOrder_L56b boG
    rw [if_neg (nI_ge (by omega) (by omega)), e3, nm_u, nm_u, nI_1]
    exact e1
theorem mmax_n {a b : Nat} (ha : a < 1000) (hb : b < 1000) : mmax (nI a) (nI b) = nI (max a b) := by
  unfold mmax
  by_cases h : a < b
  · rw [if_pos (nI_lt h (by omega)), Nat.max_eq_right (by omega)]
  · rw [if_neg (nI_nlt (by omega) (by omega)), Nat.max_eq_left (by omega)]
theorem boG_n (h : Inv N u) (o : OK1 u 0 n) : ∀ (d a B : Nat), B ≤ 300 → ∃ B', boG u n d a (nI B) = nI B' ∧ B ≤ B' ∧ B' ≤ 300 := by
  intro d
  induction d with
  | zero => intro a B hB; exact ⟨B, rfl, Nat.le_refl _, hB⟩
  | succ d ih =>
    intro a B hB
    obtain ⟨A, e, hA⟩ := hA_n h o a
    obtain ⟨B', h1, h2, h3⟩ := ih (a + 1) (max B A) (by omega)
    unfold boG
    rw [e, mmax_n (by omega) (by omega)]
    exact ⟨B', h1, by omega, h3⟩
theorem boG_ge (h : Inv N u) (o : OK1 u 0 n) {d : Nat} (hd : 1 ≤ d) : ∃ A B : Nat, hA u n 0 = nI A ∧ boG u n d 0 0 = nI B ∧ A ≤ B ∧ B ≤ 300 := by
  obtain ⟨d, rfl⟩ : ∃ d', d = d' + 1 := ⟨d - 1, by omega⟩
  obtain ⟨A, e, hAle⟩ := hA_n h o 0
  obtain ⟨B', h1, h2, h3⟩ := boG_n h o d 1 (max 0 A) (by omega)
  refine ⟨A, B', e, ?_, by omega, h3⟩
  show boG u n d 1 (mmax (nI 0) (hA u n 0)) = _
  rw [e, mmax_n (by omega) (by omega)]
  exact h1
/-- how many orders -/
def prG : Nat → Nat → Nat → Nat
  | 0, _, P => P
  | d + 1, y, P => prG d (y + 1) (P * y)
theorem f_pr_l : ∀ (d y m P : Nat), y + d = n + 1 ∨ (d = 0 ∧ n < y) → y + d < 100 → d < m → f_X7_bestOrder_L28 N m (nI y) (nI P) (nI n) v = sb (f_X7_weigh N v 0) fun _ u6 => f_X7_bestOrder_L56 N 1000000 0 0 (nI (prG d y P)) u6 := by
  intro d
  induction d with
  | zero =>
    intro y m P hy hb hm
    obtain ⟨m', rfl, -⟩ := fuel hm
    show f_X7_bestOrder_L28b N (f_X7_bestOrder_L28 N m') _ _ _ v = _
    unfold f_X7_bestOrder_L28b prG
    generalize hF : (1000000 : Nat) = F
    rw [if_pos (nI_lt (by omega) (by omega))]
  | succ d ih =>
    intro y m P hy hb hm
    obtain ⟨m', rfl, h'⟩ := fuel hm
    have h1 := ih (y + 1) m' (P * y) (by omega) (by omega) (h' d rfl)
    show f_X7_bestOrder_L28b N (f_X7_bestOrder_L28 N m') _ _ _ v = _
    unfold f_X7_bestOrder_L28b prG
    generalize hF : (1000000 : Nat) = F at h1 ⊢
    rw [if_neg (nI_nlt (by omega) (by omega)), nm_u, nm_u, pk_mul, nI_1]
    exact h1
theorem prG_b : ∀ n, n < 6 → 1 ≤ prG (n - 1) 2 1 ∧ prG (n - 1) 2 1 ≤ 120 := by decide
def boR (u : St) (n : Nat) : Int32 := tone u + boG u n (prG (n - 1) 2 1) 0 0
theorem f_bo (h : Inv N u) (o : OK1 u 0 n) (h5 : n ≤ 5) (e : E u v) : ∃ w, f_X7_bestOrder N v = some (.ok (boR u n), w) ∧ E u w := by
  have hv := h.E e
  have e43 : v 43 0 0 = nI n := (o.E0 e).2.1
  obtain ⟨p1, p2⟩ := prG_b n (by omega)
  have hw : LW u (setL v (lev v (mms v 0)) 6) := ⟨e.trans setL_E, fun q hq => by rw [setL_70 hq, lvv_E e]⟩
  obtain ⟨w', e1, e2⟩ := f_bo_l h o p2 (prG (n - 1) 2 1) 0 1000000 0 _ (by omega) (by omega) hw
  have e3 := f_pr_l (N := N) (v := v) (n := n) (n - 1) 2 1000000 1 (by omega) (by omega) (by omega)
  refine ⟨w', ?_, e2⟩
  unfold f_X7_bestOrder boR
  generalize hF : (1000000 : Nat) = F at e1 e3 ⊢
  rw [nm_u, e43, if_pos (show nI n ≤ (5 : Int32) from nI_le (b := 5) h5 (by decide))]
  refine Eq.trans e3 ?_
  rw [f_weigh hv, sb_some]
  exact e1
theorem bo_ge (h : Inv N u) (o : OK1 u 0 n) (h5 : n ≤ 5) : ∃ T B : Nat, totV u (mms u 0) n = nI T ∧ boR u n = nI B ∧ T ≤ B ∧ B ≤ 1000 := by
  obtain ⟨p1, p2⟩ := prG_b n (by omega)
  obtain ⟨A, B, h1, h2, h3, h4⟩ := boG_ge h o p1
  obtain ⟨T, t1, t2⟩ := tone_n (u := u)
  have e : hrd (u 21) (lev u (mms u 0)) (u 42 0) n = nI A := by
    rw [← h1]
    unfold hA
    rw [shufG_0]
  unfold totV boR
  rw [e, h2, t1, nI_add, nI_add]
  exact ⟨_, _, rfl, rfl, by omega, by omega⟩
end BO2
