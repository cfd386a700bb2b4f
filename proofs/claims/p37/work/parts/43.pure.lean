/-! 43: what sounds -/
def mk (f k _i : Nat) : Prop := f = 70 ∨ ((f = 11 ∨ f = 12 ∨ f = 13 ∨ f = 14) ∧ k = 6) ∨ ((f = 41 ∨ f = 42 ∨ f = 43) ∧ k = 1) ∨ (f = 40 ∧ 8 ≤ k)
/-- alike, but for what is tried out -/
def E (u v : St) : Prop := ∀ f k i, ¬ mk f k i → v f k i = u f k i
theorem E.refl {u : St} : E u u := fun _ _ _ _ => rfl
theorem E.symm {u v : St} (h : E u v) : E v u := fun f k i q => (h f k i q).symm
theorem E.trans {u v w : St} (h : E u v) (h2 : E v w) : E u w := fun f k i q => (h2 f k i q).trans (h f k i q)
theorem E.at {u v : St} (h : E u v) {f k i : Nat} (q : ¬ mk f k i) : v f k i = u f k i := h f k i q
theorem E.row {u v : St} (h : E u v) {f k : Nat} (q : ∀ i, ¬ mk f k i) : v f k = u f k := funext fun i => h f k i (q i)
theorem Inv.E {N : Nt} {u v : St} (h : Inv N u) (e : E u v) : Inv N v := by
  refine ⟨h.n12, h.n14, h.n15, ⟨?_, ?_, ?_, ?_, ?_⟩, fun p hp => ?_, fun j hj => ?_, fun k hk => ?_, fun k hk j hj => ?_, ?_, ?_⟩
  · rw [e.at (by unfold mk; omega)]; exact h.c.1
  · rw [e.at (by unfold mk; omega)]; exact h.c.2.1
  · rw [e.at (by unfold mk; omega)]; exact h.c.2.2.1
  · rw [e.at (by unfold mk; omega)]; exact h.c.2.2.2.1
  · rw [e.at (by unfold mk; omega)]; exact h.c.2.2.2.2
  · rw [e.at (f := 10) (by unfold mk; omega), e.at (f := 11) (by unfold mk; omega), e.row (f := 14) (fun i => by unfold mk; omega)]; exact h.p p hp
  · rw [e.at (f := 20) (by unfold mk; omega), e.at (f := 21) (by unfold mk; omega), e.at (f := 22) (by unfold mk; omega)]; exact h.r j hj
  · rw [e.at (f := 30) (by unfold mk; omega), e.at (f := 31) (by unfold mk; omega), e.at (f := 32) (by unfold mk; omega), e.at (f := 33) (by unfold mk; omega), e.at (f := 34) (by unfold mk; omega)]; exact h.y k hk
  · rw [e.at (f := 40) (by unfold mk; omega), e.at (f := 20) (by unfold mk; omega), e.at (f := 30) (by unfold mk; omega), e.at (f := 22) (by unfold mk; omega), e.at (f := 32) (by unfold mk; omega)]; exact h.m k hk j hj
  · obtain ⟨n, h1, h2, h3⟩ := h.o
    exact ⟨n, h1, (e.at (by unfold mk; omega)).trans h2, fun i hi => by rw [e.at (f := 42) (by unfold mk; omega)]; exact h3 i hi⟩
  · obtain ⟨r, h1, h2, h3, h4⟩ := h.g
    exact ⟨r, h1, (e.at (by unfold mk; omega)).trans h2, by rw [e.at (f := 66) (by unfold mk; omega)]; exact h3, by rw [e.at (f := 53) (by unfold mk; omega)]; exact h4⟩
theorem snd_E {u v : St} {k : Nat} (e : E u v) : snd v k = snd u k := by
  have h4 : k % 4 < 4 := Nat.mod_lt _ (by decide)
  unfold snd
  rw [e.at (f := 34) (by unfold mk; omega), e.at (f := 12) (by unfold mk; omega)]
/-! levels -/
def lvx (u : St) (mm : F3) (j y : Nat) : Int32 := (mm y j * bc (nitm (u 11 (y % 4) 0) (u 14 (y % 4)) &&& u 22 j 0)) / bc (u 22 j 0)
def lvG (u : St) (mm : F3) (j : Nat) : Nat → Nat → Int32 → Int32 → Int32
  | 0, _, c, s => if c = 0 then 0 else s / c
  | d + 1, y, c, s => if snd u y = true ∧ u 30 y 0 = u 20 j 0 then lvG u mm j d (y + 1) (c + 1) (s + lvx u mm j y) else lvG u mm j d (y + 1) c s
def lev (u : St) (mm : F3) (j : Nat) : Int32 := lvG u mm j 6 0 0 0
def mms (u : St) (k2 : Nat) : F3 := fun a b => u 40 (8 * k2 + a) b
theorem lvx_E {u v : St} {mm : F3} {j y : Nat} (e : E u v) : lvx v mm j y = lvx u mm j y := by
  have h4 : y % 4 < 4 := Nat.mod_lt _ (by decide)
  unfold lvx
  rw [e.at (f := 11) (by unfold mk; omega), e.row (f := 14) (fun i => by unfold mk; omega), e.at (f := 22) (by unfold mk; omega)]
theorem lvG_E {u v : St} {mm : F3} {j : Nat} (e : E u v) : ∀ (d y : Nat) (c s : Int32), lvG v mm j d y c s = lvG u mm j d y c s := by
  intro d
  induction d with
  | zero => intro y c s; rfl
  | succ d ih =>
    intro y c s
    unfold lvG
    rw [snd_E e, e.at (f := 30) (by unfold mk; omega), e.at (f := 20) (by unfold mk; omega), lvx_E e, ih, ih]
theorem lev_E {u v : St} {mm : F3} {j : Nat} (e : E u v) : lev v mm j = lev u mm j := lvG_E e 6 0 0 0
section SND
variable {N : Nt} {u v : St} {k2 j : Nat}
theorem bc_ne (h : Inv N u) (hj : j < 6) : ¬ bc (u 22 j 0) = 0 := by
  obtain ⟨a, b, h1, -, -, h2, h3⟩ := bc_part (x := u 22 j 0) (fun _ => true) (h.r j hj).2.2.1 (h.r j hj).2.2.2
  rw [h1]
  exact nI_ne0 h2 (by omega)
theorem f_lev_l (h : Inv N u) (hj : j < 6) : ∀ (d y n : Nat) (c s : Int32), y + d = 6 → d < n → f_X7_levelOf_L16 N k2 n (nI y) c s j (nI j) u = some (lvG u (mms u k2) j d y c s, u) := by
  intro d
  induction d with
  | zero =>
    intro y n c s hy hn
    obtain ⟨n', rfl, -⟩ := fuel hn
    show f_X7_levelOf_L16b N k2 (f_X7_levelOf_L16 N k2 n') _ _ _ j _ u = _
    unfold f_X7_levelOf_L16b lvG
    obtain rfl : y = 6 := by omega
    rw [h.c2, if_pos (by decide)]
    by_cases hc : c = 0
    · rw [if_pos hc, if_pos hc]
    · rw [if_neg hc, if_neg hc, gt1 hc]
  | succ d ih =>
    intro y n c s hy hn
    obtain ⟨n', rfl, h'⟩ := fuel hn
    show f_X7_levelOf_L16b N k2 (f_X7_levelOf_L16 N k2 n') _ _ _ j _ u = _
    unfold f_X7_levelOf_L16b lvG
    rw [h.c2, if_neg (show ¬ (6 : Int32) ≤ nI y from nI_ge (b := 6) (by omega) (by decide)), gt1 (inb_nI (by omega) (by decide)), ix_nI (by omega), gt1 (by rw [h.n15]; omega), f_snd h.n12 (h.h33 y (by omega)), sb_some]
    cases hs : snd u y with
    | true =>
      rw [if_pos rfl, oc_some, gt1 (Or.inl (by rw [h.n12]; exact Nat.mod_lt _ (by decide)))]
      by_cases hq : u 30 y 0 = u 20 j 0
      · rw [if_pos hq, if_pos ⟨rfl, hq⟩, f_nit, sb_some, f_bc, sb_some, gt1 (inb_nI (by omega) (by decide))]
        unfold f_X4_noteCount
        rw [f_bc, sb_some, sb_some, gt1 (bc_ne h hj), ix_nI (by omega), nm_u, nm_u, nm_u, nI_1]
        exact ih (y + 1) n' _ _ (by omega) (h' d rfl)
      · rw [if_neg hq, if_neg (fun q => hq q.2), nm_u, nI_1]
        exact ih (y + 1) n' _ _ (by omega) (h' d rfl)
    | false =>
      rw [if_neg Bool.false_ne_true, oc_none, if_neg (fun q => Bool.false_ne_true q.1), nm_u, nI_1]
      exact ih (y + 1) n' _ _ (by omega) (h' d rfl)
theorem f_lev (h : Inv N u) (hj : j < 6) : f_X7_levelOf N u (nI j) k2 = some (lev u (mms u k2) j, u) := by
  unfold f_X7_levelOf
  generalize hF : (1000000 : Nat) = F
  rw [gt1 (inb_nI (by omega) (by decide)), ix_nI (by omega), gt1 (by rw [h.n14]; omega)]
  exact f_lev_l h hj 6 0 F 0 0 rfl (by omega)
/-- the levels weighed -/
def setL (u : St) (lv : Nat → Int32) (n : Nat) : St := fun f k i => if f = 70 ∧ k = 0 ∧ i < n then lv i else u f k i
theorem setL_E {lv : Nat → Int32} {n : Nat} : E u (setL u lv n) := fun f k i h => if_neg (fun q => h (Or.inl q.1))
theorem setL_f {lv : Nat → Int32} {n f : Nat} (h : f ≠ 70) : setL u lv n f = u f := funext fun k => funext fun i => if_neg (fun q => h q.1)
theorem setL_70 {lv : Nat → Int32} {n i : Nat} (h : i < n) : setL u lv n 70 0 i = lv i := if_pos ⟨rfl, rfl, h⟩
theorem setL_0 {lv : Nat → Int32} : setL u lv 0 = u := funext fun f => funext fun k => funext fun i => if_neg (fun q => Nat.not_lt_zero _ q.2.2)
theorem setL_s {lv : Nat → Int32} {n : Nat} : sset (setL u lv n) 70 0 n (lv n) = setL u lv (n + 1) := funext fun f => funext fun k => funext fun i => by
  unfold sset setL
  by_cases h : f = 70 ∧ k = 0
  · by_cases h1 : i = n
    · subst h1
      rw [if_pos ⟨h.1, h.2, rfl⟩, if_pos ⟨h.1, h.2, Nat.lt_succ_self _⟩]
    · rw [if_neg (fun q => h1 q.2.2)]
      by_cases h2 : i < n
      · rw [if_pos ⟨h.1, h.2, h2⟩, if_pos ⟨h.1, h.2, Nat.lt_succ_of_lt h2⟩]
      · rw [if_neg (fun q => h2 q.2.2), if_neg (fun q => h2 (by have := q.2.2; omega))]
  · rw [if_neg (fun q => h ⟨q.1, q.2.1⟩), if_neg (fun q => h ⟨q.1, q.2.1⟩), if_neg (fun q => h ⟨q.1, q.2.1⟩)]
theorem f_weigh_l (h : Inv N u) : ∀ (d y n : Nat), y + d = 6 → d < n → f_X7_weigh_L2 N k2 n (nI y) (setL u (lev u (mms u k2)) y) = some ((), setL u (lev u (mms u k2)) 6) := by
  intro d
  induction d with
  | zero =>
    intro y n hy hn
    obtain ⟨n', rfl, -⟩ := fuel hn
    show f_X7_weigh_L2b N k2 (f_X7_weigh_L2 N k2 n') _ _ = _
    unfold f_X7_weigh_L2b
    obtain rfl : y = 6 := by omega
    rw [setL_f (f := 1) (by decide), h.c1, if_pos (by decide)]
  | succ d ih =>
    intro y n hy hn
    obtain ⟨n', rfl, h'⟩ := fuel hn
    show f_X7_weigh_L2b N k2 (f_X7_weigh_L2 N k2 n') _ _ = _
    unfold f_X7_weigh_L2b
    have e : lev (setL u (lev u (mms u k2)) y) (mms (setL u (lev u (mms u k2)) y) k2) y = lev u (mms u k2) y := by
      rw [show mms (setL u (lev u (mms u k2)) y) k2 = mms u k2 from by unfold mms; rw [setL_f (f := 40) (by decide)], lev_E setL_E]
    rw [setL_f (f := 1) (by decide), h.c1, if_neg (show ¬ (6 : Int32) ≤ nI y from nI_ge (b := 6) (by omega) (by decide)), f_lev (h.E setL_E) (by omega), sb_some, gt1 (inb_nI (by omega) (by decide)), ix_nI (by omega), e, setL_s, nm_u, nm_u, nI_1]
    exact ih (y + 1) n' (by omega) (h' d rfl)
theorem f_weigh (h : Inv N u) : f_X7_weigh N u k2 = some ((), setL u (lev u (mms u k2)) 6) := by
  unfold f_X7_weigh
  generalize hF : (1000000 : Nat) = F
  have h1 := f_weigh_l (k2 := k2) h 6 0 F rfl (by omega)
  rw [setL_0] at h1
  exact h1
/-! tone -/
def tng (u : St) (y : Nat) : Int32 := nI (grd (u 11 (y % 4) 0) (u 12 (y % 4) 0) (u 14 (y % 4)))
def tnG (u : St) : Nat → Nat → Int32 → Int32 → Int32
  | 0, _, c, s => if c = 0 then 0 else (12 * s) / c
  | d + 1, y, c, s => if snd u y = true then tnG u d (y + 1) (c + 1) (s + tng u y) else tnG u d (y + 1) c s
def tone (u : St) : Int32 := tnG u 6 0 0 0
theorem tng_E {y : Nat} (e : E u v) : tng v y = tng u y := by
  have h4 : y % 4 < 4 := Nat.mod_lt _ (by decide)
  unfold tng
  rw [e.at (f := 11) (by unfold mk; omega), e.at (f := 12) (by unfold mk; omega), e.row (f := 14) (fun i => by unfold mk; omega)]
theorem tnG_E (e : E u v) : ∀ (d y : Nat) (c s : Int32), tnG v d y c s = tnG u d y c s := by
  intro d
  induction d with
  | zero => intro y c s; rfl
  | succ d ih =>
    intro y c s
    unfold tnG
    rw [snd_E e, tng_E e, ih, ih]
theorem tone_E (e : E u v) : tone v = tone u := tnG_E e 6 0 0 0
theorem f_tone_l (h : Inv N u) : ∀ (d y n : Nat) (c s : Int32), y + d = 6 → d < n → f_X7_tone_L6 N n (nI y) c s u = some (tnG u d y c s, u) := by
  intro d
  induction d with
  | zero =>
    intro y n c s hy hn
    obtain ⟨n', rfl, -⟩ := fuel hn
    show f_X7_tone_L6b N (f_X7_tone_L6 N n') _ _ _ u = _
    unfold f_X7_tone_L6b tnG
    obtain rfl : y = 6 := by omega
    rw [h.c2, if_pos (by decide)]
    by_cases hc : c = 0
    · rw [if_pos hc, if_pos hc]
    · rw [if_neg hc, if_neg hc, gt1 hc]
  | succ d ih =>
    intro y n c s hy hn
    obtain ⟨n', rfl, h'⟩ := fuel hn
    show f_X7_tone_L6b N (f_X7_tone_L6 N n') _ _ _ u = _
    unfold f_X7_tone_L6b tnG
    rw [h.c2, if_neg (show ¬ (6 : Int32) ≤ nI y from nI_ge (b := 6) (by omega) (by decide)), gt1 (inb_nI (by omega) (by decide)), ix_nI (by omega), gt1 (by rw [h.n15]; omega), f_snd h.n12 (h.h33 y (by omega)), sb_some]
    cases hs : snd u y with
    | true =>
      rw [if_pos rfl, oc_some, gt1 (Or.inl (by rw [h.n12]; exact Nat.mod_lt _ (by decide))), if_pos rfl, f_grd, sb_some, nm_u, nm_u, nm_u, nI_1]
      exact ih (y + 1) n' _ _ (by omega) (h' d rfl)
    | false =>
      rw [if_neg Bool.false_ne_true, oc_none, if_neg Bool.false_ne_true, nm_u, nI_1]
      exact ih (y + 1) n' _ _ (by omega) (h' d rfl)
theorem f_tone (h : Inv N u) : f_X7_tone N u = some (tone u, u) := by
  unfold f_X7_tone
  generalize hF : (1000000 : Nat) = F
  exact f_tone_l h 6 0 F 0 0 rfl (by omega)
end SND
