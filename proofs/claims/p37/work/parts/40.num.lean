/-! 40: numbers: what the meanings come to -/
section BASE
variable {α β : Type}
theorem nm_u {α β : Sort _} (e : α) (f : α → β) : nm e f = f e := rfl
theorem lge8 {y : Nat} (h : y < 8) : ¬ (8 : Int32) ≤ nI y := nI_ge (b := 8) h (by decide)
theorem sb_some {x : α} {u : St} {f : α → St → Option β} : sb (some (x, u)) f = f x u := rfl
theorem xb_ok {x : α} {u : St} {f : α → St → Option (Except String β × St)} : xb (some (.ok x, u)) f = f x u := rfl
theorem xb_er {E : String} {u : St} {f : α → St → Option (Except String β × St)} : xb (some (.error E, u)) f = some (.error E, u) := rfl
theorem oc_none {a : Option α} {b : Nat → Option α} : oc none a b = a := rfl
theorem oc_some {a : Option α} {b : Nat → Option α} {q : Nat} : oc (some q) a b = b q := rfl
theorem gt1 {c : Prop} [Decidable c] {x : Option α} (h : c) : gd c x = x := if_pos h
theorem lp_s {T : Type} (z : T) (b : T → T) (n : Nat) : lp z b (n + 1) = b (lp z b n) := rfl
theorem fuel {n d : Nat} (h : d < n) : ∃ n', n = n' + 1 ∧ (∀ d', d = d' + 1 → d' < n') := ⟨n - 1, by omega, fun d' e => by omega⟩
end BASE
def win (x a b : Int32) : Int32 := if x < a then 0 else if b < x then 0 else 1
theorem fwi (N : Nt) (u : St) (x a b : Int32) : f_X7_isWithin N u x a b = some (win x a b, u) := by
  unfold f_X7_isWithin win
  split
  · rfl
  · split <;> rfl
theorem win_1 {x a b : Int32} (h1 : a.toInt ≤ x.toInt) (h2 : x.toInt ≤ b.toInt) : win x a b = 1 := by
  unfold win
  rw [if_neg (by rw [Int32.lt_iff_toInt_lt]; omega), if_neg (by rw [Int32.lt_iff_toInt_lt]; omega)]
theorem win_0 {x a b : Int32} (h : x.toInt < a.toInt ∨ b.toInt < x.toInt) : win x a b = 0 := by
  unfold win
  by_cases h1 : x < a
  · rw [if_pos h1]
  · rw [if_neg h1]
    rw [Int32.lt_iff_toInt_lt] at h1
    rw [if_pos (by rw [Int32.lt_iff_toInt_lt]; omega)]
def hld (x a b : Int32) : Int32 := if a ≤ x then if x ≤ b then x else b else a
theorem fheld (N : Nt) (u : St) (x a b : Int32) : f_X7_held N u x a b = some (hld x a b, u) := by
  unfold f_X7_held hld
  split
  · split <;> rfl
  · rfl
theorem hld_b {x a b : Int32} (h : a.toInt ≤ b.toInt) : a.toInt ≤ (hld x a b).toInt ∧ (hld x a b).toInt ≤ b.toInt := by
  unfold hld
  by_cases h1 : a ≤ x
  · rw [if_pos h1]
    by_cases h2 : x ≤ b
    · rw [if_pos h2]; exact ⟨Int32.le_iff_toInt_le.mp h1, Int32.le_iff_toInt_le.mp h2⟩
    · rw [if_neg h2]; exact ⟨h, Int.le_refl _⟩
  · rw [if_neg h1]; exact ⟨Int.le_refl _, h⟩
theorem nI_lit (n : Nat) : nI n = Int32.ofNat n := rfl
theorem ix_nI {n : Nat} (h : n < 2 ^ 31) : ix (nI n) = n := nI_clamp h
theorem inb_nI {n k : Nat} (h : n < k) (hk : k < 2 ^ 31) : inb (nI n) k := by
  show 0 ≤ (nI n).toInt ∧ (nI n).toInt < k
  rw [nI_toInt (by omega)]
  omega
theorem and_nn (v : Int32) : ¬ (v &&& 2147483647) < 0 := by
  rw [Int32.lt_iff_toInt_lt]
  have h : (v &&& 2147483647).toBitVec.msb = false := by
    rw [Int32.toBitVec_and, BitVec.msb_and]
    have : (2147483647 : Int32).toBitVec.msb = false := by decide +kernel
    rw [this, Bool.and_false]
  rw [BitVec.msb_eq_toInt] at h
  exact of_decide_eq_false h
/-- below: one of n -/
theorem below_ok (v : Int32) {n : Int32} {k : Nat} (hn : n = nI k) (h0 : 0 < k) (h : k < 2 ^ 31) : ∃ p, p < k ∧ ∀ (N : Nt) (u : St), f_L_below N u v n = some (nI p, u) := by
  obtain ⟨a, ha, e⟩ := nI_of (and_nn v)
  refine ⟨a % k, Nat.mod_lt _ h0, fun N u => ?_⟩
  unfold f_L_below
  rw [gt1 (by rw [hn]; exact nI_ne0 h0 h)]
  simp only [nm_u]
  unfold irem
  rw [e, hn, pk_rem ha h0 h]
theorem irem_nI {a d : Nat} (ha : a < 2 ^ 31) (h0 : 0 < d) (hd : d < 2 ^ 31) : irem (nI a) (nI d) = nI (a % d) := pk_rem ha h0 hd
theorem sset_ap {u : St} {f k j a b c : Nat} {x : Int32} : sset u f k j x a b c = if a = f ∧ b = k ∧ c = j then x else u a b c := rfl
/-! pans -/
def nit (c : Nat → Bool) : Nat → Int32
  | 0 => 0
  | j + 1 => if c j then nit c j ||| (1 <<< (nI j &&& 31)) else nit c j
def thr (fam : Int32) (o : Nat → Int32) (j : Nat) : Bool := decide (¬ (6 + 2 * fam) < mabs (o j))
def nitm (fam : Int32) (o : Nat → Int32) : Int32 := nit (thr fam o) 8
theorem f_nit_l {N : Nt} {u : St} {k : Nat} {fam : Int32} : ∀ (d y n : Nat), y + d = 8 → d < n → f_X3_notesInTune_L14 N k n (nI y) (nit (thr fam (u 14 k)) y) (6 + 2 * fam) u = some (nit (thr fam (u 14 k)) 8, u) := by
  intro d
  induction d with
  | zero =>
    intro y n hy hn
    obtain ⟨n', rfl, -⟩ := fuel hn
    show f_X3_notesInTune_L14b N k (f_X3_notesInTune_L14 N k n') _ _ _ u = _
    unfold f_X3_notesInTune_L14b
    obtain rfl : y = 8 := by omega
    rw [if_pos (by decide)]
  | succ d ih =>
    intro y n hy hn
    obtain ⟨n', rfl, h'⟩ := fuel hn
    show f_X3_notesInTune_L14b N k (f_X3_notesInTune_L14 N k n') _ _ _ u = _
    unfold f_X3_notesInTune_L14b
    rw [if_neg (lge8 (y := y) (by omega)), gt1 (inb_nI (by omega) (by decide)), ix_nI (by omega)]
    simp only [nm_u, nI_1]
    have ih' := ih (y + 1) n' (by omega) (h' d rfl)
    by_cases hc : (6 + 2 * fam) < mabs (u 14 k y)
    · rw [if_pos hc]
      have e : nit (thr fam (u 14 k)) (y + 1) = nit (thr fam (u 14 k)) y := if_neg (by unfold thr; simp [hc])
      rw [e] at ih'
      exact ih'
    · rw [if_neg hc]
      have e : nit (thr fam (u 14 k)) (y + 1) = nit (thr fam (u 14 k)) y ||| (1 <<< (nI y &&& 31)) := if_pos (by unfold thr; simp [hc])
      rw [e] at ih'
      exact ih'
theorem f_nit {N : Nt} {u : St} {k : Nat} : f_X3_notesInTune N u k = some (nitm (u 11 k 0) (u 14 k), u) := by
  unfold f_X3_notesInTune
  generalize hF : (1000000 : Nat) = F
  rw [nm_u]
  exact f_nit_l 8 0 F rfl (by omega)
def b2i (b : Bool) : Int32 := if b then 1 else 0
theorem ib0 {α : Type} {x y : α} (b : Bool) : (if b2i b = 0 then x else y) = (if b = true then y else x) := by cases b <;> rfl
def crk (w : Int32) : Bool := decide (¬ w < 300)
theorem f_crk {N : Nt} {u : St} {k : Nat} : f_X3_isCracked N u k = some (b2i (crk (u 12 k 0)), u) := by
  unfold f_X3_isCracked crk
  by_cases h : u 12 k 0 < 300
  · rw [if_pos h, decide_eq_false (fun q => q h)]; rfl
  · rw [if_neg h, decide_eq_true h]; rfl
def nds (fam w : Int32) (o : Nat → Int32) : Bool := !crk w && decide (nitm fam o ≠ 255)
theorem f_nds {N : Nt} {u : St} {k : Nat} : f_X3_needsTuner N u k = some (b2i (nds (u 11 k 0) (u 12 k 0) (u 14 k)), u) := by
  unfold f_X3_needsTuner nds
  rw [f_crk, sb_some, ib0]
  cases hc : crk (u 12 k 0) with
  | true => rfl
  | false =>
    rw [if_neg Bool.false_ne_true, f_nit, sb_some]
    by_cases h : nitm (u 11 k 0) (u 14 k) = 255
    · rw [if_pos h, decide_eq_false (fun q => q h)]; rfl
    · rw [if_neg h, decide_eq_true h]; rfl
/-- a pan's heat, blows and notes, anew -/
def setP (u : St) (k : Nat) (w b : Int32) (o : Nat → Int32) : St := fun f a i => if a = k then (if f = 12 ∧ i = 0 then w else if f = 13 ∧ i = 0 then b else if f = 14 then o i else u f a i) else u f a i
section SP
variable {u : St} {k k' f a i : Nat} {w b w' b' : Int32} {o o' : Nat → Int32}
theorem setP_k (h : a ≠ k) : setP u k w b o f a i = u f a i := if_neg h
theorem setP_kf (h : a ≠ k) : setP u k w b o f a = u f a := funext fun i => setP_k h
theorem setP_f (h1 : f ≠ 12) (h2 : f ≠ 13) (h3 : f ≠ 14) : setP u k w b o f = u f := funext fun a => funext fun i => by simp [setP, h1, h2, h3]
theorem setP_12 : setP u k w b o 12 k 0 = w := by simp [setP]
theorem setP_13 : setP u k w b o 13 k 0 = b := by simp [setP]
theorem setP_14 : setP u k w b o 14 k = o := funext fun i => by simp [setP]
theorem setP_2 : setP (setP u k w b o) k w' b' o' = setP u k w' b' o' := funext fun f => funext fun a => funext fun i => by
  unfold setP
  by_cases h : a = k
  · simp only [if_pos h]
    by_cases h1 : f = 12 ∧ i = 0
    · simp only [if_pos h1]
    · simp only [if_neg h1]
      by_cases h2 : f = 13 ∧ i = 0
      · simp only [if_pos h2]
      · simp only [if_neg h2]
        by_cases h3 : f = 14
        · simp only [if_pos h3]
        · simp only [if_neg h3]
  · simp only [if_neg h]
theorem setP_id : setP u k (u 12 k 0) (u 13 k 0) (u 14 k) = u := funext fun f => funext fun a => funext fun i => by
  unfold setP
  by_cases h : a = k
  · subst h
    rw [if_pos rfl]
    by_cases h1 : f = 12 ∧ i = 0
    · rw [if_pos h1, h1.1, h1.2]
    · rw [if_neg h1]
      by_cases h2 : f = 13 ∧ i = 0
      · rw [if_pos h2, h2.1, h2.2]
      · rw [if_neg h2]
        by_cases h3 : f = 14
        · rw [if_pos h3, h3]
        · rw [if_neg h3]
  · rw [if_neg h]
theorem sset_14 {j : Nat} {x : Int32} : sset u 14 k j x = setP u k (u 12 k 0) (u 13 k 0) (upd (u 14 k) j x) := funext fun f => funext fun a => funext fun i => by
  unfold sset setP upd
  by_cases h : a = k
  · subst h
    rw [if_pos rfl]
    by_cases h3 : f = 14
    · subst h3
      by_cases hi : i = j <;> simp [hi]
    · rw [if_neg (fun q => h3 q.1)]
      by_cases h1 : f = 12 ∧ i = 0
      · rw [if_pos h1, h1.1, h1.2]
      · rw [if_neg h1]
        by_cases h2 : f = 13 ∧ i = 0
        · rw [if_pos h2, h2.1, h2.2]
        · rw [if_neg h2, if_neg h3]
  · rw [if_neg h, if_neg (fun q => h q.2.1)]
theorem sset_12 {x : Int32} : sset (setP u k w b o) 12 k 0 x = setP u k x b o := funext fun f => funext fun a => funext fun i => by
  unfold sset setP
  by_cases h : a = k
  · subst h
    by_cases h1 : f = 12 ∧ i = 0
    · simp [h1]
    · rw [if_neg (fun q => h1 ⟨q.1, q.2.2⟩)]
      simp only [if_pos, if_neg h1]
  · rw [if_neg h, if_neg (fun q => h q.2.1), if_neg h]
theorem sset_13 {x : Int32} : sset (setP u k w b o) 13 k 0 x = setP u k w x o := funext fun f => funext fun a => funext fun i => by
  unfold sset setP
  by_cases h : a = k
  · subst h
    by_cases h1 : f = 13 ∧ i = 0
    · simp [h1]
    · rw [if_neg (fun q => h1 ⟨q.1, q.2.2⟩)]
      simp only [if_pos, if_neg h1]
  · rw [if_neg h, if_neg (fun q => h q.2.1), if_neg h]
end SP
def shO (o : Nat → Int32) (j : Nat) (d : Int32) : Nat → Int32 := upd o j (hld (o j + d) (-99) 99)
theorem f_shift {N : Nt} {u : St} {k j : Nat} {w b d : Int32} {o : Nat → Int32} (h : j < 8) : f_X3_shift N (setP u k w b o) k (nI j) d = some ((), setP u k w b (shO o j d)) := by
  unfold f_X3_shift
  rw [gt1 (inb_nI h (by decide)), fheld, sb_some, ix_nI (by omega)]
  simp only [nm_u]
  rw [sset_14, setP_12, setP_13, setP_14, setP_2]
  rfl
def strO (o : Nat → Int32) (j : Nat) (x : Int32) : Nat → Int32 := shO (shO (shO o j x) ((j + 1) % 8) (-(x / 4))) ((j + 7) % 8) (-(x / 4))
theorem f_strike {N : Nt} {u : St} {k j : Nat} {w b x : Int32} {o : Nat → Int32} (h : j < 8) : f_X3_strike N (setP u k w b o) k (nI j) x = some ((), setP u k (w + mabs x) (b + 1) (strO o j x)) := by
  unfold f_X3_strike
  have e1 : irem (nI j + 1) 8 = nI ((j + 1) % 8) := by rw [nI_1]; exact irem_nI (d := 8) (by omega) (by decide) (by decide)
  have e2 : irem ((nI j + 8) - 1) 8 = nI ((j + 7) % 8) := by
    have : nI j + 8 = nI (j + 7 + 1) := nI_add j 8
    rw [this, nI_pred]
    exact irem_nI (d := 8) (by omega) (by decide) (by decide)
  simp only [nm_u]
  rw [f_shift h, sb_some, e1, f_shift (Nat.mod_lt _ (by decide)), sb_some, e2, f_shift (Nat.mod_lt _ (by decide)), sb_some, setP_12, sset_12, setP_13, sset_13]
  rfl
