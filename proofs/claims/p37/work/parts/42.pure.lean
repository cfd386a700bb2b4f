/-! 42: the yard of the law: what holds of it; plain questions -/
def bt (x : Int32) (a b : Int) : Prop := a ≤ x.toInt ∧ x.toInt ≤ b
def most (notes reach : Int32) : Int32 := if bc notes ≤ reach then 100 else 70
abbrev F3 := Nat → Nat → Int32
def IC (f0 f1 f2 f4 f64 : F3) : Prop := f0 0 0 = 4 ∧ f1 0 0 = 6 ∧ f2 0 0 = 6 ∧ f4 0 0 = 0 ∧ f64 0 0 = 3
def IP (f10 f11 f14 : F3) : Prop := ∀ p, p < 4 → f10 p 0 = nI p ∧ bt (f11 p 0) 0 3 ∧ okO (f14 p)
def IR (f20 f21 f22 : F3) : Prop := ∀ j, j < 6 → bt (f20 j 0) 0 3 ∧ bt (f21 j 0) 1 9 ∧ bt (f22 j 0) 1 255
def IY (f30 f31 f32 f33 f34 : F3) : Prop := ∀ k, k < 6 → bt (f30 k 0) 0 3 ∧ bt (f31 k 0) 1 9 ∧ bt (f32 k 0) 1 8 ∧ f33 k 0 = nI (k % 4) ∧ (f34 k 0 = 0 ∨ f34 k 0 = 1)
def IM (f40 f20 f30 f22 f32 : F3) : Prop := ∀ k, k < 6 → ∀ j, j < 6 → bt (f40 k j) 0 (most (f22 j 0) (f32 k 0)).toInt ∧ (¬ f20 j 0 = f30 k 0 → f40 k j = 0)
def IO (f42 f43 : F3) : Prop := ∃ n, n ≤ 10 ∧ f43 0 0 = nI n ∧ ∀ i, i < n → ∃ q, q < 6 ∧ f42 0 i = nI q
def IG (f53 f65 f66 : F3) : Prop := ∃ r, r ≤ 3 ∧ f65 0 0 = nI r ∧ (f66 0 0 = 0 ∨ f66 0 0 = 1) ∧ (¬ f53 0 0 = 0 → 1 ≤ r)
def Inv (N : Nt) (u : St) : Prop := N 12 = 4 ∧ N 14 = 6 ∧ N 15 = 6 ∧ IC (u 0) (u 1) (u 2) (u 4) (u 64) ∧ IP (u 10) (u 11) (u 14) ∧ IR (u 20) (u 21) (u 22) ∧ IY (u 30) (u 31) (u 32) (u 33) (u 34) ∧ IM (u 40) (u 20) (u 30) (u 22) (u 32) ∧ IO (u 42) (u 43) ∧ IG (u 53) (u 65) (u 66)
section INV
variable {N : Nt} {u : St}
theorem Inv.n12 (h : Inv N u) : N 12 = 4 := h.1
theorem Inv.n14 (h : Inv N u) : N 14 = 6 := h.2.1
theorem Inv.n15 (h : Inv N u) : N 15 = 6 := h.2.2.1
theorem Inv.c (h : Inv N u) : IC (u 0) (u 1) (u 2) (u 4) (u 64) := h.2.2.2.1
theorem Inv.p (h : Inv N u) : IP (u 10) (u 11) (u 14) := h.2.2.2.2.1
theorem Inv.r (h : Inv N u) : IR (u 20) (u 21) (u 22) := h.2.2.2.2.2.1
theorem Inv.y (h : Inv N u) : IY (u 30) (u 31) (u 32) (u 33) (u 34) := h.2.2.2.2.2.2.1
theorem Inv.m (h : Inv N u) : IM (u 40) (u 20) (u 30) (u 22) (u 32) := h.2.2.2.2.2.2.2.1
theorem Inv.o (h : Inv N u) : IO (u 42) (u 43) := h.2.2.2.2.2.2.2.2.1
theorem Inv.g (h : Inv N u) : IG (u 53) (u 65) (u 66) := h.2.2.2.2.2.2.2.2.2
theorem Inv.c0 (h : Inv N u) : u 0 0 0 = 4 := h.c.1
theorem Inv.c1 (h : Inv N u) : u 1 0 0 = 6 := h.c.2.1
theorem Inv.c2 (h : Inv N u) : u 2 0 0 = 6 := h.c.2.2.1
theorem Inv.h33 (h : Inv N u) : ∀ k, k < 6 → u 33 k 0 = nI (k % 4) := fun k hk => (h.y k hk).2.2.2.1
end INV
theorem bt_nI {n : Nat} {a b : Int} (h : n < 1000) (h1 : a ≤ n) (h2 : (n : Int) ≤ b) : bt (nI n) a b := by
  unfold bt; rw [nI_toInt (by omega)]; exact ⟨h1, h2⟩
theorem bt_of {x : Int32} {a b : Nat} (h : bt x a b) : ∃ n, a ≤ n ∧ n ≤ b ∧ x = nI n := by
  obtain ⟨n, hn, rfl⟩ := nI_of (x := x) (by rw [Int32.lt_iff_toInt_lt]; show ¬ x.toInt < 0; have := h.1; omega)
  have h1 := h.1; have h2 := h.2
  rw [nI_toInt hn] at h1 h2
  exact ⟨n, by omega, by omega, rfl⟩
section Q1
variable {N : Nt} {u : St} {n p j k : Nat} {x : Int32}
theorem win_n {a b p : Nat} (h1 : a ≤ p) (h2 : p ≤ b) (hb : b < 1000) : win (nI p) (nI a) (nI b) = 1 := win_1 (by rw [nI_toInt (by omega), nI_toInt (by omega)]; omega) (by rw [nI_toInt (by omega), nI_toInt (by omega)]; omega)
theorem win_z {b p : Nat} (h2 : p ≤ b) (hb : b < 1000) : win (nI p) 0 (nI b) = 1 := win_n (a := 0) (Nat.zero_le _) h2 hb
theorem rqPan (h : u 0 0 0 = nI (n + 1)) (hp : p ≤ n) (hn : n < 900) : f_X7_requirePan N u (nI p) = some (.ok (), u) := by
  unfold f_X7_requirePan
  rw [fwi, sb_some, h, nI_pred, win_z hp (by omega), if_neg (by decide)]
theorem rqPhr (h : u 1 0 0 = nI (n + 1)) (hp : p ≤ n) (hn : n < 900) : f_X7_requirePhrase N u (nI p) = some (.ok (), u) := by
  unfold f_X7_requirePhrase
  rw [fwi, sb_some, h, nI_pred, win_z hp (by omega), if_neg (by decide)]
theorem rqPly (h : u 2 0 0 = nI (n + 1)) (hp : p ≤ n) (hn : n < 900) : f_X7_requirePlayer N u (nI p) = some (.ok (), u) := by
  unfold f_X7_requirePlayer
  rw [fwi, sb_some, h, nI_pred, win_z hp (by omega), if_neg (by decide)]
theorem rqPlc (h : u 43 0 0 = nI (n + 1)) (hp : p ≤ n) (hn : n < 900) : f_X7_requirePlace N u (nI p) = some (.ok (), u) := by
  unfold f_X7_requirePlace
  rw [fwi, sb_some, h, nI_pred, win_z hp (by omega), if_neg (by decide)]
theorem rqNote (h : j < 8) : f_X7_requireNote N u (nI j) = some (.ok (), u) := by
  unfold f_X7_requireNote
  rw [fwi, sb_some, show win (nI j) 0 7 = 1 from win_z (b := 7) (by omega) (by omega), if_neg (by decide)]
theorem rqSec (h : bt x 0 3) : f_X7_requireSection N u x = some (.ok (), u) := by
  unfold f_X7_requireSection
  rw [fwi, sb_some, win_1 (a := 0) (b := 3) h.1 h.2, if_neg (by decide)]
theorem rqWhole (hp : p < 4) (h12 : N 12 = 4) (hw : crk (u 12 p 0) = false) : f_X7_requireWhole N u (nI p) = some (.ok (), u) := by
  unfold f_X7_requireWhole
  rw [gt1 (inb_nI (by omega) (by decide)), ix_nI (by omega), gt1 (by omega), f_crk, sb_some, hw]
  rfl
theorem ofPan0 (h : u 0 0 0 = nI (n + 1)) (hp : p ≤ n) (hn : n < 6) (h12 : N 12 = n + 1) : f_X7_ofPan N u (nI p) 0 = some (.ok (u 11 p 0), u) := by
  unfold f_X7_ofPan
  rw [rqPan h hp (by omega), xb_ok, gt1 (inb_nI (by omega) (by decide)), ix_nI (by omega), gt1 (by omega), if_pos rfl]
theorem ofPan1 (h : u 0 0 0 = 4) (hp : p < 4) (h12 : N 12 = 4) : f_X7_ofPan N u (nI p) 1 = some (.ok (u 12 p 0), u) := by
  unfold f_X7_ofPan
  rw [rqPan (n := 3) h (by omega) (by omega), xb_ok, gt1 (inb_nI (by omega) (by decide)), ix_nI (by omega), gt1 (by omega), if_neg (by decide), if_pos rfl]
theorem ofPan2 (h : u 0 0 0 = 4) (hp : p < 4) (h12 : N 12 = 4) : f_X7_ofPan N u (nI p) 2 = some (.ok (b2i (crk (u 12 p 0))), u) := by
  unfold f_X7_ofPan
  rw [rqPan (n := 3) h (by omega) (by omega), xb_ok, gt1 (inb_nI (by omega) (by decide)), ix_nI (by omega), gt1 (by omega), if_neg (by decide), if_neg (by decide), if_pos rfl, f_crk, sb_some]
  cases crk (u 12 p 0) <;> rfl
theorem ofPan3 (h : u 0 0 0 = 4) (hp : p < 4) (h12 : N 12 = 4) : f_X7_ofPan N u (nI p) 3 = some (.ok (nI (grd (u 11 p 0) (u 12 p 0) (u 14 p))), u) := by
  unfold f_X7_ofPan
  rw [rqPan (n := 3) h (by omega) (by omega), xb_ok, gt1 (inb_nI (by omega) (by decide)), ix_nI (by omega), gt1 (by omega), if_neg (by decide), if_neg (by decide), if_neg (by decide), if_pos rfl, f_grd, sb_some]
theorem ofPan4 (h : u 0 0 0 = 4) (hp : p < 4) (h12 : N 12 = 4) : f_X7_ofPan N u (nI p) 4 = some (.ok (u 13 p 0), u) := by
  unfold f_X7_ofPan
  rw [rqPan (n := 3) h (by omega) (by omega), xb_ok, gt1 (inb_nI (by omega) (by decide)), ix_nI (by omega), gt1 (by omega), if_neg (by decide), if_neg (by decide), if_neg (by decide), if_neg (by decide), if_pos rfl]
theorem f_off (h : u 0 0 0 = 4) (hp : p < 4) (hj : j < 8) (h12 : N 12 = 4) : f_X7_off N u (nI p) (nI j) = some (.ok (u 14 p j), u) := by
  unfold f_X7_off
  rw [rqPan (n := 3) h (by omega) (by omega), xb_ok, rqNote hj, xb_ok, gt1 (inb_nI (by omega) (by decide)), ix_nI (by omega), gt1 (by omega), gt1 (inb_nI (by omega) (by decide)), ix_nI (by omega)]
theorem ofPhr0 (h : u 1 0 0 = 6) (hj : j < 6) (h14 : N 14 = 6) : f_X7_ofPhrase N u (nI j) 0 = some (.ok (u 20 j 0), u) := by
  unfold f_X7_ofPhrase
  rw [rqPhr (n := 5) h (by omega) (by omega), xb_ok, gt1 (inb_nI (by omega) (by decide)), ix_nI (by omega), gt1 (by omega), if_pos rfl]
theorem ofPhr1 (h : u 1 0 0 = 6) (hj : j < 6) (h14 : N 14 = 6) : f_X7_ofPhrase N u (nI j) 1 = some (.ok (u 21 j 0), u) := by
  unfold f_X7_ofPhrase
  rw [rqPhr (n := 5) h (by omega) (by omega), xb_ok, gt1 (inb_nI (by omega) (by decide)), ix_nI (by omega), gt1 (by omega), if_neg (by decide), if_pos rfl]
theorem ofPhr2 (h : u 1 0 0 = 6) (hj : j < 6) (h14 : N 14 = 6) : f_X7_ofPhrase N u (nI j) 2 = some (.ok (u 22 j 0), u) := by
  unfold f_X7_ofPhrase
  rw [rqPhr (n := 5) h (by omega) (by omega), xb_ok, gt1 (inb_nI (by omega) (by decide)), ix_nI (by omega), gt1 (by omega), if_neg (by decide), if_neg (by decide), if_pos rfl]
theorem ofPhr3 (h : u 1 0 0 = 6) (hj : j < 6) (h14 : N 14 = 6) : f_X7_ofPhrase N u (nI j) 3 = some (.ok (u 23 j 0), u) := by
  unfold f_X7_ofPhrase
  rw [rqPhr (n := 5) h (by omega) (by omega), xb_ok, gt1 (inb_nI (by omega) (by decide)), ix_nI (by omega), gt1 (by omega), if_neg (by decide), if_neg (by decide), if_neg (by decide), if_pos rfl]
theorem f_mem (h2 : u 2 0 0 = 6) (h1 : u 1 0 0 = 6) (hk : k < 6) (hj : j < 6) : f_X7_memory N u (nI k) (nI j) = some (.ok (u 40 k j), u) := by
  unfold f_X7_memory
  rw [rqPly (n := 5) h2 (by omega) (by omega), xb_ok, rqPhr (n := 5) h1 (by omega) (by omega), xb_ok, gt1 (inb_nI (by omega) (by decide)), ix_nI (by omega), gt1 (inb_nI (by omega) (by decide)), ix_nI (by omega), Nat.mul_zero, Nat.zero_add]
theorem ofPly0 (h : u 2 0 0 = 6) (hk : k < 6) (h15 : N 15 = 6) : f_X7_ofPlayer N u (nI k) 0 = some (.ok (u 30 k 0), u) := by
  unfold f_X7_ofPlayer
  rw [rqPly (n := 5) h (by omega) (by omega), xb_ok, gt1 (inb_nI (by omega) (by decide)), ix_nI (by omega), gt1 (by omega), if_pos rfl]
theorem ofPly1 (h : u 2 0 0 = 6) (hk : k < 6) (h15 : N 15 = 6) : f_X7_ofPlayer N u (nI k) 1 = some (.ok (u 31 k 0), u) := by
  unfold f_X7_ofPlayer
  rw [rqPly (n := 5) h (by omega) (by omega), xb_ok, gt1 (inb_nI (by omega) (by decide)), ix_nI (by omega), gt1 (by omega), if_neg (by decide), if_pos rfl]
theorem ofPly2 (h : u 2 0 0 = 6) (hk : k < 6) (h15 : N 15 = 6) : f_X7_ofPlayer N u (nI k) 2 = some (.ok (u 32 k 0), u) := by
  unfold f_X7_ofPlayer
  rw [rqPly (n := 5) h (by omega) (by omega), xb_ok, gt1 (inb_nI (by omega) (by decide)), ix_nI (by omega), gt1 (by omega), if_neg (by decide), if_neg (by decide), if_pos rfl]
theorem ofPly6 (h : u 2 0 0 = 6) (hk : k < 6) (h15 : N 15 = 6) : f_X7_ofPlayer N u (nI k) 6 = some (.ok (u 35 k 0), u) := by
  unfold f_X7_ofPlayer
  rw [rqPly (n := 5) h (by omega) (by omega), xb_ok, gt1 (inb_nI (by omega) (by decide)), ix_nI (by omega), gt1 (by omega), if_neg (by decide), if_neg (by decide), if_neg (by decide), if_neg (by decide), if_neg (by decide), if_neg (by decide), if_pos rfl]
theorem ofPly4 (h : u 2 0 0 = 6) (hk : k < 6) (h15 : N 15 = 6) : f_X7_ofPlayer N u (nI k) 4 = some (.ok (b2i (decide (¬ u 34 k 0 = 0))), u) := by
  unfold f_X7_ofPlayer
  rw [rqPly (n := 5) h (by omega) (by omega), xb_ok, gt1 (inb_nI (by omega) (by decide)), ix_nI (by omega), gt1 (by omega), if_neg (by decide), if_neg (by decide), if_neg (by decide), if_neg (by decide), if_pos rfl]
  by_cases hc : u 34 k 0 = 0
  · rw [if_pos hc, decide_eq_false (fun q => q hc)]; rfl
  · rw [if_neg hc, decide_eq_true hc]; rfl
theorem ppan_k (h12 : N 12 = 4) (h33 : u 33 k 0 = nI (k % 4)) : ppan N u k = some (k % 4) := by
  have h4 : k % 4 < 4 := Nat.mod_lt _ (by decide)
  unfold ppan
  rw [h33, ix_nI (by omega), nI_toInt (by omega), if_pos (by omega)]
theorem panNo (h12 : N 12 = 4) (h33 : u 33 k 0 = nI (k % 4)) (h10 : u 10 (k % 4) 0 = nI (k % 4)) : f_X5_panNumber N u k = some (nI (k % 4), u) := by
  unfold f_X5_panNumber
  rw [ppan_k h12 h33, oc_some, h10]
theorem ofPly3 (h : u 2 0 0 = 6) (hk : k < 6) (h15 : N 15 = 6) (h12 : N 12 = 4) (h33 : u 33 k 0 = nI (k % 4)) (h10 : u 10 (k % 4) 0 = nI (k % 4)) : f_X7_ofPlayer N u (nI k) 3 = some (.ok (nI (k % 4)), u) := by
  unfold f_X7_ofPlayer
  rw [rqPly (n := 5) h (by omega) (by omega), xb_ok, gt1 (inb_nI (by omega) (by decide)), ix_nI (by omega), gt1 (by omega), if_neg (by decide), if_neg (by decide), if_neg (by decide), if_pos rfl, panNo h12 h33 h10, sb_some]
/-- does the player sound -/
def snd (u : St) (k : Nat) : Bool := decide (u 34 k 0 = 0) && !crk (u 12 (k % 4) 0)
theorem f_snd (h12 : N 12 = 4) (h33 : u 33 k 0 = nI (k % 4)) : f_X5_soundingPan N u k = some (if snd u k then some (k % 4) else none, u) := by
  unfold f_X5_soundingPan snd
  rw [ppan_k h12 h33]
  by_cases h : u 34 k 0 = 0
  · rw [if_pos h, oc_some, f_crk, sb_some, decide_eq_true h, ib0]
    cases hc : crk (u 12 (k % 4) 0) with
    | true => rfl
    | false =>
      rw [if_neg Bool.false_ne_true, ppan_k h12 h33]
      rfl
  · rw [if_neg h, decide_eq_false h]
    rfl
theorem ofPly5 (h : u 2 0 0 = 6) (hk : k < 6) (h15 : N 15 = 6) (h12 : N 12 = 4) (h33 : u 33 k 0 = nI (k % 4)) : f_X7_ofPlayer N u (nI k) 5 = some (.ok (b2i (snd u k)), u) := by
  unfold f_X7_ofPlayer
  rw [rqPly (n := 5) h (by omega) (by omega), xb_ok, gt1 (inb_nI (by omega) (by decide)), ix_nI (by omega), gt1 (by omega), if_neg (by decide), if_neg (by decide), if_neg (by decide), if_neg (by decide), if_neg (by decide), if_pos rfl, f_snd h12 h33, sb_some]
  cases snd u k with
  | true =>
    show gd (vPan N (k % 4)) _ = _
    rw [gt1 (Or.inl (by rw [h12]; exact Nat.mod_lt _ (by decide)))]
    rfl
  | false => rfl
theorem sndCount_l (h2 : u 2 0 0 = 6) (h15 : N 15 = 6) (h12 : N 12 = 4) (h33 : ∀ k, k < 6 → u 33 k 0 = nI (k % 4)) : ∀ (d y n : Nat) (a : Nat), y + d = 6 → d < n → f_X7_soundingCount_L4 N n (nI y) (nI a) u = some (nI (a + (cnt (snd u) 6 - cnt (snd u) y)), u) := by
  intro d
  induction d with
  | zero =>
    intro y n a hy hn
    obtain ⟨n', rfl, -⟩ := fuel hn
    show f_X7_soundingCount_L4b N (f_X7_soundingCount_L4 N n') _ _ u = _
    unfold f_X7_soundingCount_L4b
    obtain rfl : y = 6 := by omega
    rw [h2, if_pos (by decide), Nat.sub_self, Nat.add_zero]
  | succ d ih =>
    intro y n a hy hn
    obtain ⟨n', rfl, h'⟩ := fuel hn
    show f_X7_soundingCount_L4b N (f_X7_soundingCount_L4 N n') _ _ u = _
    unfold f_X7_soundingCount_L4b
    have hm : ∀ (d y : Nat), y + d = 6 → cnt (snd u) y ≤ cnt (snd u) 6 := by
      intro d
      induction d with
      | zero => intro y hy; rw [show y = 6 by omega]; exact Nat.le_refl _
      | succ d ih => intro y hy; exact Nat.le_trans (show cnt (snd u) y ≤ cnt (snd u) y + _ from Nat.le_add_right _ _) (ih (y + 1) (by omega))
    have hm1 := hm d (y + 1) (by omega)
    have e1 : cnt (snd u) (y + 1) = cnt (snd u) y + if snd u y then 1 else 0 := rfl
    rw [h2, if_neg (show ¬ (6 : Int32) ≤ nI y from nI_ge (b := 6) (by omega) (by decide)), gt1 (inb_nI (by omega) (by decide)), ix_nI (by omega), gt1 (by omega), f_snd h12 (h33 y (by omega)), sb_some]
    cases hs : snd u y with
    | true =>
      rw [hs, if_pos rfl] at e1
      rw [if_pos rfl, oc_some, gt1 (Or.inl (by rw [h12]; exact Nat.mod_lt _ (by decide)))]
      rw [nm_u, nm_u, nI_1, nI_1, ih (y + 1) n' (a + 1) (by omega) (h' d rfl), show a + 1 + (cnt (snd u) 6 - cnt (snd u) (y + 1)) = a + (cnt (snd u) 6 - cnt (snd u) y) from by omega]
    | false =>
      rw [hs, if_neg Bool.false_ne_true] at e1
      rw [if_neg Bool.false_ne_true, oc_none]
      rw [nm_u, nI_1, ih (y + 1) n' a (by omega) (h' d rfl), e1, Nat.add_zero]
theorem sndCount (h2 : u 2 0 0 = 6) (h15 : N 15 = 6) (h12 : N 12 = 4) (h33 : ∀ k, k < 6 → u 33 k 0 = nI (k % 4)) : f_X7_soundingCount N u = some (nI (cnt (snd u) 6), u) := by
  unfold f_X7_soundingCount
  generalize hF : (1000000 : Nat) = F
  have h := sndCount_l h2 h15 h12 h33 6 0 F 0 rfl (by omega)
  rw [Nat.zero_add] at h
  exact h
end Q1
