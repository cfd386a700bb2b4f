/-! 58: the mean of memories is no more than 100 -/
section MM
theorem mm_ar {c d S C a a' b b' E1 E2 P : Nat} (hS : c * 2 ^ a = S * 2 ^ a') (hC : d * 2 ^ b = C * 2 ^ b') (h : S ≤ 100 * C) (hE : E1 + a' + b = a + b' + P + E2) : c * 2 ^ E1 ≤ 100 * 2 ^ P * 2 ^ E2 * d := by
  refine Nat.le_of_mul_le_mul_right (c := 2 ^ (a' + b)) ?_ (Nat.two_pow_pos _)
  have e1 : c * 2 ^ E1 * 2 ^ (a' + b) = S * (2 ^ a' * 2 ^ (b' + P + E2)) := by
    rw [Nat.mul_assoc, ← Nat.pow_add, show E1 + (a' + b) = a + (b' + P + E2) from by omega, Nat.pow_add, ← Nat.mul_assoc, hS, Nat.mul_assoc]
  have e2 : 100 * 2 ^ P * 2 ^ E2 * d * 2 ^ (a' + b) = 100 * C * (2 ^ a' * 2 ^ (b' + P + E2)) := by
    rw [Nat.pow_add 2 a' b, Nat.pow_add 2 (b' + P) E2, Nat.pow_add 2 b' P, show 100 * 2 ^ P * 2 ^ E2 * d * (2 ^ a' * 2 ^ b) = 100 * (d * 2 ^ b) * (2 ^ a' * (2 ^ P * 2 ^ E2)) from by ac_rfl, hC]
    ac_rfl
  rw [e1, e2]
  exact Nat.mul_le_mul_right _ h
theorem mm_u : FP.Core.unitsOf FP.Core.b64 4636737291354636288 = 100 * 2 ^ 1074 := by decide +kernel
theorem mm_div {S C : Nat} (h0 : 0 < C) (hC : C < 2 ^ 31) (hS : S < 2 ^ 31) (h : S ≤ 100 * C) : (FP.ddiv (FP.i2d (nI S)) (FP.i2d (nI C))).toNat % 2 ^ 63 ≤ 4636737291354636288 := by
  have ha := FP.Core.i2d_int (nI S)
  have hb := FP.Core.i2d_int (nI C)
  rw [nI_toInt hS] at ha
  rw [nI_toInt hC] at hb
  have e := FP.Core.val64_ddiv (FP.i2d (nI S)) (FP.i2d (nI C))
  unfold FP.Core.DInt at ha hb
  rw [← FP.Core.mag_toNat64]
  generalize FP.Core.val64 (FP.Core.i2d (nI S)) = x at ha e
  generalize FP.Core.val64 (FP.Core.i2d (nI C)) = y at hb e
  cases x with
  | nan => exact ha.elim
  | inf s => exact ha.elim
  | fin s c q =>
    cases y with
    | nan => exact hb.elim
    | inf s => exact hb.elim
    | fin t d r =>
      have hd : ¬ d = 0 := fun q => by have := (FP.Core.whole_zero hb).mp q; omega
      have e1 := FP.Core.whole_natAbs ha
      have e2 := FP.Core.whole_natAbs hb
      rw [Int.natAbs_natCast] at e1 e2
      have e' : FP.Core.decode FP.Core.b64 (FP.ddiv (FP.i2d (nI S)) (FP.i2d (nI C))).toNat = FP.Core.roundRatio FP.Core.b64 (s != t) c d (q - r) := e.trans (if_neg hd)
      obtain ⟨e0, q1, q2⟩ : ∃ e0 : Int, e0 ≤ -1074 ∧ e0 ≤ q - r := ⟨-1074 - (q - r).natAbs, by omega, by omega⟩
      refine FP.Core.mag_le FP.Core.good_b64 (e0 := e0) e' (Nat.pos_of_ne_zero hd) (by rw [FP.Core.qmin_b64]; exact q1) q2 ?_
      rw [mm_u, FP.Core.qmin_b64]
      exact mm_ar e1 e2 h (by omega)
theorem mm_ok {S C : Nat} (h0 : 0 < C) (hC : C < 2 ^ 31) (hS : S < 2 ^ 31) (h : S ≤ 100 * C) : ((FP.ddiv (FP.i2d (nI S)) (FP.i2d (nI C))) &&& 0x7fffffffffffffff ≤ 0x7ff0000000000000) ∧ Op.cmpValue (FP.dcmp (FP.ddiv (FP.i2d (nI S)) (FP.i2d (nI C))) 4636737291354636288) .l ≤ 0 := by
  have hm := mm_div h0 hC hS h
  generalize FP.ddiv (FP.i2d (nI S)) (FP.i2d (nI C)) = x at hm
  have hn : FP.Core.val64 x ≠ .nan := (FP.Core.ne_nan x).mpr (by omega)
  refine ⟨?_, ?_⟩
  · rw [UInt64.le_iff_toNat_le, UInt64.toNat_and, show (0x7fffffffffffffff : UInt64).toNat = 2 ^ 63 - 1 from by decide, Nat.and_two_pow_sub_one_eq_mod, show (0x7ff0000000000000 : UInt64).toNat = 9218868437227405312 from by decide]
    omega
  · have hn2 : FP.Core.val64 4636737291354636288 ≠ .nan := (FP.Core.ne_nan _).mpr (by decide)
    rw [show FP.dcmp x 4636737291354636288 = some (compare (FP.Core.dkey x) (FP.Core.dkey 4636737291354636288)) from FP.Core.dcmp_key hn hn2]
    have hk : FP.Core.dkey x ≤ FP.Core.dkey 4636737291354636288 := by
      rw [show FP.Core.dkey 4636737291354636288 = 4636737291354636288 from by decide]
      unfold FP.Core.dkey
      split <;> omega
    cases hc : compare (FP.Core.dkey x) (FP.Core.dkey 4636737291354636288) with
    | gt => have := (FP.Core.compare_gt_iff _ _).mp hc; omega
    | eq => decide
    | lt => decide
end MM
section MN
variable {N : Nt} {u v : St}
def mmP (u : St) (o : Option (UInt64 × St)) : Prop := ∃ r, o = some (r, u) ∧ Op.cmpValue (FP.dcmp r 4636737291354636288) .l ≤ 0
theorem mm_i (h : Inv N u) {ih6 : Int32 → Int32 → Int32 → St → Option (UInt64 × St)} {i : Nat} (hi : i < 6) (hk : ∀ C S : Nat, C ≤ 6 * (i + 1) → S ≤ 100 * C → mmP u (ih6 (nI (i + 1)) (nI C) (nI S) u)) : ∀ (d y n C S : Nat), y + d = 6 → d < n → C ≤ 6 * i + y → S ≤ 100 * C → mmP u (f_X7_meanMemory_L17 N ih6 n (nI y) (nI i) (nI C) (nI S) u) := by
  intro d
  induction d with
  | zero =>
    intro y n C S hy hn hC hS
    obtain ⟨n', rfl, -⟩ := fuel hn
    show mmP u (f_X7_meanMemory_L17b N ih6 (f_X7_meanMemory_L17 N ih6 n') _ _ _ _ u)
    unfold f_X7_meanMemory_L17b
    obtain rfl : y = 6 := by omega
    rw [h.c1, if_pos (by decide), nm_u, nI_1]
    exact hk C S (by omega) hS
  | succ d ih =>
    intro y n C S hy hn hC hS
    obtain ⟨n', rfl, h'⟩ := fuel hn
    show mmP u (f_X7_meanMemory_L17b N ih6 (f_X7_meanMemory_L17 N ih6 n') _ _ _ _ u)
    unfold f_X7_meanMemory_L17b
    rw [h.c1, if_neg (show ¬ (6 : Int32) ≤ nI y from nI_ge (b := 6) (by omega) (by decide)), gt1 (inb_nI (by omega) (by decide)), ix_nI (by omega), gt1 (by rw [h.n15]; omega), gt1 (inb_nI (by omega) (by decide)), ix_nI (by omega), gt1 (by rw [h.n14]; omega)]
    by_cases hs : u 30 i 0 = u 20 y 0
    · obtain ⟨g, -, g1, -, -, g4⟩ := mm_b h i hi y (by omega)
      have g2 : u 40 (8 * 0 + i) y = nI g := g1
      rw [if_pos hs, g2, nm_u, nm_u, nm_u, nI_add, nI_1, nI_1]
      exact ih (y + 1) n' (C + 1) (S + g) (by omega) (h' d rfl) (by omega) (by omega)
    · rw [if_neg hs, nm_u, nI_1]
      exact ih (y + 1) n' C S (by omega) (h' d rfl) (by omega) hS
theorem mm_o (h : Inv N u) : ∀ (d i n C S : Nat), i + d = 6 → d < n → C ≤ 6 * i → S ≤ 100 * C → mmP u (f_X7_meanMemory_L6 N n (nI i) (nI C) (nI S) u) := by
  intro d
  induction d with
  | zero =>
    intro i n C S hi hn hC hS
    obtain ⟨n', rfl, -⟩ := fuel hn
    show mmP u (f_X7_meanMemory_L6b N (f_X7_meanMemory_L6 N n') _ _ _ u)
    unfold f_X7_meanMemory_L6b
    obtain rfl : i = 6 := by omega
    rw [h.c2, if_pos (by decide)]
    rcases Nat.eq_zero_or_pos C with h0 | h0
    · subst h0
      rw [if_pos (show nI 0 = 0 from rfl)]
      exact ⟨0, rfl, by decide +kernel⟩
    · obtain ⟨q1, q2⟩ := mm_ok (S := S) h0 (by omega) (by omega) hS
      rw [if_neg (nI_ne0 h0 (by omega)), gt1 q1]
      exact ⟨_, rfl, q2⟩
  | succ d ih =>
    intro i n C S hi hn hC hS
    obtain ⟨n', rfl, h'⟩ := fuel hn
    show mmP u (f_X7_meanMemory_L6b N (f_X7_meanMemory_L6 N n') _ _ _ u)
    unfold f_X7_meanMemory_L6b
    generalize hF : (1000000 : Nat) = F
    rw [h.c2, if_neg (show ¬ (6 : Int32) ≤ nI i from nI_ge (b := 6) (by omega) (by decide))]
    exact mm_i h (by omega) (fun C S q1 q2 => ih (i + 1) n' C S (by omega) (h' d rfl) q1 q2) 6 0 F C S rfl (by omega) hC hS
theorem f_mm (h : Inv N u) : ∃ r, f_X7_meanMemory N u = some (r, u) ∧ Op.cmpValue (FP.dcmp r 4636737291354636288) .l ≤ 0 := by
  unfold f_X7_meanMemory
  generalize hF : (1000000 : Nat) = F
  exact mm_o h 6 0 F 0 0 rfl (by omega) (Nat.le_refl _) (Nat.le_refl _)
end MN
