/-! 41: a pan's tuning -/
abbrev Rc := Int32 × Int32 × (Nat → Int32)
def setR (u : St) (k : Nat) (r : Rc) : St := setP u k r.1 r.2.1 r.2.2
def getR (u : St) (k : Nat) : Rc := (u 12 k 0, u 13 k 0, u 14 k)
theorem setR_id {u : St} {k : Nat} : setR u k (getR u k) = u := setP_id
def okO (o : Nat → Int32) : Prop := ∀ j, j < 8 → -99 ≤ (o j).toInt ∧ (o j).toInt ≤ 99
theorem shO_ok {o : Nat → Int32} {j : Nat} {d : Int32} (h : okO o) : okO (shO o j d) := fun i hi => by
  unfold shO upd
  by_cases e : i = j
  · rw [if_pos e]; exact hld_b (a := -99) (b := 99) (by decide)
  · rw [if_neg e]; exact h i hi
theorem strO_ok {o : Nat → Int32} {j : Nat} {x : Int32} (h : okO o) : okO (strO o j x) := shO_ok (shO_ok (shO_ok h))
def tjg (o : Nat → Int32) : Nat → Nat → Nat → Nat
  | 0, _, m => m
  | d + 1, y, m => if mabs (o y) ≤ mabs (o m) then tjg o d (y + 1) m else tjg o d (y + 1) y
theorem tjg_lt {o : Nat → Int32} : ∀ (d y m : Nat), y + d ≤ 8 → m < 8 → tjg o d y m < 8 := by
  intro d
  induction d with
  | zero => intro y m _ hm; exact hm
  | succ d ih =>
    intro y m hy hm
    unfold tjg
    split
    · exact ih _ _ (by omega) hm
    · exact ih _ _ (by omega) (by omega)
def onR (r : Rc) (j : Nat) : Rc := (r.1 + mabs (hld (-(r.2.2 j)) (-20) 20), r.2.1 + 1, strO r.2.2 j (hld (-(r.2.2 j)) (-20) 20))
def onc (r : Rc) : Rc := onR r (tjg r.2.2 7 1 0)
theorem f_once_l {N : Nt} {u : St} {k : Nat} {r : Rc} : ∀ (d y m n : Nat), y + d = 8 → m < 8 → d < n → f_X3_tuneOnce_L4 N k n (nI y) (nI m) (setR u k r) = some ((), setR u k (onR r (tjg r.2.2 d y m))) := by
  intro d
  induction d with
  | zero =>
    intro y m n hy hm hn
    obtain ⟨n', rfl, -⟩ := fuel hn
    show f_X3_tuneOnce_L4b N k (f_X3_tuneOnce_L4 N k n') _ _ _ = _
    unfold f_X3_tuneOnce_L4b setR
    obtain rfl : y = 8 := by omega
    rw [if_pos (by decide), gt1 (inb_nI hm (by decide)), fheld, sb_some, ix_nI (by omega), setP_14, f_strike hm, sb_some]
    rfl
  | succ d ih =>
    intro y m n hy hm hn
    obtain ⟨n', rfl, h'⟩ := fuel hn
    have ih1 := ih (y + 1) m n' (by omega) hm (h' d rfl)
    have ih2 := ih (y + 1) y n' (by omega) (by omega) (h' d rfl)
    show f_X3_tuneOnce_L4b N k (f_X3_tuneOnce_L4 N k n') _ _ _ = _
    unfold f_X3_tuneOnce_L4b
    rw [if_neg (lge8 (y := y) (by omega)), gt1 (inb_nI (by omega) (by decide))]
    simp only [nm_u]
    rw [gt1 (inb_nI hm (by decide)), ix_nI (by omega), ix_nI (by omega), nI_1]
    have e : (setR u k r) 14 k = r.2.2 := setP_14
    rw [e]
    unfold tjg
    by_cases hc : mabs (r.2.2 y) ≤ mabs (r.2.2 m)
    · rw [if_pos hc, if_pos hc]; exact ih1
    · rw [if_neg hc, if_neg hc]; exact ih2
theorem f_once {N : Nt} {u : St} {k : Nat} {r : Rc} : f_X3_tuneOnce N (setR u k r) k = some ((), setR u k (onc r)) := by
  unfold f_X3_tuneOnce
  generalize hF : (1000000 : Nat) = F
  exact f_once_l 7 1 0 F rfl (by omega) (by omega)
def ndR (fam : Int32) (r : Rc) : Bool := nds fam r.1 r.2.2
def tun (fam : Int32) : Nat → Rc → Nat × Rc
  | 0, r => (0, r)
  | m + 1, r => if ndR fam r then ((tun fam m (onc r)).1 + 1, (tun fam m (onc r)).2) else (0, r)
theorem f_tun_l {N : Nt} {u : St} {k : Nat} {M : Nat} (hM : M < 1000) : ∀ (d y n : Nat) (r : Rc), y + d = M → d < n → f_X3_tuneUpTo_L2 N k n (nI y) (nI M) (setR u k r) = some (nI (y + (tun (u 11 k 0) d r).1), setR u k (tun (u 11 k 0) d r).2) := by
  intro d
  induction d with
  | zero =>
    intro y n r hy hn
    obtain ⟨n', rfl, -⟩ := fuel hn
    show f_X3_tuneUpTo_L2b N k (f_X3_tuneUpTo_L2 N k n') _ _ _ = _
    unfold f_X3_tuneUpTo_L2b
    obtain rfl : y = M := by omega
    rw [if_pos (Int32.le_refl _)]
    rfl
  | succ d ih =>
    intro y n r hy hn
    obtain ⟨n', rfl, h'⟩ := fuel hn
    have ih1 := ih (y + 1) n' (onc r) (by omega) (h' d rfl)
    show f_X3_tuneUpTo_L2b N k (f_X3_tuneUpTo_L2 N k n') _ _ _ = _
    unfold f_X3_tuneUpTo_L2b
    have e11 : (setR u k r) 11 k 0 = u 11 k 0 := by
      unfold setR; rw [setP_f (by decide) (by decide) (by decide)]
    rw [if_neg (nI_ge (by omega) (by omega)), f_nds, sb_some, e11]
    have e : nds (u 11 k 0) ((setR u k r) 12 k 0) ((setR u k r) 14 k) = ndR (u 11 k 0) r := by
      unfold ndR setR; rw [setP_12, setP_14]
    rw [e, ib0]
    unfold tun
    cases hc : ndR (u 11 k 0) r with
    | true =>
      rw [if_pos rfl, f_once, sb_some, if_pos rfl]
      simp only [nm_u]
      rw [nI_1]
      refine ih1.trans ?_
      rw [show y + 1 + (tun (u 11 k 0) d (onc r)).1 = y + ((tun (u 11 k 0) d (onc r)).1 + 1) from by omega]
    | false =>
      rw [if_neg Bool.false_ne_true, if_neg Bool.false_ne_true]
      rfl
theorem f_tun {N : Nt} {u : St} {k M : Nat} {r : Rc} (hM : M < 1000) : f_X3_tuneUpTo N (setR u k r) k (nI M) = some (nI (tun (u 11 k 0) M r).1, setR u k (tun (u 11 k 0) M r).2) := by
  unfold f_X3_tuneUpTo
  generalize hF : (1000000 : Nat) = F
  have h := f_tun_l (N := N) (u := u) (k := k) hM M 0 F r (by omega) (by omega)
  rw [Nat.zero_add] at h
  exact h
section TUN
variable {fam : Int32}
theorem tun_le : ∀ (m : Nat) (r : Rc), (tun fam m r).1 ≤ m := by
  intro m
  induction m with
  | zero => intro r; exact Nat.le_refl _
  | succ m ih =>
    intro r
    unfold tun
    split
    · exact Nat.succ_le_succ (ih _)
    · exact Nat.zero_le _
theorem tun_st : ∀ (m : Nat) (r : Rc), (tun fam m r).1 < m → ndR fam (tun fam m r).2 = false := by
  intro m
  induction m with
  | zero => intro r h; exact absurd h (Nat.not_lt_zero _)
  | succ m ih =>
    intro r h
    unfold tun at h ⊢
    cases hc : ndR fam r with
    | true =>
      rw [hc, if_pos rfl] at h
      rw [if_pos rfl]
      exact ih _ (Nat.lt_of_succ_lt_succ h)
    | false => rw [if_neg Bool.false_ne_true]; exact hc
theorem tun_no {m : Nat} {r : Rc} (h : ndR fam r = false) : tun fam m r = (0, r) := by
  cases m with
  | zero => rfl
  | succ m => unfold tun; rw [h, if_neg Bool.false_ne_true]
theorem tun_add : ∀ (a b : Nat) (r : Rc), tun fam (a + b) r = ((tun fam a r).1 + (tun fam b (tun fam a r).2).1, (tun fam b (tun fam a r).2).2) := by
  intro a
  induction a with
  | zero => intro b r; rw [Nat.zero_add]; show _ = (0 + (tun fam b r).1, (tun fam b r).2); rw [Nat.zero_add]
  | succ a ih =>
    intro b r
    rw [Nat.succ_add]
    cases hc : ndR fam r with
    | true =>
      have e1 : ∀ m, tun fam (m + 1) r = ((tun fam m (onc r)).1 + 1, (tun fam m (onc r)).2) := fun m => by
        show (if ndR fam r then _ else _) = _
        rw [hc, if_pos rfl]
      rw [show (a + b).succ = (a + b) + 1 from rfl, e1, e1, ih]
      simp only []
      rw [show (tun fam a (onc r)).1 + (tun fam b (tun fam a (onc r)).2).1 + 1 = (tun fam a (onc r)).1 + 1 + (tun fam b (tun fam a (onc r)).2).1 from by omega]
    | false => rw [tun_no hc, tun_no hc]; show _ = (0 + (tun fam b r).1, (tun fam b r).2); rw [tun_no hc]; rfl
theorem tun_b : ∀ (m : Nat) (r : Rc), (tun fam m r).2.2.1 = r.2.1 + nI (tun fam m r).1 := by
  intro m
  induction m with
  | zero => intro r; show r.2.1 = r.2.1 + 0; rw [Int32.add_zero]
  | succ m ih =>
    intro r
    unfold tun
    split
    · show (tun fam m (onc r)).2.2.1 = r.2.1 + nI ((tun fam m (onc r)).1 + 1)
      rw [ih, nI_succ, Int32.add_comm (nI _) 1, ← Int32.add_assoc]
      rfl
    · show r.2.1 = r.2.1 + 0; rw [Int32.add_zero]
theorem tun_o : ∀ (m : Nat) (r : Rc), okO r.2.2 → okO (tun fam m r).2.2.2 := by
  intro m
  induction m with
  | zero => intro r h; exact h
  | succ m ih =>
    intro r h
    unfold tun
    split
    · exact ih _ (strO_ok h)
    · exact h
theorem tun_1 {m : Nat} {r : Rc} (h : ndR fam r = true) : 1 ≤ (tun fam (m + 1) r).1 := by
  unfold tun
  rw [h, if_pos rfl]
  exact Nat.succ_le_succ (Nat.zero_le _)
end TUN
/-! counts of notes -/
def bc (x : Int32) : Int32 :=
  let v2 := x - ((iush x 1) &&& 1431655765)
  let v4 := (v2 &&& 858993459) + ((iush v2 2) &&& 858993459)
  let v6 := (v4 + iush v4 4) &&& 252645135
  let v8 := v6 + iush v6 8
  (v8 + iush v8 16) &&& 63
theorem f_bc {N : Nt} {u : St} {x : Int32} : f_J6_bitCount_0f7a4 N u x = some (bc x, u) := rfl
def cnt (c : Nat → Bool) : Nat → Nat
  | 0 => 0
  | j + 1 => cnt c j + if c j then 1 else 0
def b1 (b : Bool) : Nat := if b then 1 else 0
def nitB (b0 b1 b2 b3 b4 b5 b6 b7 : Bool) : Int32 := nit (fun j => match j with | 0 => b0 | 1 => b1 | 2 => b2 | 3 => b3 | 4 => b4 | 5 => b5 | 6 => b6 | _ => b7) 8
theorem nitB_c : ∀ a0 a1 a2 a3 a4 a5 a6 a7 : Bool, bc (nitB a0 a1 a2 a3 a4 a5 a6 a7) = nI (b1 a0 + b1 a1 + b1 a2 + b1 a3 + b1 a4 + b1 a5 + b1 a6 + b1 a7) := by decide +kernel
theorem nitB_f : ∀ a0 a1 a2 a3 a4 a5 a6 a7 : Bool, (nitB a0 a1 a2 a3 a4 a5 a6 a7 = 255) ↔ b1 a0 + b1 a1 + b1 a2 + b1 a3 + b1 a4 + b1 a5 + b1 a6 + b1 a7 = 8 := by decide +kernel
theorem nit_B (c : Nat → Bool) : nit c 8 = nitB (c 0) (c 1) (c 2) (c 3) (c 4) (c 5) (c 6) (c 7) := rfl
theorem cnt_B (c : Nat → Bool) : cnt c 8 = b1 (c 0) + b1 (c 1) + b1 (c 2) + b1 (c 3) + b1 (c 4) + b1 (c 5) + b1 (c 6) + b1 (c 7) := by
  show 0 + b1 (c 0) + b1 (c 1) + b1 (c 2) + b1 (c 3) + b1 (c 4) + b1 (c 5) + b1 (c 6) + b1 (c 7) = _
  rw [Nat.zero_add]
theorem bc_nit (c : Nat → Bool) : bc (nit c 8) = nI (cnt c 8) := by rw [nit_B, cnt_B]; exact nitB_c ..
theorem nit_255 (c : Nat → Bool) : nit c 8 = 255 ↔ cnt c 8 = 8 := by rw [nit_B, cnt_B]; exact nitB_f ..
theorem cnt_le (c : Nat → Bool) : ∀ j, cnt c j ≤ j := by
  intro j
  induction j with
  | zero => exact Nat.le_refl _
  | succ j ih => unfold cnt; split <;> omega
theorem cnt_and (c d : Nat → Bool) : ∀ j, cnt (fun i => c i && d i) j ≤ cnt d j := by
  intro j
  induction j with
  | zero => exact Nat.le_refl _
  | succ j ih => unfold cnt; cases c j <;> cases d j <;> simp <;> omega
theorem one_bit : ∀ (j : Fin 8) (i : Fin 32), ((1 : Int32) <<< (nI j &&& 31)).toBitVec.getLsbD i = decide (i.val = j.val) := by decide +kernel
theorem nit_bit (c : Nat → Bool) : ∀ j, j ≤ 8 → ∀ i, i < 32 → (nit c j).toBitVec.getLsbD i = (decide (i < j) && c i) := by
  intro j
  induction j with
  | zero => intro _ i hi; show (0 : Int32).toBitVec.getLsbD i = _; simp
  | succ j ih =>
    intro hj i hi
    unfold nit
    have ih1 := ih (by omega) i hi
    by_cases hc : c j = true
    · rw [if_pos hc, Int32.toBitVec_or, BitVec.getLsbD_or, ih1, one_bit ⟨j, by omega⟩ ⟨i, hi⟩]
      by_cases h1 : i = j
      · subst h1; simp [hc]
      · by_cases h2 : i < j
        · simp [h1, h2, Nat.lt_succ_of_lt h2]
        · simp [h1, h2, show ¬ i < j + 1 by omega]
    · rw [if_neg hc, ih1]
      by_cases h1 : i = j
      · subst h1; simp [hc]
      · by_cases h2 : i < j
        · simp [h2, Nat.lt_succ_of_lt h2]
        · simp [h2, show ¬ i < j + 1 by omega]
theorem nit_and (c d : Nat → Bool) : nit c 8 &&& nit d 8 = nit (fun i => c i && d i) 8 := by
  apply Int32.toBitVec_inj.mp
  apply BitVec.eq_of_getLsbD_eq
  intro i hi
  rw [Int32.toBitVec_and, BitVec.getLsbD_and, nit_bit c 8 (by decide) i hi, nit_bit d 8 (by decide) i hi, nit_bit _ 8 (by decide) i hi]
  cases decide (i < 8) <;> cases c i <;> cases d i <;> rfl
theorem notes_nit : ∀ n : Fin 256, nI n = nit (fun j => n.val.testBit j) 8 := by decide +kernel
/-- what a part of the notes counts -/
theorem bc_part {x : Int32} (c : Nat → Bool) (h1 : 1 ≤ x.toInt) (h2 : x.toInt ≤ 255) : ∃ a b : Nat, bc x = nI b ∧ bc (nit c 8 &&& x) = nI a ∧ a ≤ b ∧ 1 ≤ b ∧ b ≤ 8 := by
  obtain ⟨n, hn, rfl⟩ := nI_of (x := x) (by rw [Int32.lt_iff_toInt_lt]; show ¬ x.toInt < 0; omega)
  rw [nI_toInt hn] at h1 h2
  have e := notes_nit ⟨n, by omega⟩
  simp only at e
  rw [e, nit_and, bc_nit, bc_nit]
  refine ⟨_, _, rfl, rfl, cnt_and _ _ 8, ?_, cnt_le _ 8⟩
  apply Nat.one_le_iff_ne_zero.mpr
  intro h0
  have h3 : bc (nI n) = 0 := by rw [e, bc_nit, h0]; rfl
  have h4 : ∀ n : Fin 256, bc (nI n) = 0 → n.val = 0 := by decide +kernel
  have := h4 ⟨n, by omega⟩ h3
  simp only at this
  omega
def grd (fam w : Int32) (o : Nat → Int32) : Nat := if crk w then 0 else cnt (thr fam o) 8
theorem f_grd {N : Nt} {u : St} {k : Nat} : f_X3_grade N u k = some (nI (grd (u 11 k 0) (u 12 k 0) (u 14 k)), u) := by
  unfold f_X3_grade grd
  rw [f_crk, sb_some, ib0]
  cases hc : crk (u 12 k 0) with
  | true => rfl
  | false =>
    rw [if_neg Bool.false_ne_true, f_nit, sb_some, f_bc, sb_some, if_neg Bool.false_ne_true]
    unfold nitm
    rw [bc_nit]
theorem grd_le {fam w : Int32} {o : Nat → Int32} : grd fam w o ≤ 8 := by
  unfold grd
  split
  · decide
  · exact cnt_le _ 8
