/-! 32: class and reference agree on a fresh object -/
def win (x a b : Int32) : Int32 := if x < a then 0 else if b < x then 0 else 1
theorem fwi (N : Nt) (u : St) (x a b : Int32) : f_X7_isWithin N u x a b = some (win x a b, u) := by
  unfold f_X7_isWithin win
  split
  · rfl
  · split <;> rfl
theorem gwi (x a b : Int32) : g_X11_isIn x a b = some (win x a b) := by
  unfold g_X11_isIn win
  split
  · rfl
  · split <;> rfl
theorem win01 (x a b : Int32) : win x a b = 0 ∨ win x a b = 1 := by
  unfold win
  split
  · exact Or.inl rfl
  · split
    · exact Or.inl rfl
    · exact Or.inr rfl
theorem win_e (x : Int32) : win x 0 (-1) = 0 := by
  unfold win
  by_cases h : x < 0
  · rw [if_pos h]
  · rw [if_neg h, if_pos]
    rw [Int32.lt_iff_toInt_lt] at h ⊢
    have h1 : (-1 : Int32).toInt = -1 := by decide +kernel
    have h2 : (0 : Int32).toInt = 0 := by decide +kernel
    omega
theorem win_b {x a b : Int32} (h : win x a b = 1) : a.toInt ≤ x.toInt ∧ x.toInt ≤ b.toInt := by
  unfold win at h
  by_cases h1 : x < a
  · rw [if_pos h1] at h; exact absurd h (by decide)
  · rw [if_neg h1] at h
    by_cases h2 : b < x
    · rw [if_pos h2] at h; exact absurd h (by decide)
    · rw [Int32.lt_iff_toInt_lt] at h1 h2
      omega
theorem win_nat {x a b : Int32} {A B : Nat} (ha : a.toInt = A) (hb : b.toInt = B) (h : win x a b = 1) : ∃ n : Nat, A ≤ n ∧ n ≤ B ∧ x = Int32.ofNat n := by
  obtain ⟨h1, h2⟩ := win_b h
  refine ⟨x.toInt.toNat, by omega, by omega, ?_⟩
  have h3 : ((x.toInt.toNat : Nat) : Int) = x.toInt := Int.toNat_of_nonneg (by omega)
  have h4 : Int32.ofNat x.toInt.toNat = Int32.ofInt ((x.toInt.toNat : Nat) : Int) := rfl
  rw [h4, h3, Int32.ofInt_toInt]
section AG
variable {α β : Type} {w x1 x2 x3 : Int32}
theorem sb_some {x : α} {u : St} {f : α → St → Option β} : sb (some (x, u)) f = f x u := rfl
theorem xb_ok {x : α} {u : St} {f : α → St → Option (Except String β × St)} : xb (some (.ok x, u)) f = f x u := rfl
theorem xb_er {E : String} {u : St} {f : α → St → Option (Except String β × St)} : xb (some (.error E, u)) f = some (.error E, u) := rfl
theorem ob_some {x : α} {f : α → Option β} : ob (some x) f = f x := rfl
theorem ob2_some {x : α} {u : St} {f : α → St → Option β} : ob2 (some (x, u)) f = f x u := rfl
theorem i0 {a b : α} : (if (0 : Int32) = 0 then a else b) = a := if_pos rfl
theorem i1 {a b : α} : (if (1 : Int32) = 0 then a else b) = b := if_neg (by decide)
theorem gt1 {c : Prop} [Decidable c] {x : Option α} (h : c) : gd c x = x := if_pos h
def mZ (w : Int32) : St := sset (mW w) 0 0 0 0
def mE (w k : Int32) : St := sset (mZ w) 0 0 0 k
theorem gs1 : g_X11_start (mW w) 1 1 = some (1, mE w 1) := rfl
theorem gs0 : g_X11_start (mW w) 0 1 = some (0, mZ w) := rfl
theorem gr0 {k : Int32} : g_X11_refuse (mZ w) 0 k = some (0, mZ w) := rfl
theorem gr2 : g_X11_refuse (mZ w) 1 2 = some (1, mE w 2) := rfl
theorem gr3 : g_X11_refuse (mZ w) 1 3 = some (1, mE w 3) := rfl
theorem mE0 {k : Int32} : mE w k 0 0 0 = k := rfl
theorem mZ0 : mZ w 0 0 0 = 0 := rfl
theorem gNPan {M : St} : g_X11_isNoPan M x1 = some 1 := by unfold g_X11_isNoPan; rw [gwi, win_e]; rfl
theorem gNPhr {M : St} : g_X11_isNoPhrase M x1 = some 1 := by unfold g_X11_isNoPhrase; rw [gwi, win_e]; rfl
theorem gNPly {M : St} : g_X11_isNoPlayer M x1 = some 1 := by unfold g_X11_isNoPlayer; rw [gwi, win_e]; rfl
theorem rPan : f_X7_requirePan N0 u00 x1 = some (.error "java/lang/IndexOutOfBoundsException", u00) := by unfold f_X7_requirePan; rw [fwi, show (u00 0 0 0) - 1 = (-1 : Int32) from by decide +kernel, win_e]; rfl
theorem rPhr : f_X7_requirePhrase N0 u00 x1 = some (.error "java/lang/IndexOutOfBoundsException", u00) := by unfold f_X7_requirePhrase; rw [fwi, show (u00 1 0 0) - 1 = (-1 : Int32) from by decide +kernel, win_e]; rfl
theorem rPly : f_X7_requirePlayer N0 u00 x1 = some (.error "java/lang/IndexOutOfBoundsException", u00) := by unfold f_X7_requirePlayer; rw [fwi, show (u00 2 0 0) - 1 = (-1 : Int32) from by decide +kernel, win_e]; rfl
theorem rPlc : f_X7_requirePlace N0 u00 x1 = some (.error "java/lang/IndexOutOfBoundsException", u00) := by unfold f_X7_requirePlace; rw [fwi, show (u00 43 0 0) - 1 = (-1 : Int32) from by decide +kernel, win_e]; rfl
-- what is refused in any case
theorem ag_blow : ∃ k w9 b9, R_blow x1 x2 x3 k w9 0 ∧ g_X11_blow (mW w9) x1 x2 x3 = some (b9, k) ∧ k ≠ 0 :=
  ⟨1, 0, 0, Or.inl ⟨u00, by unfold f_X7_blow; rw [rPan]; rfl, rfl, rfl⟩, by simp only [g_X11_blow, gNPan, ob_some, i1, gs1, ob2_some]; rfl, by decide⟩
theorem ag_burn : ∃ k w9 b9, R_burn x1 k w9 0 ∧ g_X11_burn (mW w9) x1 = some (b9, k) ∧ k ≠ 0 :=
  ⟨1, 0, 0, Or.inl ⟨u00, by unfold f_X7_burn; rw [rPan]; rfl, rfl, rfl⟩, by simp only [g_X11_burn, gNPan, ob_some, i1, gs1, ob2_some]; rfl, by decide⟩
theorem ag_tuner : ∃ k w9 b9, R_tuner x1 x2 k w9 0 ∧ g_X11_tuner (mW w9) x1 x2 = some (b9, k) ∧ k ≠ 0 :=
  ⟨1, 0, 0, Or.inl ⟨u00, by unfold f_X7_tuner; rw [rPan]; rfl, rfl, rfl⟩, by simp only [g_X11_tuner, gNPan, ob_some, i1, gs1, ob2_some]; rfl, by decide⟩
theorem ag_change : ∃ k w9 b9, R_change x1 x2 x3 k w9 0 ∧ g_X11_change (mW w9) x1 x2 x3 = some (b9, k) ∧ k ≠ 0 :=
  ⟨1, 0, 0, Or.inl ⟨u00, by unfold f_X7_change; rw [rPhr]; rfl, rfl, rfl⟩, by simp only [g_X11_change, gNPhr, ob_some, i1, gs1, ob2_some]; rfl, by decide⟩
theorem ag_put : ∃ k w9 b9, R_put x1 k w9 0 ∧ g_X11_put (mW w9) x1 = some (b9, k) ∧ k ≠ 0 :=
  ⟨1, 0, 0, Or.inl ⟨u00, by unfold f_X7_put; rw [rPhr]; rfl, rfl, rfl⟩, by simp only [g_X11_put, gNPhr, ob_some, i1, gs1, ob2_some]; rfl, by decide⟩
theorem ag_cut : ∃ k w9 b9, R_cut x1 k w9 0 ∧ g_X11_cut (mW w9) x1 = some (b9, k) ∧ k ≠ 0 :=
  ⟨1, 0, 0, ⟨u00, by unfold f_X7_cut; rw [rPlc]; rfl, rfl, rfl⟩, by simp only [g_X11_cut, gwi, win_e, ob_some, i0, i1, gs1, ob2_some]; rfl, by decide⟩
theorem ag_give : ∃ k w9 b9, R_give x1 x2 k w9 0 ∧ g_X11_give (mW w9) x1 x2 = some (b9, k) ∧ k ≠ 0 :=
  ⟨1, 0, 0, Or.inl ⟨u00, by unfold f_X7_give; rw [rPly]; rfl, rfl, rfl⟩, by simp only [g_X11_give, gNPly, ob_some, i1, gs1, ob2_some]; rfl, by decide⟩
theorem ag_absent : ∃ k w9 b9, R_absent x1 x2 k w9 0 ∧ g_X11_absent (mW w9) x1 x2 = some (b9, k) ∧ k ≠ 0 :=
  ⟨1, 0, 0, ⟨u00, by unfold f_X7_absent; rw [rPly]; rfl, rfl, rfl⟩, by simp only [g_X11_absent, gNPly, ob_some, i1, gs1, ob2_some]; rfl, by decide⟩
theorem ag_teach : ∃ k w9 b9, R_teach x1 x2 x3 k w9 0 ∧ g_X11_teach (mW w9) x1 x2 x3 = some (b9, k) ∧ k ≠ 0 :=
  ⟨1, 0, 0, Or.inl ⟨u00, by unfold f_X7_teach; rw [rPly]; rfl, rfl, rfl⟩, by simp only [g_X11_teach, gNPly, ob_some, i1, gs1, ob2_some]; rfl, by decide⟩
theorem ag_ofPan : ∃ k w9 b9, R_ofPan x1 x2 k w9 0 ∧ g_X11_ofPan (mW w9) x1 x2 = some (b9, k) ∧ k ≠ 0 :=
  ⟨1, 0, 0, Or.inl ⟨u00, by unfold f_X7_ofPan; rw [rPan]; rfl, rfl, rfl⟩, by simp only [g_X11_ofPan, gNPan, ob_some, i1, gs1, ob2_some]; rfl, by decide⟩
theorem ag_off : ∃ k w9 b9, R_off x1 x2 k w9 0 ∧ g_X11_off (mW w9) x1 x2 = some (b9, k) ∧ k ≠ 0 :=
  ⟨1, 0, 0, ⟨u00, by unfold f_X7_off; rw [rPan]; rfl, rfl, rfl⟩, by simp only [g_X11_off, gNPan, ob_some, i1, gs1, ob2_some]; rfl, by decide⟩
theorem ag_ofPhrase : ∃ k w9 b9, R_ofPhrase x1 x2 k w9 0 ∧ g_X11_ofPhrase (mW w9) x1 x2 = some (b9, k) ∧ k ≠ 0 :=
  ⟨1, 0, 0, Or.inl ⟨u00, by unfold f_X7_ofPhrase; rw [rPhr]; rfl, rfl, rfl⟩, by simp only [g_X11_ofPhrase, gNPhr, ob_some, i1, gs1, ob2_some]; rfl, by decide⟩
theorem ag_ofPlayer : ∃ k w9 b9, R_ofPlayer x1 x2 k w9 0 ∧ g_X11_ofPlayer (mW w9) x1 x2 = some (b9, k) ∧ k ≠ 0 :=
  ⟨1, 0, 0, Or.inl ⟨u00, by unfold f_X7_ofPlayer; rw [rPly]; rfl, rfl, rfl⟩, by simp only [g_X11_ofPlayer, gNPly, ob_some, i1, gs1, ob2_some]; rfl, by decide⟩
theorem ag_memory : ∃ k w9 b9, R_memory x1 x2 k w9 0 ∧ g_X11_memory (mW w9) x1 x2 = some (b9, k) ∧ k ≠ 0 :=
  ⟨1, 0, 0, ⟨u00, by unfold f_X7_memory; rw [rPly]; rfl, rfl, rfl⟩, by simp only [g_X11_memory, gNPly, ob_some, i1, gs1, ob2_some]; rfl, by decide⟩
theorem ag_ofPlace : ∃ k w9 b9, R_ofPlace x1 x2 k w9 0 ∧ g_X11_ofPlace (mW w9) x1 x2 = some (b9, k) ∧ k ≠ 0 :=
  ⟨1, 0, 0, Or.inl ⟨u00, by unfold f_X7_ofPlace; rw [rPlc]; rfl, rfl, rfl⟩, by simp only [g_X11_ofPlace, gwi, win_e, ob_some, i0, i1, gs1, ob2_some]; rfl, by decide⟩
theorem ag_bestTeach : ∃ k w9 b9, R_bestTeach x1 x2 k w9 0 ∧ g_X11_bestTeach (mW w9) x1 x2 = some (b9, k) ∧ k ≠ 0 :=
  ⟨1, 0, 0, Or.inl ⟨u00, by unfold f_X7_bestTeach; rw [rPly]; rfl, rfl, rfl⟩, by simp only [g_X11_bestTeach, gNPly, ob_some, i1, gs1, ob2_some]; rfl, by decide⟩
theorem ag_blowsFor : ∃ k w9 b9, R_blowsFor x1 k w9 0 ∧ g_X11_blowsFor (mW w9) x1 = some (b9, k) ∧ k ≠ 0 :=
  ⟨1, 0, 0, ⟨u00, by unfold f_X7_blowsFor; rw [rPan]; rfl, rfl, rfl⟩, by simp only [g_X11_blowsFor, gNPan, ob_some, i1, gs1, ob2_some]; rfl, by decide⟩
def erc (a : Option (Except String Int32 × St)) (E : String) : Bool := match a with
  | some (.error F, _) => decide (F = E)
  | _ => false
theorem erc_s {a : Option (Except String Int32 × St)} {E : String} (h : erc a E = true) : ∃ u9, a = some (.error E, u9) := by
  match a, h with
  | some (.error F, u), h => exact ⟨u, by rw [of_decide_eq_true h]⟩
theorem ag_play : ∃ k w9 b9, R_play k w9 0 ∧ g_X11_play (mW w9) = some (b9, k) ∧ k ≠ 0 := by
  obtain ⟨u9, h⟩ := erc_s (a := f_X7_play N0 u00) (E := "java/lang/IllegalStateException") (by decide +kernel)
  exact ⟨1, 0, 0, ⟨u9, h, rfl, rfl⟩, by decide +kernel, by decide⟩
-- what is computed
def okc (a : Option (Except String Int32 × St)) : Option Int32 := match a with
  | some (.ok r, _) => some r
  | _ => none
theorem okc_s {a : Option (Except String Int32 × St)} {r : Int32} (h : okc a = some r) : ∃ u9, a = some (.ok r, u9) := by
  match a, h with
  | some (.ok x, u), h => exact ⟨u, by rw [show x = r from Option.some.inj h]⟩
def chk (f : Option (Except String Int32 × St)) (g : Int32 → Option (Int32 × Int32)) : Bool := match okc f with
  | some r => decide (g r = some (r, 0))
  | none => false
theorem chk_s {f : Option (Except String Int32 × St)} {g : Int32 → Option (Int32 × Int32)} (h : chk f g = true) : ∃ r u9, f = some (.ok r, u9) ∧ g r = some (r, 0) := by
  unfold chk at h
  cases hc : okc f with
  | none => rw [hc] at h; cases h
  | some r =>
    rw [hc] at h
    obtain ⟨u9, h9⟩ := okc_s hc
    exact ⟨r, u9, h9, of_decide_eq_true h⟩
theorem many_c : ∀ n : Fin 14, chk (f_X7_many N0 u00 (Int32.ofNat n)) (fun r => g_X11_many (mW r) (Int32.ofNat n)) = true := by decide +kernel
theorem mark_c : ∀ n : Fin 4, chk (f_X7_mark N0 u00 (Int32.ofNat n)) (fun r => g_X11_mark_ (mW r) (Int32.ofNat n)) = true := by decide +kernel
theorem ofRound_c : ∀ n : Fin 3, ∀ k : Fin 2, chk (f_X7_ofRound N0 u00 (Int32.ofNat n) (Int32.ofNat k)) (fun r => g_X11_ofRound (mW r) (Int32.ofNat n) (Int32.ofNat k)) = true := by decide +kernel
theorem pan_c : ∀ n : Fin 4, chk (f_X7_pan N0 u00 (Int32.ofNat n)) (fun r => g_X11_pan (mW r) (Int32.ofNat n)) = true := by decide +kernel
theorem bestOrder_c : chk (f_X7_bestOrder N0 u00) (fun r => g_X11_bestOrder (mW r)) = true := by decide +kernel
end AG
