/-! 49: what is done to the yard: hit, burned; put, cut; absent -/
def Used (f : Nat) : Prop := f = 0 ∨ f = 1 ∨ f = 2 ∨ f = 4 ∨ f = 64 ∨ f = 10 ∨ f = 11 ∨ f = 14 ∨ f = 20 ∨ f = 21 ∨ f = 22 ∨ f = 30 ∨ f = 31 ∨ f = 32 ∨ f = 33 ∨ f = 34 ∨ f = 40 ∨ f = 42 ∨ f = 43 ∨ f = 53 ∨ f = 65 ∨ f = 66
theorem sset_fk {u : St} {f k j a : Nat} {x : Int32} (h : a ≠ f) : sset u f k j x a = u a := funext fun b => funext fun c => sset_ne h
section FR
variable {N : Nt} {u v : St}
theorem Inv.fr (h : Inv N u) (hf : ∀ f, Used f → v f = u f) : Inv N v := by
  unfold Inv
  rw [hf 0 (by unfold Used; omega), hf 1 (by unfold Used; omega), hf 2 (by unfold Used; omega), hf 4 (by unfold Used; omega), hf 64 (by unfold Used; omega), hf 10 (by unfold Used; omega), hf 11 (by unfold Used; omega), hf 14 (by unfold Used; omega), hf 20 (by unfold Used; omega), hf 21 (by unfold Used; omega), hf 22 (by unfold Used; omega), hf 30 (by unfold Used; omega), hf 31 (by unfold Used; omega), hf 32 (by unfold Used; omega), hf 33 (by unfold Used; omega), hf 34 (by unfold Used; omega), hf 40 (by unfold Used; omega), hf 42 (by unfold Used; omega), hf 43 (by unfold Used; omega), hf 53 (by unfold Used; omega), hf 65 (by unfold Used; omega), hf 66 (by unfold Used; omega)]
  exact h
theorem Inv.pan (h : Inv N u) (hf : ∀ f, Used f → f ≠ 14 → v f = u f) (ho : ∀ p, p < 4 → okO (v 14 p)) : Inv N v := by
  refine ⟨h.n12, h.n14, h.n15, ?_, fun p hp => ⟨?_, ?_, ho p hp⟩, ?_, ?_, ?_, ?_, ?_⟩
  · rw [hf 0 (by unfold Used; omega) (by decide), hf 1 (by unfold Used; omega) (by decide), hf 2 (by unfold Used; omega) (by decide), hf 4 (by unfold Used; omega) (by decide), hf 64 (by unfold Used; omega) (by decide)]; exact h.c
  · rw [hf 10 (by unfold Used; omega) (by decide)]; exact (h.p p hp).1
  · rw [hf 11 (by unfold Used; omega) (by decide)]; exact (h.p p hp).2.1
  · rw [hf 20 (by unfold Used; omega) (by decide), hf 21 (by unfold Used; omega) (by decide), hf 22 (by unfold Used; omega) (by decide)]; exact h.r
  · rw [hf 30 (by unfold Used; omega) (by decide), hf 31 (by unfold Used; omega) (by decide), hf 32 (by unfold Used; omega) (by decide), hf 33 (by unfold Used; omega) (by decide), hf 34 (by unfold Used; omega) (by decide)]; exact h.y
  · rw [hf 40 (by unfold Used; omega) (by decide), hf 20 (by unfold Used; omega) (by decide), hf 30 (by unfold Used; omega) (by decide), hf 22 (by unfold Used; omega) (by decide), hf 32 (by unfold Used; omega) (by decide)]; exact h.m
  · rw [hf 42 (by unfold Used; omega) (by decide), hf 43 (by unfold Used; omega) (by decide)]; exact h.o
  · rw [hf 53 (by unfold Used; omega) (by decide), hf 65 (by unfold Used; omega) (by decide), hf 66 (by unfold Used; omega) (by decide)]; exact h.g
theorem Inv.mem (h : Inv N u) (hf : ∀ f, Used f → f ≠ 40 → v f = u f) (hm : IM (v 40) (u 20) (u 30) (u 22) (u 32)) : Inv N v := by
  refine ⟨h.n12, h.n14, h.n15, ?_, ?_, ?_, ?_, ?_, ?_, ?_⟩
  · rw [hf 0 (by unfold Used; omega) (by decide), hf 1 (by unfold Used; omega) (by decide), hf 2 (by unfold Used; omega) (by decide), hf 4 (by unfold Used; omega) (by decide), hf 64 (by unfold Used; omega) (by decide)]; exact h.c
  · rw [hf 10 (by unfold Used; omega) (by decide), hf 11 (by unfold Used; omega) (by decide), hf 14 (by unfold Used; omega) (by decide)]; exact h.p
  · rw [hf 20 (by unfold Used; omega) (by decide), hf 21 (by unfold Used; omega) (by decide), hf 22 (by unfold Used; omega) (by decide)]; exact h.r
  · rw [hf 30 (by unfold Used; omega) (by decide), hf 31 (by unfold Used; omega) (by decide), hf 32 (by unfold Used; omega) (by decide), hf 33 (by unfold Used; omega) (by decide), hf 34 (by unfold Used; omega) (by decide)]; exact h.y
  · rw [hf 20 (by unfold Used; omega) (by decide), hf 30 (by unfold Used; omega) (by decide), hf 22 (by unfold Used; omega) (by decide), hf 32 (by unfold Used; omega) (by decide)]; exact hm
  · rw [hf 42 (by unfold Used; omega) (by decide), hf 43 (by unfold Used; omega) (by decide)]; exact h.o
  · rw [hf 53 (by unfold Used; omega) (by decide), hf 65 (by unfold Used; omega) (by decide), hf 66 (by unfold Used; omega) (by decide)]; exact h.g
theorem Inv.ordr (h : Inv N u) (hf : ∀ f, Used f → f ≠ 42 → f ≠ 43 → v f = u f) (ho : IO (v 42) (v 43)) : Inv N v := by
  refine ⟨h.n12, h.n14, h.n15, ?_, ?_, ?_, ?_, ?_, ho, ?_⟩
  · rw [hf 0 (by unfold Used; omega) (by decide) (by decide), hf 1 (by unfold Used; omega) (by decide) (by decide), hf 2 (by unfold Used; omega) (by decide) (by decide), hf 4 (by unfold Used; omega) (by decide) (by decide), hf 64 (by unfold Used; omega) (by decide) (by decide)]; exact h.c
  · rw [hf 10 (by unfold Used; omega) (by decide) (by decide), hf 11 (by unfold Used; omega) (by decide) (by decide), hf 14 (by unfold Used; omega) (by decide) (by decide)]; exact h.p
  · rw [hf 20 (by unfold Used; omega) (by decide) (by decide), hf 21 (by unfold Used; omega) (by decide) (by decide), hf 22 (by unfold Used; omega) (by decide) (by decide)]; exact h.r
  · rw [hf 30 (by unfold Used; omega) (by decide) (by decide), hf 31 (by unfold Used; omega) (by decide) (by decide), hf 32 (by unfold Used; omega) (by decide) (by decide), hf 33 (by unfold Used; omega) (by decide) (by decide), hf 34 (by unfold Used; omega) (by decide) (by decide)]; exact h.y
  · rw [hf 40 (by unfold Used; omega) (by decide) (by decide), hf 20 (by unfold Used; omega) (by decide) (by decide), hf 30 (by unfold Used; omega) (by decide) (by decide), hf 22 (by unfold Used; omega) (by decide) (by decide), hf 32 (by unfold Used; omega) (by decide) (by decide)]; exact h.m
  · rw [hf 53 (by unfold Used; omega) (by decide) (by decide), hf 65 (by unfold Used; omega) (by decide) (by decide), hf 66 (by unfold Used; omega) (by decide) (by decide)]; exact h.g
theorem Inv.plr (h : Inv N u) (hf : ∀ f, Used f → f ≠ 34 → v f = u f) (hy : ∀ k, k < 6 → v 34 k 0 = 0 ∨ v 34 k 0 = 1) : Inv N v := by
  refine ⟨h.n12, h.n14, h.n15, ?_, ?_, ?_, fun k hk => ?_, ?_, ?_, ?_⟩
  · rw [hf 0 (by unfold Used; omega) (by decide), hf 1 (by unfold Used; omega) (by decide), hf 2 (by unfold Used; omega) (by decide), hf 4 (by unfold Used; omega) (by decide), hf 64 (by unfold Used; omega) (by decide)]; exact h.c
  · rw [hf 10 (by unfold Used; omega) (by decide), hf 11 (by unfold Used; omega) (by decide), hf 14 (by unfold Used; omega) (by decide)]; exact h.p
  · rw [hf 20 (by unfold Used; omega) (by decide), hf 21 (by unfold Used; omega) (by decide), hf 22 (by unfold Used; omega) (by decide)]; exact h.r
  · rw [hf 30 (by unfold Used; omega) (by decide), hf 31 (by unfold Used; omega) (by decide), hf 32 (by unfold Used; omega) (by decide), hf 33 (by unfold Used; omega) (by decide)]
    have q := h.y k hk
    exact ⟨q.1, q.2.1, q.2.2.1, q.2.2.2.1, hy k hk⟩
  · rw [hf 40 (by unfold Used; omega) (by decide), hf 20 (by unfold Used; omega) (by decide), hf 30 (by unfold Used; omega) (by decide), hf 22 (by unfold Used; omega) (by decide), hf 32 (by unfold Used; omega) (by decide)]; exact h.m
  · rw [hf 42 (by unfold Used; omega) (by decide), hf 43 (by unfold Used; omega) (by decide)]; exact h.o
  · rw [hf 53 (by unfold Used; omega) (by decide), hf 65 (by unfold Used; omega) (by decide), hf 66 (by unfold Used; omega) (by decide)]; exact h.g
theorem Inv.setP (h : Inv N u) {p : Nat} {w b : Int32} {o : Nat → Int32} (ho : okO o) : Inv N (setP u p w b o) := h.pan (fun f hf h14 => setP_f (by unfold Used at hf; omega) (by unfold Used at hf; omega) h14) (fun q hq => by
  by_cases e : q = p
  · subst e; rw [setP_14]; exact ho
  · rw [setP_kf e]; exact (h.p q hq).2.2)
theorem f_strike2 {k j : Nat} {x : Int32} (hj : j < 8) : f_X3_strike N u k (nI j) x = some ((), setP u k (u 12 k 0 + mabs x) (u 13 k 0 + 1) (strO (u 14 k) j x)) := by
  have e := f_strike (N := N) (u := u) (k := k) (w := u 12 k 0) (b := u 13 k 0) (o := u 14 k) (x := x) hj
  rw [setP_id] at e
  exact e
theorem hld_mm (y : Int32) : mmax (-99) (mmin 99 y) = hld y (-99) 99 := by
  have e1 : (99 : Int32).toInt = 99 := by decide
  have e2 : (-99 : Int32).toInt = -99 := by decide
  unfold mmax mmin hld
  by_cases h1 : y < 99
  · rw [if_pos h1]
    rw [Int32.lt_iff_toInt_lt] at h1
    by_cases h2 : -99 < y
    · rw [if_pos h2]
      rw [Int32.lt_iff_toInt_lt] at h2
      rw [if_pos (by rw [Int32.le_iff_toInt_le]; omega), if_pos (by rw [Int32.le_iff_toInt_le]; omega)]
    · rw [if_neg h2]
      by_cases h3 : -99 ≤ y
      · rw [Int32.lt_iff_toInt_lt] at h2
        rw [Int32.le_iff_toInt_le] at h3
        have : y = -99 := Int32.toInt_inj.mp (by omega)
        subst this
        rfl
      · rw [if_neg h3]
  · rw [if_neg h1, if_pos (by decide)]
    rw [Int32.lt_iff_toInt_lt] at h1
    rw [if_pos (by rw [Int32.le_iff_toInt_le]; omega)]
    by_cases h3 : y ≤ 99
    · rw [Int32.le_iff_toInt_le] at h3
      have : y = 99 := Int32.toInt_inj.mp (by omega)
      subst this
      rfl
    · rw [if_neg h3]
theorem strO_at {o : Nat → Int32} {j : Nat} {x : Int32} (hj : j < 8) : strO o j x j = hld (o j + x) (-99) 99 := by
  unfold strO shO upd
  rw [if_neg (show ¬ j = (j + 7) % 8 by omega), if_neg (show ¬ j = (j + 1) % 8 by omega), if_pos rfl]
theorem strO_far {o : Nat → Int32} {j : Nat} {x : Int32} (hj : j < 8) : strO o j x ((j + 4) % 8) = o ((j + 4) % 8) := by
  unfold strO shO upd
  rw [if_neg (show ¬ (j + 4) % 8 = (j + 7) % 8 by omega), if_neg (show ¬ (j + 4) % 8 = (j + 1) % 8 by omega), if_neg (show ¬ (j + 4) % 8 = j by omega)]
theorem f_blow (h : Inv N u) {p j : Nat} {x : Int32} (hp : p < 4) (hj : j < 8) (hw : crk (u 12 p 0) = false) (hx : bt x (-20) 20) (h0 : ¬ x = 0) : f_X7_blow N u (nI p) (nI j) x = some (.ok (hld (u 14 p j + x) (-99) 99), setP u p (u 12 p 0 + mabs x) (u 13 p 0 + 1) (strO (u 14 p) j x)) := by
  unfold f_X7_blow
  rw [rqPan (n := 3) h.c0 (by omega) (by omega), xb_ok, rqNote hj, xb_ok, if_neg h0, fwi, sb_some, win_1 (a := -20) (b := 20) hx.1 hx.2, if_neg (by decide), rqWhole hp h.n12 hw, xb_ok, gt1 (inb_nI (by omega) (by decide)), ix_nI (by omega), gt1 (by rw [h.n12]; exact hp), f_strike2 hj, sb_some, gt1 (inb_nI hj (by decide)), ix_nI (by omega), setP_14, strO_at hj]
theorem isHit_ok (h : Inv N u) {p j : Nat} {x : Int32} (hp : p < 4) (hj : j < 8) (hw : crk (u 12 p 0) = false) (hx : bt x (-20) 20) : ∃ w, f_L_isHit N u (nI p) (nI j) x = some (.ok 1, w) ∧ Inv N w := by
  unfold f_L_isHit
  by_cases h0 : x = 0
  · exact ⟨u, by rw [if_pos h0], h⟩
  · have hI : Inv N (setP u p (u 12 p 0 + mabs x) (u 13 p 0 + 1) (strO (u 14 p) j x)) := h.setP (strO_ok (h.p p hp).2.2)
    have er : irem (nI j + 4) 8 = nI ((j + 4) % 8) := by
      rw [show nI j + 4 = nI (j + 4) from nI_add j 4]
      exact irem_nI (d := 8) (by omega) (by decide) (by decide)
    have hm : (j + 4) % 8 < 8 := Nat.mod_lt _ (by decide)
    refine ⟨_, ?_, hI⟩
    rw [if_neg h0, ofPan1 h.c0 hp h.n12, xb_ok, f_off h.c0 hp hj h.n12, xb_ok, nm_u, er, f_off h.c0 hp hm h.n12, xb_ok, f_blow h hp hj hw hx h0, xb_ok, nm_u, nm_u, hld_mm, if_pos rfl, nm_u, f_off hI.c0 hp hm h.n12, xb_ok, setP_14, strO_far hj, if_pos rfl, ofPan1 hI.c0 hp h.n12, xb_ok, nm_u, setP_12, if_pos rfl]
theorem f_heat_l {k : Nat} {w b : Int32} : ∀ (d y n : Nat) (o : Nat → Int32), y + d = 8 → d < n → okO o → ∃ o', f_X3_heat_L12 N k n (nI y) (setP u k w b o) = some ((), setP u k w b o') ∧ okO o' := by
  intro d
  induction d with
  | zero =>
    intro y n o hy hn ho
    obtain ⟨n', rfl, -⟩ := fuel hn
    refine ⟨o, ?_, ho⟩
    show f_X3_heat_L12b N k (f_X3_heat_L12 N k n') (nI y) _ = _
    unfold f_X3_heat_L12b
    obtain rfl : y = 8 := by omega
    rw [if_pos (by decide)]
  | succ d ih =>
    intro y n o hy hn ho
    obtain ⟨n', rfl, h'⟩ := fuel hn
    have hs : ∀ x : Int32, ∃ o', f_X3_heat_B32 N k (f_X3_heat_L12 N k n') (nI y) x (nI y) (setP u k w b o) = some ((), setP u k w b o') ∧ okO o' := fun x => by
      obtain ⟨o', e1, e2⟩ := ih (y + 1) n' (shO o y x) (by omega) (h' d rfl) (shO_ok ho)
      refine ⟨o', ?_, e2⟩
      unfold f_X3_heat_B32
      rw [f_shift (by omega), sb_some, nm_u, nI_1]
      exact e1
    show ∃ o', f_X3_heat_L12b N k (f_X3_heat_L12 N k n') (nI y) _ = _ ∧ _
    unfold f_X3_heat_L12b
    rw [if_neg (lge8 (y := y) (by omega)), nm_u]
    split
    · exact hs 3
    · exact hs (-3)
theorem f_heat (h : Inv N u) {p : Nat} (hp : p < 4) : ∃ v, f_X3_heat N u p = some ((), v) ∧ Inv N v := by
  obtain ⟨o', e1, e2⟩ := f_heat_l (N := N) (u := u) (k := p) (w := u 12 p 0 / 2) (b := u 13 p 0) 8 0 1000000 (u 14 p) rfl (by omega) (h.p p hp).2.2
  refine ⟨setP u p (u 12 p 0 / 2) (u 13 p 0) o', ?_, h.setP e2⟩
  unfold f_X3_heat
  generalize hF : (1000000 : Nat) = F at e1 ⊢
  have e3 : sset u 12 p 0 (u 12 p 0 / 2) = setP u p (u 12 p 0 / 2) (u 13 p 0) (u 14 p) := by
    have := sset_12 (u := u) (k := p) (w := u 12 p 0) (b := u 13 p 0) (o := u 14 p) (x := u 12 p 0 / 2)
    rw [setP_id] at this
    exact this
  rw [nm_u, e3]
  exact e1
theorem Inv.s3 (h : Inv N u) {f k j : Nat} {x : Int32} (hf : ¬ Used f) : Inv N (sset u f k j x) := h.fr (fun a ha => sset_fk (fun e => hf (e ▸ ha)))
theorem nU {f : Nat} (h : f = 3 ∨ f = 12 ∨ f = 13 ∨ f = 23 ∨ f = 35 ∨ f = 41 ∨ f = 50 ∨ f = 51 ∨ f = 52 ∨ f = 60 ∨ f = 61 ∨ f = 62 ∨ f = 63 ∨ f = 70) : ¬ Used f := fun q => by unfold Used at q; omega
theorem burn_ok (h : Inv N u) {p : Nat} (hp : p < 4) (hw : crk (u 12 p 0) = false) : ∃ v, f_X7_burn N u (nI p) = some (.ok (v 12 p 0), v) ∧ Inv N v := by
  obtain ⟨v, e1, e2⟩ := f_heat h hp
  refine ⟨sset v 3 0 0 (v 3 0 0 - 5), ?_, e2.s3 (nU (by omega))⟩
  unfold f_X7_burn
  rw [rqPan (n := 3) h.c0 (by omega) (by omega), xb_ok, rqWhole hp h.n12 hw, xb_ok, gt1 (inb_nI (by omega) (by decide)), ix_nI (by omega), gt1 (by rw [h.n12]; exact hp), e1, sb_some, nm_u]
theorem put_ok (h : Inv N u) {n q : Nat} (o : OK1 u 0 n) (hn : n < 10) (hq : q < 6) : ∃ v, f_X7_put N u (nI q) = some (.ok (nI n), v) ∧ Inv N v ∧ v 43 0 0 = nI (n + 1) ∧ v 42 0 n = nI q := by
  obtain ⟨o1, o2, o3⟩ := o
  have r43 : (sset u 42 0 n (nI q)) 43 0 0 = nI n := (sset_ne (by decide)).trans o2
  refine ⟨sset (sset u 42 0 n (nI q)) 43 0 0 (nI n + 1), ?_, h.ordr (fun f _ h2 h3 => (sset_fk h3).trans (sset_fk h2)) ⟨n + 1, by omega, ?_, fun i hi => ?_⟩, ?_, ?_⟩
  · unfold f_X7_put f_X0_append
    rw [rqPhr (n := 5) h.c1 (by omega) (by omega), xb_ok, o2, if_pos (show nI n < (10 : Int32) from nI_lt (b := 10) hn (by decide)), nm_u, gt1 (inb_nI hn (by decide)), ix_nI (by omega), nm_u, r43, nm_u, sb_some]
  · rw [sset_self, nI_1]
  · rw [sset_ne (by decide)]
    by_cases e : i = n
    · subst e; rw [sset_self]; exact ⟨q, hq, rfl⟩
    · rw [sset_ni e]; exact o3 i (by omega)
  · rw [sset_self, nI_1]
  · rw [sset_ne (by decide), sset_self]
theorem ofPlc0 (h : Inv N u) {n i : Nat} (h43 : u 43 0 0 = nI (n + 1)) (hi : i ≤ n) (hn : n < 10) : f_X7_ofPlace N u (nI i) 0 = some (.ok (u 42 0 i), u) := by
  unfold f_X7_ofPlace
  rw [rqPlc h43 hi (by omega), xb_ok, fwi, sb_some, show win 0 0 1 = 1 from by decide, if_neg (by decide), if_pos rfl, gt1 (inb_nI (by omega) (by decide)), ix_nI (by omega)]
theorem f_close_l : ∀ (d y m n : Nat) (v : St), n ≤ 10 → (∀ f, Used f → f ≠ 42 → f ≠ 43 → v f = u f) → v 43 0 0 = nI (n + 1) → n + 1 ≤ 10 → (∀ i, i < n + 1 → ∃ q, q < 6 ∧ v 42 0 i = nI q) → y + d = n → d < m → ∃ w, f_X0_closeUp_L2 N 0 m (nI y) v = some ((), w) ∧ (∀ f, Used f → f ≠ 42 → f ≠ 43 → w f = u f) ∧ IO (w 42) (w 43) := by
  intro d
  induction d with
  | zero =>
    intro y m n v hn10 hf h43 h10 hq hy hm
    obtain ⟨m', rfl, -⟩ := fuel hm
    refine ⟨sset v 43 0 0 (nI n), ?_, fun f h1 h2 h3 => (sset_fk h3).trans (hf f h1 h2 h3), ⟨n, by omega, sset_self, fun i hi => by rw [sset_ne (by decide)]; exact hq i (by omega)⟩⟩
    show f_X0_closeUp_L2b N 0 (f_X0_closeUp_L2 N 0 m') (nI y) _ = _
    unfold f_X0_closeUp_L2b
    obtain rfl : y = n := by omega
    rw [h43, nI_pred, if_pos (Int32.le_refl _), nm_u]
  | succ d ih =>
    intro y m n v hn10 hf h43 h10 hq hy hm
    obtain ⟨m', rfl, h'⟩ := fuel hm
    obtain ⟨w, e1, e2, e3⟩ := ih (y + 1) m' n (sset v 42 0 y (v 42 0 (y + 1))) hn10 (fun f h1 h2 h3 => (sset_fk h2).trans (hf f h1 h2 h3)) ((sset_ne (by decide)).trans h43) h10 (fun i hi => by
      by_cases e : i = y
      · subst e; rw [sset_self]; exact hq _ (by omega)
      · rw [sset_ni e]; exact hq i hi) (by omega) (h' d rfl)
    refine ⟨w, ?_, e2, e3⟩
    show f_X0_closeUp_L2b N 0 (f_X0_closeUp_L2 N 0 m') (nI y) _ = _
    unfold f_X0_closeUp_L2b
    rw [h43, nI_pred, if_neg (nI_ge (by omega) (by omega)), nI_1, gt1 (inb_nI (by omega) (by decide)), gt1 (inb_nI (by omega) (by decide)), ix_nI (by omega), ix_nI (by omega), nm_u, nm_u]
    exact e1
theorem cut_ok (h : Inv N u) {n i : Nat} (o : OK1 u 0 (n + 1)) (hi : i ≤ n) : ∃ v, ∃ q, q < 6 ∧ f_X7_cut N u (nI i) = some (.ok (nI q), v) ∧ Inv N v := by
  obtain ⟨o1, o2, o3⟩ := o
  obtain ⟨q, hq, e⟩ := o3 i (by omega)
  obtain ⟨w, e1, e2, e3⟩ := f_close_l (N := N) (u := u) (n - i) i 1000000 n u (by omega) (fun _ _ _ _ => rfl) o2 o1 o3 (by omega) (by omega)
  refine ⟨w, q, hq, ?_, h.ordr e2 e3⟩
  unfold f_X7_cut f_X0_closeUp
  generalize hF : (1000000 : Nat) = F at e1 ⊢
  rw [rqPlc o2 hi (by omega), xb_ok, gt1 (inb_nI (by omega) (by decide)), ix_nI (by omega), nm_u, e1, sb_some, e]
theorem absent_ok (h : Inv N u) {k : Nat} (hk : k < 6) {x : Int32} (hx : x = 0 ∨ x = 1) : f_X7_absent N u (nI k) x = some (.ok (u 34 k 0), sset u 34 k 0 x) ∧ Inv N (sset u 34 k 0 x) := by
  refine ⟨?_, h.plr (fun f _ h2 => sset_fk h2) (fun j hj => ?_)⟩
  · unfold f_X7_absent
    rw [rqPly (n := 5) h.c2 (by omega) (by omega), xb_ok, gt1 (inb_nI (by omega) (by decide)), ix_nI (by omega), gt1 (by rw [h.n15]; exact hk), nm_u, gt1 hx, nm_u, gt1 (h.y k hk).2.2.2.2]
  · by_cases e : j = k
    · subst e; rw [sset_self]; exact hx
    · rw [sset_nk e]; exact (h.y j hj).2.2.2.2
end FR
