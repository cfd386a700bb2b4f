/-! 50: change, teach -/
section CT
variable {N : Nt} {u v : St}
theorem xc_er {α β : Type} {E : String} {w : St} {f : α → St → Option β} {g : St → Option β} : xc (some (.error E, w)) E f g = g w := if_pos rfl
theorem xc_ok {α β : Type} {E : String} {x : α} {w : St} {f : α → St → Option β} {g : St → Option β} : xc (some (.ok x, w)) E f g = f x w := rfl
theorem f_most {k q : Nat} : f_X5_mostMemory N u k q = some (most (u 22 q 0) (u 32 k 0), u) := by
  unfold f_X5_mostMemory f_X4_noteCount most
  rw [f_bc, sb_some, sb_some]
  by_cases h : bc (u 22 q 0) ≤ u 32 k 0
  · rw [if_pos h, if_pos h]
  · rw [if_neg h, if_neg h]
theorem most_n (a b : Int32) : ∃ M : Nat, most a b = nI M ∧ M ≤ 100 := by
  unfold most
  split
  · exact ⟨100, rfl, by omega⟩
  · exact ⟨70, rfl, by omega⟩
theorem mem_n (h : Inv N u) {k q : Nat} (hk : k < 6) (hq : q < 6) : ∃ g M : Nat, u 40 k q = nI g ∧ most (u 22 q 0) (u 32 k 0) = nI M ∧ g ≤ M ∧ M ≤ 100 := by
  obtain ⟨M, e1, e2⟩ := most_n (u 22 q 0) (u 32 k 0)
  have hm := (h.m k hk q hq).1
  rw [e1, nI_toInt (by omega)] at hm
  obtain ⟨g, -, e3, e4⟩ := bt_of (a := 0) (b := M) hm
  exact ⟨g, M, e4, e1, e3, e2⟩
def hv (u : St) (q Y : Nat) : St := fun f k i => if f = 40 ∧ i = q ∧ k < Y then mmin (most (u 22 q 0) (u 32 k 0)) (u 40 k q / 2) else u f k i
theorem hv_f {q Y f : Nat} (h : f ≠ 40) : hv u q Y f = u f := funext fun k => funext fun i => if_neg (fun e => h e.1)
theorem hv_0 {q : Nat} : hv u q 0 = u := funext fun f => funext fun k => funext fun i => if_neg (fun e => Nat.not_lt_zero _ e.2.2)
theorem hv_s {q Y : Nat} : sset (hv u q Y) 40 Y q (mmin (most (u 22 q 0) (u 32 Y 0)) (u 40 Y q / 2)) = hv u q (Y + 1) := funext fun f => funext fun k => funext fun i => by
  unfold sset hv
  by_cases h1 : f = 40 ∧ k = Y ∧ i = q
  · obtain ⟨rfl, rfl, rfl⟩ := h1
    rw [if_pos ⟨rfl, rfl, rfl⟩, if_pos ⟨rfl, rfl, by omega⟩]
  · rw [if_neg h1]
    exact ifc (by omega) rfl rfl
theorem f_halve_l (h2 : u 2 0 0 = 6) (h15 : N 15 = 6) {q : Nat} (hq : q < 6) : ∀ (d Y n : Nat), Y + d = 6 → d < n → f_X7_change_L28 N n (nI Y) q (nI q) (hv u q Y) = some (.ok (u 23 q 0), hv u q 6) := by
  intro d
  induction d with
  | zero =>
    intro Y n hY hn
    obtain ⟨n', rfl, -⟩ := fuel hn
    obtain rfl : Y = 6 := by omega
    show f_X7_change_L28b N (f_X7_change_L28 N n') (nI 6) q (nI q) (hv u q 6) = _
    unfold f_X7_change_L28b
    rw [hv_f (f := 2) (by decide), h2, if_pos (by decide), hv_f (f := 23) (by decide)]
  | succ d ih =>
    intro Y n hY hn
    obtain ⟨n', rfl, h'⟩ := fuel hn
    show f_X7_change_L28b N (f_X7_change_L28 N n') (nI Y) q (nI q) (hv u q Y) = _
    unfold f_X7_change_L28b f_X2_halve
    have e40 : hv u q Y 40 (8 * 0 + Y) q = u 40 Y q := by
      rw [Nat.mul_zero, Nat.zero_add]
      exact if_neg (fun e => by omega)
    rw [hv_f (f := 2) (by decide), h2, if_neg (show ¬ (6 : Int32) ≤ nI Y from nI_ge (b := 6) (by omega) (by decide)), gt1 (inb_nI (by omega) (by decide)), ix_nI (by omega), gt1 (by rw [h15]; omega), f_most, sb_some, gt1 (inb_nI (by omega) (by decide)), gt1 (inb_nI (by omega) (by decide)), ix_nI (by omega), e40, hv_f (f := 22) (by decide), hv_f (f := 32) (by decide), nm_u, nm_u, Nat.mul_zero, Nat.zero_add, hv_s, sb_some, nm_u, nI_1]
    exact ih (Y + 1) n' (by omega) (h' d rfl)
theorem mmin_le (a b : Int32) : mmin a b ≤ b := by
  unfold mmin
  split
  · exact Int32.le_refl _
  · rename_i h
    rw [Int32.lt_iff_toInt_lt] at h
    rw [Int32.le_iff_toInt_le]
    omega
theorem change_ok (h : Inv N u) {q a b : Nat} (hq : q < 6) (ha1 : 1 ≤ a) (ha : a ≤ 9) (hb1 : 1 ≤ b) (hb : b ≤ 255) : ∃ v, f_X7_change N u (nI q) (nI a) (nI b) = some (.ok (u 23 q 0 + 1), v) ∧ Inv N v ∧ ∀ k, k < 6 → v 40 k q ≤ u 40 k q / 2 := by
  obtain ⟨w, hw⟩ : ∃ w, w = sset (sset (sset u 21 q 0 (nI a)) 22 q 0 (nI b)) 23 q 0 (u 23 q 0 + 1) := ⟨_, rfl⟩
  have r0 : ∀ f, f ≠ 21 → f ≠ 22 → f ≠ 23 → w f = u f := fun f h1 h2 h3 => by rw [hw, sset_fk h3, sset_fk h2, sset_fk h1]
  have r23 : w 23 q 0 = u 23 q 0 + 1 := by rw [hw, sset_self]
  have e3 : (sset (sset u 21 q 0 (nI a)) 22 q 0 (nI b)) 23 q 0 = u 23 q 0 := by rw [sset_ne (by decide), sset_ne (by decide)]
  have w2 : w 2 0 0 = 6 := by rw [r0 2 (by decide) (by decide) (by decide)]; exact h.c2
  have e1 := f_halve_l (N := N) (u := w) w2 h.n15 hq 6 0 1000000 rfl (by omega)
  rw [hv_0, r23] at e1
  have hb22 : ∀ j, j < 6 → bt (w 22 j 0) 1 255 := fun j hj => by
    rw [hw, sset_ne (by decide)]
    by_cases e : j = q
    · subst e; rw [sset_self]; exact bt_nI (by omega) (by omega) (by omega)
    · rw [sset_nk e, sset_ne (by decide)]; exact (h.r j hj).2.2
  have hb21 : ∀ j, j < 6 → bt (w 21 j 0) 1 9 := fun j hj => by
    rw [hw, sset_ne (by decide), sset_ne (by decide)]
    by_cases e : j = q
    · subst e; rw [sset_self]; exact bt_nI (by omega) (by omega) (by omega)
    · rw [sset_nk e]; exact (h.r j hj).2.1
  have v40 : ∀ k, k < 6 → hv w q 6 40 k q = mmin (most (w 22 q 0) (w 32 k 0)) (u 40 k q / 2) := fun k hk => by
    unfold hv
    rw [if_pos ⟨rfl, rfl, hk⟩, r0 40 (by decide) (by decide) (by decide)]
  have vne : ∀ k j, j ≠ q → hv w q 6 40 k j = u 40 k j := fun k j hj => by
    unfold hv
    rw [if_neg (fun e => hj e.2.1), r0 40 (by decide) (by decide) (by decide)]
  refine ⟨hv w q 6, ?_, ⟨h.n12, h.n14, h.n15, ?_, ?_, fun j hj => ?_, ?_, fun k hk j hj => ?_, ?_, ?_⟩, fun k hk => by rw [v40 k hk]; exact mmin_le _ _⟩
  · unfold f_X7_change f_X7_requirePhraseWords f_X4_tellAnew
    generalize hF : (1000000 : Nat) = F at e1 ⊢
    rw [rqPhr (n := 5) h.c1 (by omega) (by omega), xb_ok, fwi, sb_some, show win (nI a) 1 9 = 1 from win_n (a := 1) (b := 9) ha1 ha (by omega), if_neg (by decide), fwi, sb_some, show win (nI b) 1 255 = 1 from win_n (a := 1) (b := 255) hb1 hb (by omega), if_neg (by decide), xb_ok, gt1 (inb_nI (by omega) (by decide)), ix_nI (by omega), gt1 (by rw [h.n14]; exact hq), nm_u, nm_u, nm_u, e3, ← hw, sb_some]
    exact e1
  · rw [hv_f (f := 0) (by decide), hv_f (f := 1) (by decide), hv_f (f := 2) (by decide), hv_f (f := 4) (by decide), hv_f (f := 64) (by decide), r0 0 (by decide) (by decide) (by decide), r0 1 (by decide) (by decide) (by decide), r0 2 (by decide) (by decide) (by decide), r0 4 (by decide) (by decide) (by decide), r0 64 (by decide) (by decide) (by decide)]; exact h.c
  · rw [hv_f (f := 10) (by decide), hv_f (f := 11) (by decide), hv_f (f := 14) (by decide), r0 10 (by decide) (by decide) (by decide), r0 11 (by decide) (by decide) (by decide), r0 14 (by decide) (by decide) (by decide)]; exact h.p
  · rw [hv_f (f := 20) (by decide), hv_f (f := 21) (by decide), hv_f (f := 22) (by decide), r0 20 (by decide) (by decide) (by decide)]
    exact ⟨(h.r j hj).1, hb21 j hj, hb22 j hj⟩
  · rw [hv_f (f := 30) (by decide), hv_f (f := 31) (by decide), hv_f (f := 32) (by decide), hv_f (f := 33) (by decide), hv_f (f := 34) (by decide), r0 30 (by decide) (by decide) (by decide), r0 31 (by decide) (by decide) (by decide), r0 32 (by decide) (by decide) (by decide), r0 33 (by decide) (by decide) (by decide), r0 34 (by decide) (by decide) (by decide)]; exact h.y
  · rw [hv_f (f := 20) (by decide), hv_f (f := 30) (by decide), hv_f (f := 22) (by decide), hv_f (f := 32) (by decide), r0 20 (by decide) (by decide) (by decide), r0 30 (by decide) (by decide) (by decide), r0 32 (by decide) (by decide) (by decide)]
    by_cases e : j = q
    · subst e
      obtain ⟨g, M0, g1, -, g3, g4⟩ := mem_n h hk hj
      obtain ⟨M, m1, m2⟩ := most_n (w 22 j 0) (u 32 k 0)
      rw [v40 k hk, r0 32 (by decide) (by decide) (by decide), m1, g1, show nI g / 2 = nI (g / 2) from pk_div (d := 2) (by omega) (by decide) (by decide), mmin_n (by omega) (by omega), nI_toInt (by omega)]
      refine ⟨bt_nI (by omega) (by omega) (by omega), fun hne => ?_⟩
      have g0 := (h.m k hk j hj).2 hne
      rw [g1] at g0
      have g00 : g = 0 := (nI_eq (by omega) (by decide)).mp g0
      subst g00
      show nI (min M 0) = 0
      rw [Nat.min_zero]
      rfl
    · rw [vne k j e, show w 22 j 0 = u 22 j 0 from by rw [hw, sset_ne (by decide), sset_nk e, sset_ne (by decide)]]
      exact h.m k hk j hj
  · rw [hv_f (f := 42) (by decide), hv_f (f := 43) (by decide), r0 42 (by decide) (by decide) (by decide), r0 43 (by decide) (by decide) (by decide)]; exact h.o
  · rw [hv_f (f := 53) (by decide), hv_f (f := 65) (by decide), hv_f (f := 66) (by decide), r0 53 (by decide) (by decide) (by decide), r0 65 (by decide) (by decide) (by decide), r0 66 (by decide) (by decide) (by decide)]; exact h.g
/-- one lesson learned, minds 0 -/
theorem f_learn (h : Inv N u) {k q : Nat} (hk : k < 6) (hq : q < 6) {x m : Int32} : f_X2_learn N u 0 (nI k) (nI q) x m = some ((), sset (sset u 40 k q (mmin m (u 40 k q + x))) 41 0 k (u 41 0 k ||| (1 <<< (nI q &&& 31)))) := by
  unfold f_X2_learn
  rw [gt1 (inb_nI (by omega) (by decide)), gt1 (inb_nI (by omega) (by decide)), ix_nI (by omega), ix_nI (by omega), Nat.mul_zero, Nat.zero_add, nm_u, nm_u, nm_u, sset_ne (f := 40) (a := 41) (by decide)]
theorem learn_inv (h : Inv N u) {k q Q : Nat} (hk : k < 6) (hq : q < 6) (hQ : Q ≤ 800) (hs : u 20 q 0 = u 30 k 0) {b : Int32} : Inv N (sset (sset u 40 k q (mmin (most (u 22 q 0) (u 32 k 0)) (u 40 k q + nI Q))) 41 0 k b) := by
  refine (h.mem (v := sset u 40 k q (mmin (most (u 22 q 0) (u 32 k 0)) (u 40 k q + nI Q))) (fun f _ h2 => sset_fk h2) (fun k' hk' j hj => ?_)).s3 (nU (by omega))
  by_cases e : k' = k ∧ j = q
  · obtain ⟨rfl, rfl⟩ := e
    obtain ⟨g, M, g1, g2, g3, g4⟩ := mem_n h hk' hj
    rw [sset_self, g1, g2, nI_add, mmin_n (by omega) (by omega), nI_toInt (by omega)]
    exact ⟨bt_nI (by omega) (by omega) (by omega), fun hne => absurd hs hne⟩
  · rw [show sset u 40 k q (mmin (most (u 22 q 0) (u 32 k 0)) (u 40 k q + nI Q)) 40 k' j = u 40 k' j from by
      unfold sset
      exact if_neg (fun q => e ⟨q.2.1, q.2.2⟩)]
    exact h.m k' hk' j hj
theorem isTaught_ok (h : Inv N u) {k q X : Nat} (hk : k < 6) (hq : q < 6) (hX1 : 1 ≤ X) (hX : X ≤ 60) : ∃ w, f_L_isTaught N u (nI k) (nI q) (nI X) = some (.ok 1, w) ∧ Inv N w := by
  unfold f_L_isTaught
  rw [ofPhr0 h.c1 hq h.n14, xb_ok, ofPly0 h.c2 hk h.n15, xb_ok]
  by_cases hs : u 20 q 0 = u 30 k 0
  · rw [if_pos hs, f_mem h.c2 h.c1 hk hq, xb_ok, ofPly6 h.c2 hk h.n15, xb_ok]
    have hbad : ∀ w : Option (Except String Int32 × St), w = some (.error "java/lang/IllegalStateException", u) → ∀ g2, (∃ w', xc w "java/lang/IllegalStateException" g2 (fun u16 => xb (f_X7_memory N u16 (nI k) (nI q)) fun r39 u41 => if r39 = u 40 k q then xb (f_X7_ofPlayer N u41 (nI k) 6) fun r43 u45 => if r43 = u 35 k 0 then some (.ok 1, u45) else some (.ok 0, u45) else some (.ok 0, u41)) = some ((.ok 1 : Except String Int32), w') ∧ Inv N w') := fun w hw g2 => by
      refine ⟨u, ?_, h⟩
      rw [hw, xc_er, f_mem h.c2 h.c1 hk hq, xb_ok, if_pos rfl, ofPly6 h.c2 hk h.n15, xb_ok, if_pos rfl]
    have hsec := (h.y k hk).1
    obtain ⟨s, -, hs4, es⟩ := bt_of (a := 0) (b := 3) hsec
    have et : f_X7_teach N u (nI k) (nI q) (nI X) = (if u 34 k 0 = 0 then (if u 50 0 s + nI X ≤ 90 then nm (sset u 50 0 s (u 50 0 s + nI X)) fun u18 => nm (sset u18 35 k 0 ((u18 35 k 0) + nI X)) fun u19 => sb (f_X7_giveLesson N u19 0 (nI k) (nI q) (nI X)) fun r20 u22 => some (.ok (u22 40 (8 * 0 + k) q), u22) else some (.error "java/lang/IllegalStateException", u)) else some (.error "java/lang/IllegalStateException", u)) := by
      unfold f_X7_teach f_X7_requireLesson
      rw [rqPly (n := 5) h.c2 (by omega) (by omega), xb_ok, rqPhr (n := 5) h.c1 (by omega) (by omega), xb_ok, fwi, sb_some, show win (nI X) 1 60 = 1 from win_n (a := 1) (b := 60) hX1 hX (by omega), if_neg (by decide), xb_ok, gt1 (inb_nI (by omega) (by decide)), ix_nI (by omega), gt1 (by rw [h.n15]; exact hk), gt1 (inb_nI (by omega) (by decide)), ix_nI (by omega), gt1 (by rw [h.n14]; exact hq), if_pos hs, es, gt1 (inb_nI (by omega) (by decide)), ix_nI (by omega)]
    by_cases ha : u 34 k 0 = 0
    · by_cases hmin : u 50 0 s + nI X ≤ 90
      · obtain ⟨sp, sp1, sp2, sp3⟩ := bt_of (a := 1) (b := 9) (h.y k hk).2.1
        obtain ⟨hd, hd1, hd2, hd3⟩ := bt_of (a := 1) (b := 9) (h.r q hq).2.1
        obtain ⟨u1, hu1⟩ : ∃ u1, u1 = sset (sset u 50 0 s (u 50 0 s + nI X)) 35 k 0 (u 35 k 0 + nI X) := ⟨_, rfl⟩
        have r1 : ∀ f, f ≠ 50 → f ≠ 35 → u1 f = u f := fun f h1 h2 => by rw [hu1, sset_fk h2, sset_fk h1]
        have hI1 : Inv N u1 := h.fr (fun f hf => r1 f (by unfold Used at hf; omega) (by unfold Used at hf; omega))
        have hxs : X * sp ≤ 60 * 9 := Nat.mul_le_mul hX sp2
        have eq : (nI X * nI sp) / nI hd = nI (X * sp / hd) := by rw [pk_mul, pk_div (by omega) hd1 (by omega)]
        have hQ : X * sp / hd ≤ 540 := Nat.le_trans (Nat.div_le_self _ _) hxs
        obtain ⟨Q, hQ9⟩ : ∃ Q, Q = X * sp / hd := ⟨_, rfl⟩
        rw [← hQ9] at eq hQ
        obtain ⟨g, M, g1, g2, g3, g4⟩ := mem_n h hk hq
        obtain ⟨v, hv9⟩ : ∃ v, v = sset (sset u1 40 k q (mmin (most (u1 22 q 0) (u1 32 k 0)) (u1 40 k q + nI Q))) 41 0 k (u1 41 0 k ||| (1 <<< (nI q &&& 31))) := ⟨_, rfl⟩
        have hIv : Inv N v := by
          rw [hv9]
          exact learn_inv hI1 hk hq (by omega) (by rw [r1 20 (by decide) (by decide), r1 30 (by decide) (by decide)]; exact hs)
        have v40 : v 40 k q = nI (min M (g + Q)) := by
          rw [hv9, sset_ne (by decide), sset_self, r1 22 (by decide) (by decide), r1 32 (by decide) (by decide), r1 40 (by decide) (by decide), g1, g2, nI_add, mmin_n (by omega) (by omega)]
        have v35 : v 35 k 0 = u 35 k 0 + nI X := by rw [hv9, sset_ne (by decide), sset_ne (by decide), hu1, sset_self]
        have v34 : v 34 k 0 = 0 := by rw [hv9, sset_ne (by decide), sset_ne (by decide), r1 34 (by decide) (by decide)]; exact ha
        have v31 : v 31 k 0 = nI sp := by rw [hv9, sset_ne (by decide), sset_ne (by decide), r1 31 (by decide) (by decide)]; exact sp3
        have v21 : v 21 q 0 = nI hd := by rw [hv9, sset_ne (by decide), sset_ne (by decide), r1 21 (by decide) (by decide)]; exact hd3
        have hne : ¬ nI hd = 0 := nI_ne0 hd1 (by omega)
        have etv : f_X7_teach N u (nI k) (nI q) (nI X) = some (.ok (nI (min M (g + Q))), v) := by
          rw [et, if_pos ha, if_pos hmin, nm_u, nm_u, sset_ne (f := 50) (a := 35) (by decide), ← hu1]
          unfold f_X7_giveLesson
          rw [gt1 (inb_nI (by omega) (by decide)), ix_nI (by omega), gt1 (by rw [h.n15]; exact hk), gt1 (inb_nI (by omega) (by decide)), ix_nI (by omega), gt1 (by rw [h.n14]; exact hq), gt1 (by rw [r1 21 (by decide) (by decide), hd3]; exact hne), f_most, sb_some, r1 31 (by decide) (by decide), r1 21 (by decide) (by decide), sp3, hd3, eq, f_learn hI1 hk hq, sb_some, sb_some, ← hv9, Nat.mul_zero, Nat.zero_add, v40]
        rw [etv]
        refine ⟨v, ?_, hIv⟩
        rw [xc_ok, g1, if_neg (nI_nlt (by omega) (by omega)), if_neg (show ¬ (100 : Int32) < nI (min M (g + Q)) from nI_nlt (a := 100) (by omega) (by omega)), ofPly1 hIv.c2 hk hIv.n15, xb_ok, ofPhr1 hIv.c1 hq hIv.n14, xb_ok, v21, v31, gt1 hne, eq, pk_sub (by omega), if_neg (nI_nlt (by omega) (by omega)), f_mem hIv.c2 hIv.c1 hk hq, xb_ok, v40, if_pos rfl, ofPly6 hIv.c2 hk hIv.n15, xb_ok, v35, if_pos rfl, ofPly4 hIv.c2 hk hIv.n15, xb_ok, v34]
        rfl
      · exact hbad _ (by rw [et, if_pos ha, if_neg hmin]) _
    · exact hbad _ (by rw [et, if_neg ha]) _
  · refine ⟨u, ?_, h⟩
    rw [if_neg hs, f_mem h.c2 h.c1 hk hq, xb_ok, if_pos ((h.m k hk q hq).2 hs)]
end CT
