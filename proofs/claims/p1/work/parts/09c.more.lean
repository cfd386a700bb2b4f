/-! 09c: one object more -/
theorem upA_ne {ad : Ad} {kd k q a : Nat} (h : a ≠ kd) : upA ad kd k q a = ad a := funext fun b => by simp [upA, h]
def mkPan (u : St) (n : Nat) (x fam : Int32) : St := fun f k i => if f = 0 ∧ k = 0 ∧ i = 0 then u 0 0 0 + 1 else if k = n ∧ f = 10 then x else if k = n ∧ f = 11 then fam else if k = n ∧ f = 12 then 0 else if k = n ∧ f = 13 then 0 else if k = n ∧ f = 14 then panOff x fam (nI i) else u f k i
set_option maxRecDepth 100000 in
set_option maxHeartbeats 8000000 in
theorem mkPan_w {z : Zt} {ad : Ad} {N : Nt} {X : Gt} {u : St} {G2 G3 : Gt} {b : Nat} {n0 : Nat} {F : Nat → Int32} {x fam : Int32} {H : Heap} (hA : Raw ad) (hnb : GC z ad N X u 99 b = none) (hE : Ext0 (GC z ad N X u) G2) (hJ : JJ G2 G3 b (.inr (3, [.int x, .ref n0, .int fam, .int 0, .int 0])) [(n0, .inl (z.2.2 0, 8, .inl F))]) (hF : ∀ j, j < 8 → F j = panOff x fam (nI j)) (hP : ∀ i, i < N 15 → ppan (Nup N 12) u i = ppan N u i) (hn : N 12 < 6)
    (hW : GW z ad (up2 (up2 G3 1 0 (.inl (z.2.2 2, 6, .inr (.inr (.inr (.inr (va_up (qrow (N 12) (ad 12)) (N 12) (some b)))))))) 0 0 (.inr (7, [.ref (ad 1 0), .ref (ad 2 0), .ref (ad 3 0), .ref (ad 8 0), .ref (ad 10 0), .ref (ad 5 0), .ref (ad 6 0), .int (u 0 0 0 + 1), .int (u 1 0 0), .int (u 2 0 0), .int (u 3 0 0), .int (u 4 0 0), .ref (ad 12 6), .ref (ad 8 1), .ref (ad 10 1), .ref (ad 4 0)]))) H) : ∃ ad' : Ad, (∀ a c, ¬ (c = N 12 ∧ (a = 12 ∨ a = 13)) → ad' a c = ad a c) ∧ GW z ad' (GC z ad' (Nup N 12) X (mkPan u (N 12) x fam)) H := by
  obtain ⟨j1, j2, j3, j4⟩ := hJ
  have hn0 : GC z ad N X u 99 n0 = none := by
    cases hc : GC z ad N X u 99 n0 with
    | none => rfl
    | some e9 => have h9 := j4.2 n0 (by simp); rw [hE _ _ _ hc] at h9; cases h9
  have hb0 : n0 ≠ b := (j3 _ (List.mem_singleton.mpr rfl)).2
  have jn : G3 99 n0 = some (.inl (z.2.2 0, 8, .inl F)) := (j3 _ (List.mem_singleton.mpr rfl)).1
  replace hW := arr_same (F' := fun j => panOff x fam (nI j)) hW (kd := 99) (k := n0) ((up2_ne (by simp)).trans ((up2_ne (by simp)).trans jn)) hF
  have base : ∀ kd k e, ¬ (kd = 0 ∧ k = 0) → ¬ (kd = 1 ∧ k = 0) → GC z ad N X u kd k = some e → up2 (up2 (up2 G3 1 0 (.inl (z.2.2 2, 6, .inr (.inr (.inr (.inr (va_up (qrow (N 12) (ad 12)) (N 12) (some b)))))))) 0 0 (.inr (7, [.ref (ad 1 0), .ref (ad 2 0), .ref (ad 3 0), .ref (ad 8 0), .ref (ad 10 0), .ref (ad 5 0), .ref (ad 6 0), .int (u 0 0 0 + 1), .int (u 1 0 0), .int (u 2 0 0), .int (u 3 0 0), .int (u 4 0 0), .ref (ad 12 6), .ref (ad 8 1), .ref (ad 10 1), .ref (ad 4 0)]))) 99 n0 (.inl (z.2.2 0, 8, .inl (fun j => panOff x fam (nI j)))) kd k = some e := fun kd k e c0 c1 hk => by
    have c2 : ¬ (kd = 99 ∧ k = b) := fun h => by rw [h.1, h.2, hnb] at hk; cases hk
    have c3 : ¬ (kd = 99 ∧ k = n0) := fun h => by rw [h.1, h.2, hn0] at hk; cases hk
    rw [up2_ne c3, up2_ne c0, up2_ne c1]
    exact j1 _ _ _ c2 (hE _ _ _ hk)
  have q0 : up2 (up2 (up2 G3 1 0 (.inl (z.2.2 2, 6, .inr (.inr (.inr (.inr (va_up (qrow (N 12) (ad 12)) (N 12) (some b)))))))) 0 0 (.inr (7, [.ref (ad 1 0), .ref (ad 2 0), .ref (ad 3 0), .ref (ad 8 0), .ref (ad 10 0), .ref (ad 5 0), .ref (ad 6 0), .int (u 0 0 0 + 1), .int (u 1 0 0), .int (u 2 0 0), .int (u 3 0 0), .int (u 4 0 0), .ref (ad 12 6), .ref (ad 8 1), .ref (ad 10 1), .ref (ad 4 0)]))) 99 n0 (.inl (z.2.2 0, 8, .inl (fun j => panOff x fam (nI j)))) 0 0 = some (.inr (7, [.ref (ad 1 0), .ref (ad 2 0), .ref (ad 3 0), .ref (ad 8 0), .ref (ad 10 0), .ref (ad 5 0), .ref (ad 6 0), .int (u 0 0 0 + 1), .int (u 1 0 0), .int (u 2 0 0), .int (u 3 0 0), .int (u 4 0 0), .ref (ad 12 6), .ref (ad 8 1), .ref (ad 10 1), .ref (ad 4 0)])) := (up2_ne (by simp)).trans up2_self
  have q1 : up2 (up2 (up2 G3 1 0 (.inl (z.2.2 2, 6, .inr (.inr (.inr (.inr (va_up (qrow (N 12) (ad 12)) (N 12) (some b)))))))) 0 0 (.inr (7, [.ref (ad 1 0), .ref (ad 2 0), .ref (ad 3 0), .ref (ad 8 0), .ref (ad 10 0), .ref (ad 5 0), .ref (ad 6 0), .int (u 0 0 0 + 1), .int (u 1 0 0), .int (u 2 0 0), .int (u 3 0 0), .int (u 4 0 0), .ref (ad 12 6), .ref (ad 8 1), .ref (ad 10 1), .ref (ad 4 0)]))) 99 n0 (.inl (z.2.2 0, 8, .inl (fun j => panOff x fam (nI j)))) 1 0 = some (.inl (z.2.2 2, 6, .inr (.inr (.inr (.inr (va_up (qrow (N 12) (ad 12)) (N 12) (some b))))))) := (up2_ne (by simp)).trans ((up2_ne (by simp)).trans up2_self)
  have qb : up2 (up2 (up2 G3 1 0 (.inl (z.2.2 2, 6, .inr (.inr (.inr (.inr (va_up (qrow (N 12) (ad 12)) (N 12) (some b)))))))) 0 0 (.inr (7, [.ref (ad 1 0), .ref (ad 2 0), .ref (ad 3 0), .ref (ad 8 0), .ref (ad 10 0), .ref (ad 5 0), .ref (ad 6 0), .int (u 0 0 0 + 1), .int (u 1 0 0), .int (u 2 0 0), .int (u 3 0 0), .int (u 4 0 0), .ref (ad 12 6), .ref (ad 8 1), .ref (ad 10 1), .ref (ad 4 0)]))) 99 n0 (.inl (z.2.2 0, 8, .inl (fun j => panOff x fam (nI j)))) 99 b = some (.inr (3, [.int x, .ref n0, .int fam, .int 0, .int 0])) := (up2_ne (fun h => hb0 h.2.symm)).trans ((up2_ne (by simp)).trans ((up2_ne (by simp)).trans j2))
  have qn : up2 (up2 (up2 G3 1 0 (.inl (z.2.2 2, 6, .inr (.inr (.inr (.inr (va_up (qrow (N 12) (ad 12)) (N 12) (some b)))))))) 0 0 (.inr (7, [.ref (ad 1 0), .ref (ad 2 0), .ref (ad 3 0), .ref (ad 8 0), .ref (ad 10 0), .ref (ad 5 0), .ref (ad 6 0), .int (u 0 0 0 + 1), .int (u 1 0 0), .int (u 2 0 0), .int (u 3 0 0), .int (u 4 0 0), .ref (ad 12 6), .ref (ad 8 1), .ref (ad 10 1), .ref (ad 4 0)]))) 99 n0 (.inl (z.2.2 0, 8, .inl (fun j => panOff x fam (nI j)))) 99 n0 = some (.inl (z.2.2 0, 8, .inl (fun j => panOff x fam (nI j)))) := up2_self
  generalize up2 (up2 (up2 G3 1 0 (.inl (z.2.2 2, 6, .inr (.inr (.inr (.inr (va_up (qrow (N 12) (ad 12)) (N 12) (some b)))))))) 0 0 (.inr (7, [.ref (ad 1 0), .ref (ad 2 0), .ref (ad 3 0), .ref (ad 8 0), .ref (ad 10 0), .ref (ad 5 0), .ref (ad 6 0), .int (u 0 0 0 + 1), .int (u 1 0 0), .int (u 2 0 0), .int (u 3 0 0), .int (u 4 0 0), .ref (ad 12 6), .ref (ad 8 1), .ref (ad 10 1), .ref (ad 4 0)]))) 99 n0 (.inl (z.2.2 0, 8, .inl (fun j => panOff x fam (nI j)))) = G6 at hW base q0 q1 qb qn
  have hx : ∀ kd k, 22 ≤ kd → GC z (upA (upA ad 12 (N 12) b) 13 (N 12) n0) (Nup N 12) X (mkPan u (N 12) x fam) kd k = X kd k := fun kd k h22 => by
    unfold GC
    split <;> first | (exfalso; omega) | rfl
  have hx0 : ∀ kd k, 22 ≤ kd → GC z ad N X u kd k = X kd k := fun kd k h22 => by
    unfold GC
    split <;> first | (exfalso; omega) | rfl
  have same : ∀ kd k, kd ≠ 0 → kd ≠ 1 → ¬ (k = N 12 ∧ (kd = 12 ∨ kd = 13)) → GC z (upA (upA ad 12 (N 12) b) 13 (N 12) n0) (Nup N 12) X (mkPan u (N 12) x fam) kd k = GC z ad N X u kd k := fun kd k c0 c1 c2 => by
    rcases Nat.lt_or_ge kd 22 with h22 | h22
    · rcases (show kd = 0 ∨ kd = 1 ∨ kd = 2 ∨ kd = 3 ∨ kd = 4 ∨ kd = 5 ∨ kd = 6 ∨ kd = 7 ∨ kd = 8 ∨ kd = 9 ∨ kd = 10 ∨ kd = 11 ∨ kd = 12 ∨ kd = 13 ∨ kd = 14 ∨ kd = 15 ∨ kd = 16 ∨ kd = 17 ∨ kd = 18 ∨ kd = 19 ∨ kd = 20 ∨ kd = 21 by omega) with rfl | rfl | rfl | rfl | rfl | rfl | rfl | rfl | rfl | rfl | rfl | rfl | rfl | rfl | rfl | rfl | rfl | rfl | rfl | rfl | rfl | rfl
      · exact absurd rfl c0
      · exact absurd rfl c1
      · simp [GC, mkPan, upA_ne, Nup]
      · simp [GC, mkPan, upA_ne, Nup]
      · have hm : (mkPan u (N 12) x fam) 70 k = u 70 k := funext fun i => by simp [mkPan]
        show (if k = 0 then (some (Sum.inl (z.2.2 0, 8, Sum.inl ((mkPan u (N 12) x fam) 70 k))) : Option va_E) else none) = (if k = 0 then some (Sum.inl (z.2.2 0, 8, Sum.inl (u 70 k))) else none)
        rw [hm]
      · simp [GC, mkPan, upA_ne, Nup]
      · simp [GC, mkPan, upA_ne, Nup]
      · have hm : (mkPan u (N 12) x fam) 50 k = u 50 k := funext fun i => by simp [mkPan]
        show (if k = 0 then (some (Sum.inl (z.2.2 0, 4, Sum.inl ((mkPan u (N 12) x fam) 50 k))) : Option va_E) else none) = (if k = 0 then some (Sum.inl (z.2.2 0, 4, Sum.inl (u 50 k))) else none)
        rw [hm]
      · simp [GC, mkPan, upA_ne, Nup]
      · have hm : (mkPan u (N 12) x fam) 42 k = u 42 k := funext fun i => by simp [mkPan]
        show (if k < 2 then (some (Sum.inl (z.2.2 0, 10, Sum.inl ((mkPan u (N 12) x fam) 42 k))) : Option va_E) else none) = (if k < 2 then some (Sum.inl (z.2.2 0, 10, Sum.inl (u 42 k))) else none)
        rw [hm]
      · simp [GC, mkPan, upA_ne, Nup]
      · simp [GC, mkPan, upA_ne, Nup]
      · have hk : k ≠ N 12 := fun h => c2 ⟨h, by simp⟩
        have hiff : vPan (Nup N 12) k ↔ vPan N k := by simp only [vPan, Nup, if_pos]; omega
        have hm : ∀ i, (mkPan u (N 12) x fam) 14 k i = u 14 k i := fun i => by simp [mkPan, hk]
        show (if vPan (Nup N 12) k then some _ else none) = (if vPan N k then some _ else none)
        by_cases h : vPan N k
        · rw [if_pos h, if_pos (hiff.mpr h)]
          simp [mkPan, upA, hk]
        · rw [if_neg h, if_neg (fun q => h (hiff.mp q))]
      · have hk : k ≠ N 12 := fun h => c2 ⟨h, by simp⟩
        have hiff : vPan (Nup N 12) k ↔ vPan N k := by simp only [vPan, Nup, if_pos]; omega
        have hm : ∀ i, (mkPan u (N 12) x fam) 14 k i = u 14 k i := fun i => by simp [mkPan, hk]
        show (if vPan (Nup N 12) k then some _ else none) = (if vPan N k then some _ else none)
        by_cases h : vPan N k
        · rw [if_pos h, if_pos (hiff.mpr h)]
          rw [show (mkPan u (N 12) x fam) 14 k = u 14 k from funext hm]
        · rw [if_neg h, if_neg (fun q => h (hiff.mp q))]
      · simp [GC, mkPan, upA_ne, Nup]
      · show (if k < Nup N 12 15 then some _ else none) = (if k < N 15 then some _ else none)
        by_cases h : k < N 15
        · have h15 : Nup N 12 15 = N 15 := by simp [Nup]
          rw [if_pos h, h15, if_pos h]
          have e1 : ppan (Nup N 12) (mkPan u (N 12) x fam) k = ppan N u k := by
            rw [← hP k h]; unfold ppan; simp [mkPan]
          have e2 : (ppan N u k).map (upA (upA ad 12 (N 12) b) 13 (N 12) n0 12) = (ppan N u k).map (ad 12) := by
            cases hq : ppan N u k with
            | none => rfl
            | some q => have hlt := ppan_lt hq; simp [upA, Nat.ne_of_lt hlt]
          rw [e1, e2]
          simp [mkPan]
        · have h15 : Nup N 12 15 = N 15 := by simp [Nup]
          rw [if_neg h, h15, if_neg h]
      · have hm : (mkPan u (N 12) x fam) 60 k = u 60 k := funext fun i => by simp [mkPan]
        show (if k = 0 then (some (Sum.inl (z.2.2 0, 6, Sum.inl ((mkPan u (N 12) x fam) 60 k))) : Option va_E) else none) = (if k = 0 then some (Sum.inl (z.2.2 0, 6, Sum.inl (u 60 k))) else none)
        rw [hm]
      · have hm : (mkPan u (N 12) x fam) 61 k = u 61 k := funext fun i => by simp [mkPan]
        show (if k = 0 then (some (Sum.inl (z.2.2 0, 3, Sum.inl ((mkPan u (N 12) x fam) 61 k))) : Option va_E) else none) = (if k = 0 then some (Sum.inl (z.2.2 0, 3, Sum.inl (u 61 k))) else none)
        rw [hm]
      · have hm : (mkPan u (N 12) x fam) 62 k = u 62 k := funext fun i => by simp [mkPan]
        show (if k = 0 then (some (Sum.inl (z.2.2 0, 3, Sum.inl ((mkPan u (N 12) x fam) 62 k))) : Option va_E) else none) = (if k = 0 then some (Sum.inl (z.2.2 0, 3, Sum.inl (u 62 k))) else none)
        rw [hm]
      · have hm : (mkPan u (N 12) x fam) 63 k = u 63 k := funext fun i => by simp [mkPan]
        show (if k = 0 then (some (Sum.inl (z.2.2 0, 3, Sum.inl ((mkPan u (N 12) x fam) 63 k))) : Option va_E) else none) = (if k = 0 then some (Sum.inl (z.2.2 0, 3, Sum.inl (u 63 k))) else none)
        rw [hm]
      · have hm : (mkPan u (N 12) x fam) 40 k = u 40 k := funext fun i => by simp [mkPan]
        show (if k < 16 then (some (Sum.inl (z.2.2 0, 8, Sum.inl ((mkPan u (N 12) x fam) 40 k))) : Option va_E) else none) = (if k < 16 then some (Sum.inl (z.2.2 0, 8, Sum.inl (u 40 k))) else none)
        rw [hm]
      · have hm : (mkPan u (N 12) x fam) 41 k = u 41 k := funext fun i => by simp [mkPan]
        show (if k < 2 then (some (Sum.inl (z.2.2 0, 8, Sum.inl ((mkPan u (N 12) x fam) 41 k))) : Option va_E) else none) = (if k < 2 then some (Sum.inl (z.2.2 0, 8, Sum.inl (u 41 k))) else none)
        rw [hm]
    · rw [hx _ _ h22, hx0 _ _ h22]
  refine ⟨upA (upA ad 12 (N 12) b) 13 (N 12) n0, fun a c h => ?_, gw_to hW (fun kd k => if kd = 12 ∧ k = N 12 then (99, b) else if kd = 13 ∧ k = N 12 then (99, n0) else (kd, k)) (fun kd k e h => ?_) (fun kd k e kd' k' e' h h' hφ => ?_)⟩
  · simp only [upA]
    rw [if_neg (fun q => h ⟨q.2, Or.inr q.1⟩), if_neg (fun q => h ⟨q.2, Or.inl q.1⟩)]
  · by_cases c2 : k = N 12 ∧ (kd = 12 ∨ kd = 13)
    · obtain ⟨rfl, c3⟩ := c2
      rcases c3 with rfl | rfl
      · replace h : (if vPan (Nup N 12) (N 12) then some _ else none) = some e := h
        rw [if_pos (Or.inl (by simp [Nup]))] at h
        cases h
        rw [if_pos ⟨rfl, rfl⟩]
        refine ⟨qb.trans (congrArg some ?_), by simp [upA, hA _]⟩
        simp [mkPan, upA]
      · replace h : (if vPan (Nup N 12) (N 12) then some _ else none) = some e := h
        rw [if_pos (Or.inl (by simp [Nup]))] at h
        cases h
        rw [if_neg (by simp), if_pos ⟨rfl, rfl⟩]
        refine ⟨qn.trans (congrArg some ?_), by simp [upA, hA _]⟩
        rw [show (mkPan u (N 12) x fam) 14 (N 12) = (fun j => panOff x fam (nI j)) from funext fun i => by simp [mkPan]]
    · have hphi : (if kd = 12 ∧ k = N 12 then (99, b) else if kd = 13 ∧ k = N 12 then (99, n0) else (kd, k)) = (kd, k) := by
        rw [if_neg (fun q => c2 ⟨q.2, Or.inl q.1⟩), if_neg (fun q => c2 ⟨q.2, Or.inr q.1⟩)]
      rw [hphi]
      refine ⟨?_, ?_⟩
      · by_cases c0 : kd = 0
        · subst c0
          replace h : (if k = 0 then some _ else none) = some e := h
          by_cases hk : k = 0
          · rw [if_pos hk] at h; subst hk; cases h
            refine q0.trans (congrArg some ?_)
            simp [mkPan, upA, show (6 : Nat) ≠ N 12 by omega]
          · rw [if_neg hk] at h; cases h
        · by_cases c1 : kd = 1
          · subst c1
            replace h : (if k = 0 then some _ else none) = some e := h
            by_cases hk : k = 0
            · rw [if_pos hk] at h; subst hk; cases h
              refine q1.trans (congrArg some ?_)
              rw [show Nup N 12 12 = N 12 + 1 by simp [Nup], qrow_push (g := ad 12) (b := b) (fun i hi => by simp [upA, Nat.ne_of_lt hi]) (by simp [upA])]
            · rw [if_neg hk] at h; cases h
          · rw [same kd k c0 c1 c2] at h
            exact base kd k e (fun q => c0 q.1) (fun q => c1 q.1) h
      · simp only [upA]
        rw [if_neg (fun q => c2 ⟨q.2, Or.inr q.1⟩), if_neg (fun q => c2 ⟨q.2, Or.inl q.1⟩)]
  · have h99 : ∀ k e, GC z (upA (upA ad 12 (N 12) b) 13 (N 12) n0) (Nup N 12) X (mkPan u (N 12) x fam) 99 k = some e → k ≠ b ∧ k ≠ n0 := fun k e hg => by
      rw [hx 99 k (by decide), ← hx0 99 k (by decide)] at hg
      exact ⟨fun q => (by rw [q, hnb] at hg; cases hg), fun q => (by rw [q, hn0] at hg; cases hg)⟩
    by_cases a1 : kd = 12 ∧ k = N 12 <;> by_cases a2 : kd' = 12 ∧ k' = N 12
    · exact ⟨a1.1.trans a2.1.symm, a1.2.trans a2.2.symm⟩
    · rw [if_pos a1, if_neg a2] at hφ
      by_cases a3 : kd' = 13 ∧ k' = N 12
      · rw [if_pos a3] at hφ; exact absurd (congrArg Prod.snd hφ).symm hb0
      · rw [if_neg a3] at hφ
        have e1 : kd' = 99 := (congrArg Prod.fst hφ).symm
        have e2 : k' = b := (congrArg Prod.snd hφ).symm
        rw [e1] at h'; exact absurd e2 (h99 _ _ h').1
    · rw [if_neg a1, if_pos a2] at hφ
      by_cases a3 : kd = 13 ∧ k = N 12
      · rw [if_pos a3] at hφ; exact absurd (congrArg Prod.snd hφ) hb0
      · rw [if_neg a3] at hφ
        have e1 : kd = 99 := congrArg Prod.fst hφ
        have e2 : k = b := congrArg Prod.snd hφ
        rw [e1] at h; exact absurd e2 (h99 _ _ h).1
    · rw [if_neg a1, if_neg a2] at hφ
      by_cases a3 : kd = 13 ∧ k = N 12 <;> by_cases a4 : kd' = 13 ∧ k' = N 12
      · exact ⟨a3.1.trans a4.1.symm, a3.2.trans a4.2.symm⟩
      · rw [if_pos a3, if_neg a4] at hφ
        have e1 : kd' = 99 := (congrArg Prod.fst hφ).symm
        have e2 : k' = n0 := (congrArg Prod.snd hφ).symm
        rw [e1] at h'; exact absurd e2 (h99 _ _ h').2
      · rw [if_neg a3, if_pos a4] at hφ
        have e1 : kd = 99 := congrArg Prod.fst hφ
        have e2 : k = n0 := congrArg Prod.snd hφ
        rw [e1] at h; exact absurd e2 (h99 _ _ h).2
      · rw [if_neg a3, if_neg a4] at hφ
        exact ⟨congrArg Prod.fst hφ, congrArg Prod.snd hφ⟩
def mkPhr (u : St) (n : Nat) (sec hard notes : Int32) : St := fun f k i => if f = 1 ∧ k = 0 ∧ i = 0 then u 1 0 0 + 1 else if k = n ∧ f = 20 then sec else if k = n ∧ f = 21 then hard else if k = n ∧ f = 22 then notes else if k = n ∧ f = 23 then 0 else u f k i
set_option maxRecDepth 100000 in
set_option maxHeartbeats 8000000 in
theorem mkPhr_w {z : Zt} {ad : Ad} {N : Nt} {X : Gt} {u : St} {G2 G3 : Gt} {b : Nat} {sec hard notes : Int32} {H : Heap} (hA : Raw ad) (hnb : GC z ad N X u 99 b = none) (hE : Ext0 (GC z ad N X u) G2) (hJ : JJ G2 G3 b (.inr (4, [.int sec, .int hard, .int notes, .int 0])) []) (hn : N 14 < 8)
    (hW : GW z ad (up2 (up2 G3 2 0 (.inl (z.2.2 3, 8, .inr (.inr (.inr (.inr (va_up (qrow (N 14) (ad 14)) (N 14) (some b)))))))) 0 0 (.inr (7, [.ref (ad 1 0), .ref (ad 2 0), .ref (ad 3 0), .ref (ad 8 0), .ref (ad 10 0), .ref (ad 5 0), .ref (ad 6 0), .int (u 0 0 0), .int (u 1 0 0 + 1), .int (u 2 0 0), .int (u 3 0 0), .int (u 4 0 0), .ref (ad 12 6), .ref (ad 8 1), .ref (ad 10 1), .ref (ad 4 0)]))) H) : ∃ ad' : Ad, (∀ a c, ¬ (c = N 14 ∧ a = 14) → ad' a c = ad a c) ∧ GW z ad' (GC z ad' (Nup N 14) X (mkPhr u (N 14) sec hard notes)) H := by
  obtain ⟨j1, j2, j3, j4⟩ := hJ
  have base : ∀ kd k e, ¬ (kd = 0 ∧ k = 0) → ¬ (kd = 2 ∧ k = 0) → GC z ad N X u kd k = some e → up2 (up2 G3 2 0 (.inl (z.2.2 3, 8, .inr (.inr (.inr (.inr (va_up (qrow (N 14) (ad 14)) (N 14) (some b)))))))) 0 0 (.inr (7, [.ref (ad 1 0), .ref (ad 2 0), .ref (ad 3 0), .ref (ad 8 0), .ref (ad 10 0), .ref (ad 5 0), .ref (ad 6 0), .int (u 0 0 0), .int (u 1 0 0 + 1), .int (u 2 0 0), .int (u 3 0 0), .int (u 4 0 0), .ref (ad 12 6), .ref (ad 8 1), .ref (ad 10 1), .ref (ad 4 0)])) kd k = some e := fun kd k e c0 c1 hk => by
    have c2 : ¬ (kd = 99 ∧ k = b) := fun h => by rw [h.1, h.2, hnb] at hk; cases hk
    rw [up2_ne c0, up2_ne c1]
    exact j1 _ _ _ c2 (hE _ _ _ hk)
  have q0 : up2 (up2 G3 2 0 (.inl (z.2.2 3, 8, .inr (.inr (.inr (.inr (va_up (qrow (N 14) (ad 14)) (N 14) (some b)))))))) 0 0 (.inr (7, [.ref (ad 1 0), .ref (ad 2 0), .ref (ad 3 0), .ref (ad 8 0), .ref (ad 10 0), .ref (ad 5 0), .ref (ad 6 0), .int (u 0 0 0), .int (u 1 0 0 + 1), .int (u 2 0 0), .int (u 3 0 0), .int (u 4 0 0), .ref (ad 12 6), .ref (ad 8 1), .ref (ad 10 1), .ref (ad 4 0)])) 0 0 = some (.inr (7, [.ref (ad 1 0), .ref (ad 2 0), .ref (ad 3 0), .ref (ad 8 0), .ref (ad 10 0), .ref (ad 5 0), .ref (ad 6 0), .int (u 0 0 0), .int (u 1 0 0 + 1), .int (u 2 0 0), .int (u 3 0 0), .int (u 4 0 0), .ref (ad 12 6), .ref (ad 8 1), .ref (ad 10 1), .ref (ad 4 0)])) := up2_self
  have q1 : up2 (up2 G3 2 0 (.inl (z.2.2 3, 8, .inr (.inr (.inr (.inr (va_up (qrow (N 14) (ad 14)) (N 14) (some b)))))))) 0 0 (.inr (7, [.ref (ad 1 0), .ref (ad 2 0), .ref (ad 3 0), .ref (ad 8 0), .ref (ad 10 0), .ref (ad 5 0), .ref (ad 6 0), .int (u 0 0 0), .int (u 1 0 0 + 1), .int (u 2 0 0), .int (u 3 0 0), .int (u 4 0 0), .ref (ad 12 6), .ref (ad 8 1), .ref (ad 10 1), .ref (ad 4 0)])) 2 0 = some (.inl (z.2.2 3, 8, .inr (.inr (.inr (.inr (va_up (qrow (N 14) (ad 14)) (N 14) (some b))))))) := (up2_ne (by simp)).trans up2_self
  have qb : up2 (up2 G3 2 0 (.inl (z.2.2 3, 8, .inr (.inr (.inr (.inr (va_up (qrow (N 14) (ad 14)) (N 14) (some b)))))))) 0 0 (.inr (7, [.ref (ad 1 0), .ref (ad 2 0), .ref (ad 3 0), .ref (ad 8 0), .ref (ad 10 0), .ref (ad 5 0), .ref (ad 6 0), .int (u 0 0 0), .int (u 1 0 0 + 1), .int (u 2 0 0), .int (u 3 0 0), .int (u 4 0 0), .ref (ad 12 6), .ref (ad 8 1), .ref (ad 10 1), .ref (ad 4 0)])) 99 b = some (.inr (4, [.int sec, .int hard, .int notes, .int 0])) := (up2_ne (by simp)).trans ((up2_ne (by simp)).trans j2)
  generalize up2 (up2 G3 2 0 (.inl (z.2.2 3, 8, .inr (.inr (.inr (.inr (va_up (qrow (N 14) (ad 14)) (N 14) (some b)))))))) 0 0 (.inr (7, [.ref (ad 1 0), .ref (ad 2 0), .ref (ad 3 0), .ref (ad 8 0), .ref (ad 10 0), .ref (ad 5 0), .ref (ad 6 0), .int (u 0 0 0), .int (u 1 0 0 + 1), .int (u 2 0 0), .int (u 3 0 0), .int (u 4 0 0), .ref (ad 12 6), .ref (ad 8 1), .ref (ad 10 1), .ref (ad 4 0)])) = G6 at hW base q0 q1 qb
  have hx : ∀ kd k, 22 ≤ kd → GC z (upA ad 14 (N 14) b) (Nup N 14) X (mkPhr u (N 14) sec hard notes) kd k = X kd k := fun kd k h22 => by
    unfold GC
    split <;> first | (exfalso; omega) | rfl
  have hx0 : ∀ kd k, 22 ≤ kd → GC z ad N X u kd k = X kd k := fun kd k h22 => by
    unfold GC
    split <;> first | (exfalso; omega) | rfl
  have same : ∀ kd k, kd ≠ 0 → kd ≠ 2 → ¬ (k = N 14 ∧ (kd = 14)) → GC z (upA ad 14 (N 14) b) (Nup N 14) X (mkPhr u (N 14) sec hard notes) kd k = GC z ad N X u kd k := fun kd k c0 c1 c2 => by
    rcases Nat.lt_or_ge kd 22 with h22 | h22
    · rcases (show kd = 0 ∨ kd = 1 ∨ kd = 2 ∨ kd = 3 ∨ kd = 4 ∨ kd = 5 ∨ kd = 6 ∨ kd = 7 ∨ kd = 8 ∨ kd = 9 ∨ kd = 10 ∨ kd = 11 ∨ kd = 12 ∨ kd = 13 ∨ kd = 14 ∨ kd = 15 ∨ kd = 16 ∨ kd = 17 ∨ kd = 18 ∨ kd = 19 ∨ kd = 20 ∨ kd = 21 by omega) with rfl | rfl | rfl | rfl | rfl | rfl | rfl | rfl | rfl | rfl | rfl | rfl | rfl | rfl | rfl | rfl | rfl | rfl | rfl | rfl | rfl | rfl
      · exact absurd rfl c0
      · simp [GC, mkPhr, upA_ne, Nup]
      · exact absurd rfl c1
      · simp [GC, mkPhr, upA_ne, Nup]
      · have hm : (mkPhr u (N 14) sec hard notes) 70 k = u 70 k := funext fun i => by simp [mkPhr]
        show (if k = 0 then (some (Sum.inl (z.2.2 0, 8, Sum.inl ((mkPhr u (N 14) sec hard notes) 70 k))) : Option va_E) else none) = (if k = 0 then some (Sum.inl (z.2.2 0, 8, Sum.inl (u 70 k))) else none)
        rw [hm]
      · simp [GC, mkPhr, upA_ne, Nup]
      · simp [GC, mkPhr, upA_ne, Nup]
      · have hm : (mkPhr u (N 14) sec hard notes) 50 k = u 50 k := funext fun i => by simp [mkPhr]
        show (if k = 0 then (some (Sum.inl (z.2.2 0, 4, Sum.inl ((mkPhr u (N 14) sec hard notes) 50 k))) : Option va_E) else none) = (if k = 0 then some (Sum.inl (z.2.2 0, 4, Sum.inl (u 50 k))) else none)
        rw [hm]
      · simp [GC, mkPhr, upA_ne, Nup]
      · have hm : (mkPhr u (N 14) sec hard notes) 42 k = u 42 k := funext fun i => by simp [mkPhr]
        show (if k < 2 then (some (Sum.inl (z.2.2 0, 10, Sum.inl ((mkPhr u (N 14) sec hard notes) 42 k))) : Option va_E) else none) = (if k < 2 then some (Sum.inl (z.2.2 0, 10, Sum.inl (u 42 k))) else none)
        rw [hm]
      · simp [GC, mkPhr, upA_ne, Nup]
      · simp [GC, mkPhr, upA_ne, Nup]
      · simp [GC, mkPhr, upA_ne, Nup, vPan]
      · have hm : (mkPhr u (N 14) sec hard notes) 14 k = u 14 k := funext fun i => by simp [mkPhr]
        have h12 : Nup N 14 12 = N 12 := by simp [Nup]
        show (if (k < Nup N 14 12 ∨ k = 6) then (some (Sum.inl (z.2.2 0, 8, Sum.inl ((mkPhr u (N 14) sec hard notes) 14 k))) : Option va_E) else none) = (if (k < N 12 ∨ k = 6) then some (Sum.inl (z.2.2 0, 8, Sum.inl (u 14 k))) else none)
        rw [h12, hm]
      · have hk : k ≠ N 14 := fun h => c2 ⟨h, by simp⟩
        have hiff : k < Nup N 14 14 ↔ k < N 14 := by simp only [Nup, if_pos]; omega
        show (if k < Nup N 14 14 then some _ else none) = (if k < N 14 then some _ else none)
        by_cases h : k < N 14
        · rw [if_pos h, if_pos (hiff.mpr h)]
          simp [mkPhr, upA, hk]
        · rw [if_neg h, if_neg (fun q => h (hiff.mp q))]
      · simp [GC, mkPhr, upA_ne, Nup, ppan]
      · have hm : (mkPhr u (N 14) sec hard notes) 60 k = u 60 k := funext fun i => by simp [mkPhr]
        show (if k = 0 then (some (Sum.inl (z.2.2 0, 6, Sum.inl ((mkPhr u (N 14) sec hard notes) 60 k))) : Option va_E) else none) = (if k = 0 then some (Sum.inl (z.2.2 0, 6, Sum.inl (u 60 k))) else none)
        rw [hm]
      · have hm : (mkPhr u (N 14) sec hard notes) 61 k = u 61 k := funext fun i => by simp [mkPhr]
        show (if k = 0 then (some (Sum.inl (z.2.2 0, 3, Sum.inl ((mkPhr u (N 14) sec hard notes) 61 k))) : Option va_E) else none) = (if k = 0 then some (Sum.inl (z.2.2 0, 3, Sum.inl (u 61 k))) else none)
        rw [hm]
      · have hm : (mkPhr u (N 14) sec hard notes) 62 k = u 62 k := funext fun i => by simp [mkPhr]
        show (if k = 0 then (some (Sum.inl (z.2.2 0, 3, Sum.inl ((mkPhr u (N 14) sec hard notes) 62 k))) : Option va_E) else none) = (if k = 0 then some (Sum.inl (z.2.2 0, 3, Sum.inl (u 62 k))) else none)
        rw [hm]
      · have hm : (mkPhr u (N 14) sec hard notes) 63 k = u 63 k := funext fun i => by simp [mkPhr]
        show (if k = 0 then (some (Sum.inl (z.2.2 0, 3, Sum.inl ((mkPhr u (N 14) sec hard notes) 63 k))) : Option va_E) else none) = (if k = 0 then some (Sum.inl (z.2.2 0, 3, Sum.inl (u 63 k))) else none)
        rw [hm]
      · have hm : (mkPhr u (N 14) sec hard notes) 40 k = u 40 k := funext fun i => by simp [mkPhr]
        show (if k < 16 then (some (Sum.inl (z.2.2 0, 8, Sum.inl ((mkPhr u (N 14) sec hard notes) 40 k))) : Option va_E) else none) = (if k < 16 then some (Sum.inl (z.2.2 0, 8, Sum.inl (u 40 k))) else none)
        rw [hm]
      · have hm : (mkPhr u (N 14) sec hard notes) 41 k = u 41 k := funext fun i => by simp [mkPhr]
        show (if k < 2 then (some (Sum.inl (z.2.2 0, 8, Sum.inl ((mkPhr u (N 14) sec hard notes) 41 k))) : Option va_E) else none) = (if k < 2 then some (Sum.inl (z.2.2 0, 8, Sum.inl (u 41 k))) else none)
        rw [hm]
    · rw [hx _ _ h22, hx0 _ _ h22]
  refine ⟨upA ad 14 (N 14) b, fun a c h => ?_, gw_to hW (fun kd k => if kd = 14 ∧ k = N 14 then (99, b) else (kd, k)) (fun kd k e h => ?_) (fun kd k e kd' k' e' h h' hφ => ?_)⟩
  · simp only [upA]
    rw [if_neg (fun q => h ⟨q.2, q.1⟩)]
  · by_cases c2 : k = N 14 ∧ (kd = 14)
    · obtain ⟨rfl, c3⟩ := c2
      subst c3
      replace h : (if N 14 < Nup N 14 14 then some _ else none) = some e := h
      rw [if_pos (by simp [Nup])] at h
      cases h
      rw [if_pos ⟨rfl, rfl⟩]
      refine ⟨qb.trans (congrArg some ?_), by simp [upA, hA _]⟩
      simp [mkPhr]
    · have hphi : (if kd = 14 ∧ k = N 14 then (99, b) else (kd, k)) = (kd, k) := by
        rw [if_neg (fun q => c2 ⟨q.2, q.1⟩)]
      rw [hphi]
      refine ⟨?_, ?_⟩
      · by_cases c0 : kd = 0
        · subst c0
          replace h : (if k = 0 then some _ else none) = some e := h
          by_cases hk : k = 0
          · rw [if_pos hk] at h; subst hk; cases h
            refine q0.trans (congrArg some ?_)
            simp [mkPhr, upA]
          · rw [if_neg hk] at h; cases h
        · by_cases c1 : kd = 2
          · subst c1
            replace h : (if k = 0 then some _ else none) = some e := h
            by_cases hk : k = 0
            · rw [if_pos hk] at h; subst hk; cases h
              refine q1.trans (congrArg some ?_)
              rw [show Nup N 14 14 = N 14 + 1 by simp [Nup], qrow_push (g := ad 14) (b := b) (fun i hi => by simp [upA, Nat.ne_of_lt hi]) (by simp [upA])]
            · rw [if_neg hk] at h; cases h
          · rw [same kd k c0 c1 c2] at h
            exact base kd k e (fun q => c0 q.1) (fun q => c1 q.1) h
      · simp only [upA]
        rw [if_neg (fun q => c2 ⟨q.2, q.1⟩)]
  · have h99 : ∀ k e, GC z (upA ad 14 (N 14) b) (Nup N 14) X (mkPhr u (N 14) sec hard notes) 99 k = some e → k ≠ b := fun k e hg => by
      rw [hx 99 k (by decide), ← hx0 99 k (by decide)] at hg
      exact fun q => by rw [q, hnb] at hg; cases hg
    by_cases a1 : kd = 14 ∧ k = N 14 <;> by_cases a2 : kd' = 14 ∧ k' = N 14
    · exact ⟨a1.1.trans a2.1.symm, a1.2.trans a2.2.symm⟩
    · rw [if_pos a1, if_neg a2] at hφ
      have e1 : kd' = 99 := (congrArg Prod.fst hφ).symm
      have e2 : k' = b := (congrArg Prod.snd hφ).symm
      rw [e1] at h'; exact absurd e2 (h99 _ _ h')
    · rw [if_neg a1, if_pos a2] at hφ
      have e1 : kd = 99 := congrArg Prod.fst hφ
      have e2 : k = b := congrArg Prod.snd hφ
      rw [e1] at h; exact absurd e2 (h99 _ _ h)
    · rw [if_neg a1, if_neg a2] at hφ
      exact ⟨congrArg Prod.fst hφ, congrArg Prod.snd hφ⟩
def mkPly (u : St) (n : Nat) (sec speed reach : Int32) : St := fun f k i => if f = 2 ∧ k = 0 ∧ i = 0 then u 2 0 0 + 1 else if k = n ∧ f = 30 then sec else if k = n ∧ f = 31 then speed else if k = n ∧ f = 32 then reach else if k = n ∧ f = 33 then (-1) else if k = n ∧ f = 34 then 0 else if k = n ∧ f = 35 then 0 else u f k i
set_option maxRecDepth 100000 in
set_option maxHeartbeats 8000000 in
theorem mkPly_w {z : Zt} {ad : Ad} {N : Nt} {X : Gt} {u : St} {G2 G3 : Gt} {b : Nat} {sec speed reach : Int32} {H : Heap} (hA : Raw ad) (hnb : GC z ad N X u 99 b = none) (hE : Ext0 (GC z ad N X u) G2) (hJ : JJ G2 G3 b (.inr (5, [.int sec, .int speed, .int reach, .null, .int 0, .int 0])) []) (hn : N 15 < 8)
    (hW : GW z ad (up2 (up2 G3 3 0 (.inl (z.2.2 4, 8, .inr (.inr (.inr (.inr (va_up (qrow (N 15) (ad 15)) (N 15) (some b)))))))) 0 0 (.inr (7, [.ref (ad 1 0), .ref (ad 2 0), .ref (ad 3 0), .ref (ad 8 0), .ref (ad 10 0), .ref (ad 5 0), .ref (ad 6 0), .int (u 0 0 0), .int (u 1 0 0), .int (u 2 0 0 + 1), .int (u 3 0 0), .int (u 4 0 0), .ref (ad 12 6), .ref (ad 8 1), .ref (ad 10 1), .ref (ad 4 0)]))) H) : ∃ ad' : Ad, (∀ a c, ¬ (c = N 15 ∧ a = 15) → ad' a c = ad a c) ∧ GW z ad' (GC z ad' (Nup N 15) X (mkPly u (N 15) sec speed reach)) H := by
  obtain ⟨j1, j2, j3, j4⟩ := hJ
  have base : ∀ kd k e, ¬ (kd = 0 ∧ k = 0) → ¬ (kd = 3 ∧ k = 0) → GC z ad N X u kd k = some e → up2 (up2 G3 3 0 (.inl (z.2.2 4, 8, .inr (.inr (.inr (.inr (va_up (qrow (N 15) (ad 15)) (N 15) (some b)))))))) 0 0 (.inr (7, [.ref (ad 1 0), .ref (ad 2 0), .ref (ad 3 0), .ref (ad 8 0), .ref (ad 10 0), .ref (ad 5 0), .ref (ad 6 0), .int (u 0 0 0), .int (u 1 0 0), .int (u 2 0 0 + 1), .int (u 3 0 0), .int (u 4 0 0), .ref (ad 12 6), .ref (ad 8 1), .ref (ad 10 1), .ref (ad 4 0)])) kd k = some e := fun kd k e c0 c1 hk => by
    have c2 : ¬ (kd = 99 ∧ k = b) := fun h => by rw [h.1, h.2, hnb] at hk; cases hk
    rw [up2_ne c0, up2_ne c1]
    exact j1 _ _ _ c2 (hE _ _ _ hk)
  have q0 : up2 (up2 G3 3 0 (.inl (z.2.2 4, 8, .inr (.inr (.inr (.inr (va_up (qrow (N 15) (ad 15)) (N 15) (some b)))))))) 0 0 (.inr (7, [.ref (ad 1 0), .ref (ad 2 0), .ref (ad 3 0), .ref (ad 8 0), .ref (ad 10 0), .ref (ad 5 0), .ref (ad 6 0), .int (u 0 0 0), .int (u 1 0 0), .int (u 2 0 0 + 1), .int (u 3 0 0), .int (u 4 0 0), .ref (ad 12 6), .ref (ad 8 1), .ref (ad 10 1), .ref (ad 4 0)])) 0 0 = some (.inr (7, [.ref (ad 1 0), .ref (ad 2 0), .ref (ad 3 0), .ref (ad 8 0), .ref (ad 10 0), .ref (ad 5 0), .ref (ad 6 0), .int (u 0 0 0), .int (u 1 0 0), .int (u 2 0 0 + 1), .int (u 3 0 0), .int (u 4 0 0), .ref (ad 12 6), .ref (ad 8 1), .ref (ad 10 1), .ref (ad 4 0)])) := up2_self
  have q1 : up2 (up2 G3 3 0 (.inl (z.2.2 4, 8, .inr (.inr (.inr (.inr (va_up (qrow (N 15) (ad 15)) (N 15) (some b)))))))) 0 0 (.inr (7, [.ref (ad 1 0), .ref (ad 2 0), .ref (ad 3 0), .ref (ad 8 0), .ref (ad 10 0), .ref (ad 5 0), .ref (ad 6 0), .int (u 0 0 0), .int (u 1 0 0), .int (u 2 0 0 + 1), .int (u 3 0 0), .int (u 4 0 0), .ref (ad 12 6), .ref (ad 8 1), .ref (ad 10 1), .ref (ad 4 0)])) 3 0 = some (.inl (z.2.2 4, 8, .inr (.inr (.inr (.inr (va_up (qrow (N 15) (ad 15)) (N 15) (some b))))))) := (up2_ne (by simp)).trans up2_self
  have qb : up2 (up2 G3 3 0 (.inl (z.2.2 4, 8, .inr (.inr (.inr (.inr (va_up (qrow (N 15) (ad 15)) (N 15) (some b)))))))) 0 0 (.inr (7, [.ref (ad 1 0), .ref (ad 2 0), .ref (ad 3 0), .ref (ad 8 0), .ref (ad 10 0), .ref (ad 5 0), .ref (ad 6 0), .int (u 0 0 0), .int (u 1 0 0), .int (u 2 0 0 + 1), .int (u 3 0 0), .int (u 4 0 0), .ref (ad 12 6), .ref (ad 8 1), .ref (ad 10 1), .ref (ad 4 0)])) 99 b = some (.inr (5, [.int sec, .int speed, .int reach, .null, .int 0, .int 0])) := (up2_ne (by simp)).trans ((up2_ne (by simp)).trans j2)
  generalize up2 (up2 G3 3 0 (.inl (z.2.2 4, 8, .inr (.inr (.inr (.inr (va_up (qrow (N 15) (ad 15)) (N 15) (some b)))))))) 0 0 (.inr (7, [.ref (ad 1 0), .ref (ad 2 0), .ref (ad 3 0), .ref (ad 8 0), .ref (ad 10 0), .ref (ad 5 0), .ref (ad 6 0), .int (u 0 0 0), .int (u 1 0 0), .int (u 2 0 0 + 1), .int (u 3 0 0), .int (u 4 0 0), .ref (ad 12 6), .ref (ad 8 1), .ref (ad 10 1), .ref (ad 4 0)])) = G6 at hW base q0 q1 qb
  have hx : ∀ kd k, 22 ≤ kd → GC z (upA ad 15 (N 15) b) (Nup N 15) X (mkPly u (N 15) sec speed reach) kd k = X kd k := fun kd k h22 => by
    unfold GC
    split <;> first | (exfalso; omega) | rfl
  have hx0 : ∀ kd k, 22 ≤ kd → GC z ad N X u kd k = X kd k := fun kd k h22 => by
    unfold GC
    split <;> first | (exfalso; omega) | rfl
  have same : ∀ kd k, kd ≠ 0 → kd ≠ 3 → ¬ (k = N 15 ∧ (kd = 15)) → GC z (upA ad 15 (N 15) b) (Nup N 15) X (mkPly u (N 15) sec speed reach) kd k = GC z ad N X u kd k := fun kd k c0 c1 c2 => by
    rcases Nat.lt_or_ge kd 22 with h22 | h22
    · rcases (show kd = 0 ∨ kd = 1 ∨ kd = 2 ∨ kd = 3 ∨ kd = 4 ∨ kd = 5 ∨ kd = 6 ∨ kd = 7 ∨ kd = 8 ∨ kd = 9 ∨ kd = 10 ∨ kd = 11 ∨ kd = 12 ∨ kd = 13 ∨ kd = 14 ∨ kd = 15 ∨ kd = 16 ∨ kd = 17 ∨ kd = 18 ∨ kd = 19 ∨ kd = 20 ∨ kd = 21 by omega) with rfl | rfl | rfl | rfl | rfl | rfl | rfl | rfl | rfl | rfl | rfl | rfl | rfl | rfl | rfl | rfl | rfl | rfl | rfl | rfl | rfl | rfl
      · exact absurd rfl c0
      · simp [GC, mkPly, upA_ne, Nup]
      · simp [GC, mkPly, upA_ne, Nup]
      · exact absurd rfl c1
      · have hm : (mkPly u (N 15) sec speed reach) 70 k = u 70 k := funext fun i => by simp [mkPly]
        show (if k = 0 then (some (Sum.inl (z.2.2 0, 8, Sum.inl ((mkPly u (N 15) sec speed reach) 70 k))) : Option va_E) else none) = (if k = 0 then some (Sum.inl (z.2.2 0, 8, Sum.inl (u 70 k))) else none)
        rw [hm]
      · simp [GC, mkPly, upA_ne, Nup]
      · simp [GC, mkPly, upA_ne, Nup]
      · have hm : (mkPly u (N 15) sec speed reach) 50 k = u 50 k := funext fun i => by simp [mkPly]
        show (if k = 0 then (some (Sum.inl (z.2.2 0, 4, Sum.inl ((mkPly u (N 15) sec speed reach) 50 k))) : Option va_E) else none) = (if k = 0 then some (Sum.inl (z.2.2 0, 4, Sum.inl (u 50 k))) else none)
        rw [hm]
      · simp [GC, mkPly, upA_ne, Nup]
      · have hm : (mkPly u (N 15) sec speed reach) 42 k = u 42 k := funext fun i => by simp [mkPly]
        show (if k < 2 then (some (Sum.inl (z.2.2 0, 10, Sum.inl ((mkPly u (N 15) sec speed reach) 42 k))) : Option va_E) else none) = (if k < 2 then some (Sum.inl (z.2.2 0, 10, Sum.inl (u 42 k))) else none)
        rw [hm]
      · simp [GC, mkPly, upA_ne, Nup]
      · simp [GC, mkPly, upA_ne, Nup]
      · simp [GC, mkPly, upA_ne, Nup, vPan]
      · have hm : (mkPly u (N 15) sec speed reach) 14 k = u 14 k := funext fun i => by simp [mkPly]
        have h12 : Nup N 15 12 = N 12 := by simp [Nup]
        show (if (k < Nup N 15 12 ∨ k = 6) then (some (Sum.inl (z.2.2 0, 8, Sum.inl ((mkPly u (N 15) sec speed reach) 14 k))) : Option va_E) else none) = (if (k < N 12 ∨ k = 6) then some (Sum.inl (z.2.2 0, 8, Sum.inl (u 14 k))) else none)
        rw [h12, hm]
      · simp [GC, mkPly, upA_ne, Nup]
      · have hk : k ≠ N 15 := fun h => c2 ⟨h, by simp⟩
        have hiff : k < Nup N 15 15 ↔ k < N 15 := by simp only [Nup, if_pos]; omega
        show (if k < Nup N 15 15 then some _ else none) = (if k < N 15 then some _ else none)
        by_cases h : k < N 15
        · rw [if_pos h, if_pos (hiff.mpr h)]
          have e1 : ppan (Nup N 15) (mkPly u (N 15) sec speed reach) k = ppan N u k := by unfold ppan; simp [mkPly, hk, Nup]
          have e2 : (fun q => (upA ad 15 (N 15) b) 12 q) = fun q => ad 12 q := funext fun q => by simp [upA]
          rw [e1, show (upA ad 15 (N 15) b) 12 = ad 12 from e2]
          simp [mkPly, upA, hk]
        · rw [if_neg h, if_neg (fun q => h (hiff.mp q))]
      · have hm : (mkPly u (N 15) sec speed reach) 60 k = u 60 k := funext fun i => by simp [mkPly]
        show (if k = 0 then (some (Sum.inl (z.2.2 0, 6, Sum.inl ((mkPly u (N 15) sec speed reach) 60 k))) : Option va_E) else none) = (if k = 0 then some (Sum.inl (z.2.2 0, 6, Sum.inl (u 60 k))) else none)
        rw [hm]
      · have hm : (mkPly u (N 15) sec speed reach) 61 k = u 61 k := funext fun i => by simp [mkPly]
        show (if k = 0 then (some (Sum.inl (z.2.2 0, 3, Sum.inl ((mkPly u (N 15) sec speed reach) 61 k))) : Option va_E) else none) = (if k = 0 then some (Sum.inl (z.2.2 0, 3, Sum.inl (u 61 k))) else none)
        rw [hm]
      · have hm : (mkPly u (N 15) sec speed reach) 62 k = u 62 k := funext fun i => by simp [mkPly]
        show (if k = 0 then (some (Sum.inl (z.2.2 0, 3, Sum.inl ((mkPly u (N 15) sec speed reach) 62 k))) : Option va_E) else none) = (if k = 0 then some (Sum.inl (z.2.2 0, 3, Sum.inl (u 62 k))) else none)
        rw [hm]
      · have hm : (mkPly u (N 15) sec speed reach) 63 k = u 63 k := funext fun i => by simp [mkPly]
        show (if k = 0 then (some (Sum.inl (z.2.2 0, 3, Sum.inl ((mkPly u (N 15) sec speed reach) 63 k))) : Option va_E) else none) = (if k = 0 then some (Sum.inl (z.2.2 0, 3, Sum.inl (u 63 k))) else none)
        rw [hm]
      · have hm : (mkPly u (N 15) sec speed reach) 40 k = u 40 k := funext fun i => by simp [mkPly]
        show (if k < 16 then (some (Sum.inl (z.2.2 0, 8, Sum.inl ((mkPly u (N 15) sec speed reach) 40 k))) : Option va_E) else none) = (if k < 16 then some (Sum.inl (z.2.2 0, 8, Sum.inl (u 40 k))) else none)
        rw [hm]
      · have hm : (mkPly u (N 15) sec speed reach) 41 k = u 41 k := funext fun i => by simp [mkPly]
        show (if k < 2 then (some (Sum.inl (z.2.2 0, 8, Sum.inl ((mkPly u (N 15) sec speed reach) 41 k))) : Option va_E) else none) = (if k < 2 then some (Sum.inl (z.2.2 0, 8, Sum.inl (u 41 k))) else none)
        rw [hm]
    · rw [hx _ _ h22, hx0 _ _ h22]
  refine ⟨upA ad 15 (N 15) b, fun a c h => ?_, gw_to hW (fun kd k => if kd = 15 ∧ k = N 15 then (99, b) else (kd, k)) (fun kd k e h => ?_) (fun kd k e kd' k' e' h h' hφ => ?_)⟩
  · simp only [upA]
    rw [if_neg (fun q => h ⟨q.2, q.1⟩)]
  · by_cases c2 : k = N 15 ∧ (kd = 15)
    · obtain ⟨rfl, c3⟩ := c2
      subst c3
      replace h : (if N 15 < Nup N 15 15 then some _ else none) = some e := h
      rw [if_pos (by simp [Nup])] at h
      cases h
      rw [if_pos ⟨rfl, rfl⟩]
      refine ⟨qb.trans (congrArg some ?_), by simp [upA, hA _]⟩
      have e1 : ppan (Nup N 15) (mkPly u (N 15) sec speed reach) (N 15) = none := by unfold ppan; simp [mkPly]
      rw [e1]; simp [mkPly, va_rf]
    · have hphi : (if kd = 15 ∧ k = N 15 then (99, b) else (kd, k)) = (kd, k) := by
        rw [if_neg (fun q => c2 ⟨q.2, q.1⟩)]
      rw [hphi]
      refine ⟨?_, ?_⟩
      · by_cases c0 : kd = 0
        · subst c0
          replace h : (if k = 0 then some _ else none) = some e := h
          by_cases hk : k = 0
          · rw [if_pos hk] at h; subst hk; cases h
            refine q0.trans (congrArg some ?_)
            simp [mkPly, upA]
          · rw [if_neg hk] at h; cases h
        · by_cases c1 : kd = 3
          · subst c1
            replace h : (if k = 0 then some _ else none) = some e := h
            by_cases hk : k = 0
            · rw [if_pos hk] at h; subst hk; cases h
              refine q1.trans (congrArg some ?_)
              rw [show Nup N 15 15 = N 15 + 1 by simp [Nup], qrow_push (g := ad 15) (b := b) (fun i hi => by simp [upA, Nat.ne_of_lt hi]) (by simp [upA])]
            · rw [if_neg hk] at h; cases h
          · rw [same kd k c0 c1 c2] at h
            exact base kd k e (fun q => c0 q.1) (fun q => c1 q.1) h
      · simp only [upA]
        rw [if_neg (fun q => c2 ⟨q.2, q.1⟩)]
  · have h99 : ∀ k e, GC z (upA ad 15 (N 15) b) (Nup N 15) X (mkPly u (N 15) sec speed reach) 99 k = some e → k ≠ b := fun k e hg => by
      rw [hx 99 k (by decide), ← hx0 99 k (by decide)] at hg
      exact fun q => by rw [q, hnb] at hg; cases hg
    by_cases a1 : kd = 15 ∧ k = N 15 <;> by_cases a2 : kd' = 15 ∧ k' = N 15
    · exact ⟨a1.1.trans a2.1.symm, a1.2.trans a2.2.symm⟩
    · rw [if_pos a1, if_neg a2] at hφ
      have e1 : kd' = 99 := (congrArg Prod.fst hφ).symm
      have e2 : k' = b := (congrArg Prod.snd hφ).symm
      rw [e1] at h'; exact absurd e2 (h99 _ _ h')
    · rw [if_neg a1, if_pos a2] at hφ
      have e1 : kd = 99 := congrArg Prod.fst hφ
      have e2 : k = b := congrArg Prod.snd hφ
      rw [e1] at h; exact absurd e2 (h99 _ _ h)
    · rw [if_neg a1, if_neg a2] at hφ
      exact ⟨congrArg Prod.fst hφ, congrArg Prod.snd hφ⟩
