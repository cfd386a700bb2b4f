/-! 58d: asking leaves the checksum -/
/-- the same answer wherever the yard is alike, and alike again -/
def AL {α : Type} (u : St) (F : St → Option (Except String α × St)) : Prop := ∃ r, ∀ v, E u v → ∃ w, F v = some (.ok r, w) ∧ E u w
section AL0
variable {α β : Type} {u : St}
theorem AL.ret (r : α) : AL u (fun v => some (.ok r, v)) := ⟨r, fun v e => ⟨v, rfl, e⟩⟩
theorem AL.q {F : St → Option (Except String α × St)} {r : α} (h : ∀ v, E u v → F v = some (.ok r, v)) : AL u F := ⟨r, fun v e => ⟨v, h v e, e⟩⟩
theorem AL.w {F : St → Option (Except String α × St)} {r : α} (h : ∀ v, E u v → ∃ w, F v = some (.ok r, w) ∧ E u w) : AL u F := ⟨r, h⟩
theorem AL.c {F G : St → Option (Except String α × St)} (h : ∀ v, E u v → F v = G v) (hG : AL u G) : AL u F := by
  obtain ⟨r, h1⟩ := hG
  refine ⟨r, fun v e => ?_⟩
  rw [h v e]
  exact h1 v e
theorem AL.b {F : St → Option (Except String α × St)} {G : α → St → Option (Except String β × St)} (h1 : AL u F) (h2 : ∀ r, AL u (G r)) : AL u (fun v => xb (F v) G) := by
  obtain ⟨r, h1⟩ := h1
  obtain ⟨r2, h2⟩ := h2 r
  refine ⟨r2, fun v e => ?_⟩
  obtain ⟨w, e1, x1⟩ := h1 v e
  obtain ⟨w2, e2, x2⟩ := h2 w x1
  refine ⟨w2, ?_, x2⟩
  show xb (F v) G = _
  rw [e1, xb_ok]
  exact e2
end AL0
section AL1
variable {N : Nt} {u : St}
theorem at_ok {f k i : Nat} {v : St} (e : E u v) (q : ¬ mk f k i) : (some (Except.ok (v f k i), v) : Option (Except String Int32 × St)) = some (.ok (u f k i), v) := by rw [e.at q]
theorem f_be_l (h : Inv N u) {v : St} (e : E u v) : ∀ (d y m : Nat) (s : Int32), y + d = 4 → d < m → f_X7_blowsEver_L4 N m (nI y) s v = some (sumG (fun i => u 13 i 0) d y s, v) := by
  intro d
  induction d with
  | zero =>
    intro y m s hy hm
    obtain ⟨m', rfl, -⟩ := fuel hm
    show f_X7_blowsEver_L4b N (f_X7_blowsEver_L4 N m') _ _ v = _
    unfold f_X7_blowsEver_L4b sumG
    obtain rfl : y = 4 := by omega
    rw [(h.E e).c0, if_pos (by decide)]
  | succ d ih =>
    intro y m s hy hm
    obtain ⟨m', rfl, h'⟩ := fuel hm
    show f_X7_blowsEver_L4b N (f_X7_blowsEver_L4 N m') _ _ v = _
    unfold f_X7_blowsEver_L4b sumG
    rw [(h.E e).c0, if_neg (show ¬ (4 : Int32) ≤ nI y from nI_ge (b := 4) (by omega) (by decide)), gt1 (inb_nI (by omega) (by decide)), ix_nI (by omega), gt1 (by rw [h.n12]; omega), nm_u, nm_u, nI_1, e.at (f := 13) (by unfold mk; omega)]
    exact ih (y + 1) m' _ (by omega) (h' d rfl)
theorem f_be (h : Inv N u) {v : St} (e : E u v) : f_X7_blowsEver N v = some (sumG (fun i => u 13 i 0) 4 0 0, v) := by
  unfold f_X7_blowsEver
  generalize hF : (1000000 : Nat) = F
  exact f_be_l h e 4 0 F 0 rfl (by omega)
theorem al_many (h : Inv N u) : ∀ y, y < 14 → AL u (fun v => f_X7_many N v (nI y)) := by
  intro y hy
  obtain ⟨n, o⟩ := h.ord
  have hc : y = 0 ∨ y = 1 ∨ y = 2 ∨ y = 3 ∨ y = 4 ∨ y = 5 ∨ y = 6 ∨ y = 7 ∨ y = 8 ∨ y = 9 ∨ y = 10 ∨ y = 11 ∨ y = 12 ∨ y = 13 := by omega
  rcases hc with rfl | rfl | rfl | rfl | rfl | rfl | rfl | rfl | rfl | rfl | rfl | rfl | rfl | rfl
  · exact AL.q (r := u 51 0 0) fun v e => many0.trans (at_ok e (by unfold mk; omega))
  · refine AL.q (r := u 0 0 0) fun v e => Eq.trans ?_ (at_ok e (by unfold mk; omega))
    unfold f_X7_many
    rw [if_neg (by decide), if_pos (by decide)]
  · refine AL.q (r := u 1 0 0) fun v e => Eq.trans ?_ (at_ok e (by unfold mk; omega))
    unfold f_X7_many
    rw [if_neg (by decide), if_neg (by decide), if_pos (by decide)]
  · exact AL.q (r := u 43 0 0) fun v e => many3.trans (at_ok e (by unfold mk; omega))
  · refine AL.q (r := u 2 0 0) fun v e => Eq.trans ?_ (at_ok e (by unfold mk; omega))
    unfold f_X7_many
    rw [if_neg (by decide), if_neg (by decide), if_neg (by decide), if_neg (by decide), if_pos (by decide)]
  · exact AL.q fun v e => many5E h e
  · refine AL.q (r := u 64 0 0) fun v e => Eq.trans ?_ (at_ok e (by unfold mk; omega))
    unfold f_X7_many
    rw [if_neg (by decide), if_neg (by decide), if_neg (by decide), if_neg (by decide), if_neg (by decide), if_neg (by decide), if_pos (by decide)]
  · exact AL.q (r := u 3 0 0) fun v e => many7.trans (at_ok e (by unfold mk; omega))
  · exact AL.q (r := u 65 0 0) fun v e => many8.trans (at_ok e (by unfold mk; omega))
  · refine AL.q (r := b2i (ovr u)) fun v e => many9.trans ?_
    unfold ovr
    rw [e.at (f := 66) (by unfold mk; omega), e.at (f := 65) (by unfold mk; omega)]
  · exact AL.w fun v e => many10E h o e
  · refine AL.w (r := score u (totV u (mms u 0) n)) fun v e => ⟨setL v (lev v (mms v 0)) 6, (many11 (h.E e) (o.E0 e)).trans ?_, e.trans setL_E⟩
    rw [score_E e, totV_E2 e]
  · exact AL.q (r := u 52 0 0) fun v e => many12.trans (at_ok e (by unfold mk; omega))
  · refine AL.q (r := sumG (fun i => u 13 i 0) 4 0 0) fun v e => ?_
    unfold f_X7_many
    rw [if_neg (by decide), if_neg (by decide), if_neg (by decide), if_neg (by decide), if_neg (by decide), if_neg (by decide), if_neg (by decide), if_neg (by decide), if_neg (by decide), if_neg (by decide), if_neg (by decide), if_neg (by decide), if_neg (by decide), if_pos (by decide), f_be h e, sb_some]
theorem al_ofPan (h : Inv N u) {p : Nat} (hp : p < 4) : ∀ y, y < 5 → AL u (fun v => f_X7_ofPan N v (nI p) (nI y)) := by
  intro y hy
  have hc : y = 0 ∨ y = 1 ∨ y = 2 ∨ y = 3 ∨ y = 4 := by omega
  rcases hc with rfl | rfl | rfl | rfl | rfl
  · exact AL.q (r := u 11 p 0) fun v e => (ofPan0 (n := 3) (h.E e).c0 (by omega) (by omega) h.n12).trans (at_ok e (by unfold mk; omega))
  · exact AL.q (r := u 12 p 0) fun v e => (ofPan1 (h.E e).c0 hp h.n12).trans (at_ok e (by unfold mk; omega))
  · exact AL.q (r := b2i (crk (u 12 p 0))) fun v e => (ofPan2 (h.E e).c0 hp h.n12).trans (by rw [e.at (f := 12) (by unfold mk; omega)])
  · exact AL.q (r := nI (grd (u 11 p 0) (u 12 p 0) (u 14 p))) fun v e => (ofPan3 (h.E e).c0 hp h.n12).trans (by rw [e.at (f := 11) (by unfold mk; omega), e.at (f := 12) (by unfold mk; omega), e.row (f := 14) (fun i => by unfold mk; omega)])
  · exact AL.q (r := u 13 p 0) fun v e => (ofPan4 (h.E e).c0 hp h.n12).trans (at_ok e (by unfold mk; omega))
theorem al_off (h : Inv N u) {p : Nat} (hp : p < 4) : ∀ y, y < 8 → AL u (fun v => f_X7_off N v (nI p) (nI y)) := fun y hy =>
  AL.q (r := u 14 p y) fun v e => (f_off (h.E e).c0 hp hy h.n12).trans (at_ok e (by unfold mk; omega))
theorem al_bl (h : Inv N u) {p : Nat} (hp : p < 4) : AL u (fun v => f_X7_blowsFor N v (nI p)) := by
  refine AL.w (r := bl (u 11 p 0) (getR u p)) fun v e => ?_
  obtain ⟨w, e1, e2⟩ := f_bl (h.E e) hp
  refine ⟨w, e1.trans ?_, e.trans e2⟩
  have eR : getR v p = getR u p := by
    unfold getR
    rw [e.at (f := 12) (by unfold mk; omega), e.at (f := 13) (by unfold mk; omega), e.row (f := 14) (fun i => by unfold mk; omega)]
  rw [eR, e.at (f := 11) (by unfold mk; omega)]
theorem al_ofPhr (h : Inv N u) {j : Nat} (hj : j < 6) : ∀ y, y < 5 → AL u (fun v => f_X7_ofPhrase N v (nI j) (nI y)) := by
  intro y hy
  obtain ⟨n, o⟩ := h.ord
  have hc : y = 0 ∨ y = 1 ∨ y = 2 ∨ y = 3 ∨ y = 4 := by omega
  rcases hc with rfl | rfl | rfl | rfl | rfl
  · exact AL.q (r := u 20 j 0) fun v e => (ofPhr0 (h.E e).c1 hj h.n14).trans (at_ok e (by unfold mk; omega))
  · exact AL.q (r := u 21 j 0) fun v e => (ofPhr1 (h.E e).c1 hj h.n14).trans (at_ok e (by unfold mk; omega))
  · exact AL.q (r := u 22 j 0) fun v e => (ofPhr2 (h.E e).c1 hj h.n14).trans (at_ok e (by unfold mk; omega))
  · exact AL.q (r := u 23 j 0) fun v e => (ofPhr3 (h.E e).c1 hj h.n14).trans (at_ok e (by unfold mk; omega))
  · refine AL.q (r := plG (u 42 0) (nI j) n 0 0) fun v e => ?_
    unfold f_X7_ofPhrase
    rw [rqPhr (n := 5) (h.E e).c1 (by omega) (by omega), xb_ok, gt1 (inb_nI (by omega) (by decide)), ix_nI (by omega), gt1 (by rw [h.n14]; omega), if_neg (by decide), if_neg (by decide), if_neg (by decide), if_neg (by decide), if_pos (by decide), f_pl (o.E0 e), sb_some, f42_E e]
theorem al_ofPly (h : Inv N u) {k : Nat} (hk : k < 6) : ∀ y, y < 7 → AL u (fun v => f_X7_ofPlayer N v (nI k) (nI y)) := by
  intro y hy
  have h4 : k % 4 < 4 := Nat.mod_lt _ (by decide)
  have hc : y = 0 ∨ y = 1 ∨ y = 2 ∨ y = 3 ∨ y = 4 ∨ y = 5 ∨ y = 6 := by omega
  rcases hc with rfl | rfl | rfl | rfl | rfl | rfl | rfl
  · exact AL.q (r := u 30 k 0) fun v e => (ofPly0 (h.E e).c2 hk h.n15).trans (at_ok e (by unfold mk; omega))
  · exact AL.q (r := u 31 k 0) fun v e => (ofPly1 (h.E e).c2 hk h.n15).trans (at_ok e (by unfold mk; omega))
  · exact AL.q (r := u 32 k 0) fun v e => (ofPly2 (h.E e).c2 hk h.n15).trans (at_ok e (by unfold mk; omega))
  · exact AL.q (r := nI (k % 4)) fun v e => ofPly3 (h.E e).c2 hk h.n15 h.n12 ((h.E e).h33 k hk) ((h.E e).p _ h4).1
  · exact AL.q (r := b2i (decide (¬ u 34 k 0 = 0))) fun v e => (ofPly4 (h.E e).c2 hk h.n15).trans (by rw [e.at (f := 34) (by unfold mk; omega)])
  · exact AL.q (r := b2i (snd u k)) fun v e => (ofPly5 (h.E e).c2 hk h.n15 h.n12 ((h.E e).h33 k hk)).trans (by rw [snd_E e])
  · exact AL.q (r := u 35 k 0) fun v e => (ofPly6 (h.E e).c2 hk h.n15).trans (at_ok e (by unfold mk; omega))
theorem al_mem (h : Inv N u) {k : Nat} (hk : k < 6) : ∀ y, y < 6 → AL u (fun v => f_X7_memory N v (nI k) (nI y)) := fun y hy =>
  AL.q (r := u 40 k y) fun v e => (f_mem (h.E e).c2 (h.E e).c1 hk hy).trans (at_ok e (by unfold mk; omega))
theorem al_bt (h : Inv N u) {k : Nat} (hk : k < 6) : AL u (fun v => f_X7_bestTeach N v (nI k) 20) := by
  obtain ⟨r, -, h1⟩ := f_bt (X := 20) h hk (by decide) (by decide)
  exact AL.w h1
theorem al_plc (h : Inv N u) {n : Nat} (o : OK1 u 0 n) {i : Nat} (hi : i < n) : AL u (fun v => f_X7_ofPlace N v (nI i) 0) ∧ AL u (fun v => f_X7_ofPlace N v (nI i) 1) := by
  have h10 := o.1
  obtain ⟨m, rfl⟩ : ∃ m, n = m + 1 := ⟨n - 1, by omega⟩
  refine ⟨AL.q (r := u 42 0 i) fun v e => (ofPlc0 (h.E e) (o.E0 e).2.1 (by omega) (by omega)).trans (at_ok e (by unfold mk; omega)), ?_⟩
  refine AL.w (r := sAt (u 21) (lev u (mms u 0)) (u 42 0) i) fun v e => ⟨setL v (lev v (mms v 0)) 6, ?_, e.trans setL_E⟩
  unfold f_X7_ofPlace
  have hI := (h.E e).E (setL_E (lv := lev v (mms v 0)) (n := 6))
  have oI := (o.E0 e).E0 (setL_E (lv := lev v (mms v 0)) (n := 6))
  rw [rqPlc (o.E0 e).2.1 (by omega) (by omega), xb_ok, fwi, sb_some, show win 1 0 1 = 1 from by decide, if_neg (by decide), if_neg (by decide), f_weigh (h.E e), sb_some, f_sAt hI oI hi, sb_some, setL_f (f := 21) (by decide), setL_f (f := 42) (by decide), f21_E e, f42_E e, sAt_c (lv := lev u (mms u 0)) o.2.2 (fun q hq => by rw [setL_70 hq, lvv_E e]) (fun _ _ => rfl) hi]
theorem al_mark (h : Inv N u) : ∀ y, y < 4 → AL u (fun v => f_X7_mark N v (nI y)) := by
  intro y hy
  obtain ⟨n, o⟩ := h.ord
  have hc : y = 0 ∨ y = 1 ∨ y = 2 ∨ y = 3 := by omega
  rcases hc with rfl | rfl | rfl | rfl
  · exact AL.w fun v e => mark0E h o e
  · exact AL.w fun v e => mark1E h e
  · exact AL.w fun v e => mark2E h o e
  · exact AL.w fun v e => mark3E h o e
theorem al_rnd (h : Inv N u) {i : Nat} (hi : i < 3) : AL u (fun v => f_X7_ofRound N v (nI i) 0) ∧ AL u (fun v => f_X7_ofRound N v (nI i) 1) := by
  refine ⟨AL.q (r := if nI i < u 65 0 0 then u 62 0 i else -1) fun v e => ?_, AL.q (r := if nI i < u 65 0 0 then u 63 0 i else -1) fun v e => ?_⟩
  · unfold f_X7_ofRound
    rw [fwi, sb_some, show win (nI i) 0 2 = 1 from win_z (b := 2) (by omega) (by omega), if_neg (by decide), fwi, sb_some, show win 0 0 1 = 1 from by decide, if_neg (by decide), e.at (f := 65) (by unfold mk; omega)]
    by_cases hc : nI i < u 65 0 0
    · rw [if_pos hc, if_pos hc, if_pos rfl, gt1 (inb_nI hi (by decide)), ix_nI (by omega), e.at (f := 62) (by unfold mk; omega)]
    · rw [if_neg hc, if_neg hc]
  · unfold f_X7_ofRound
    rw [fwi, sb_some, show win (nI i) 0 2 = 1 from win_z (b := 2) (by omega) (by omega), if_neg (by decide), fwi, sb_some, show win 1 0 1 = 1 from by decide, if_neg (by decide), e.at (f := 65) (by unfold mk; omega)]
    by_cases hc : nI i < u 65 0 0
    · rw [if_pos hc, if_pos hc, if_neg (by decide), gt1 (inb_nI hi (by decide)), ix_nI (by omega), e.at (f := 63) (by unfold mk; omega)]
    · rw [if_neg hc, if_neg hc]
/-- trial minds alike -/
def TM (w w' : St) : Prop := (∀ a, a < 8 → ∀ i, i < 6 → w' 40 (8 * 1 + a) i = w 40 (8 * 1 + a) i) ∧ (∀ a, a < 8 → w' 41 1 a = w 41 1 a) ∧ w' 21 = w 21
theorem TM.s {w w' : St} (h : TM w w') : TM (slF w 1) (slF w' 1) := by
  obtain ⟨h1, h2, h3⟩ := h
  refine ⟨fun a ha i hi => ?_, fun a ha => ?_, ?_⟩
  · rw [slF_40 ha hi, slF_40 ha hi]
    unfold sl
    rw [h1 a ha i hi, h2 a ha, h3]
  · unfold slF slS
    rw [if_neg (fun q => by omega), if_pos ⟨rfl, rfl, ha⟩, if_neg (fun q => by omega), if_pos ⟨rfl, rfl, ha⟩]
  · unfold slF
    rw [slS_f (by decide) (by decide), slS_f (by decide) (by decide)]
    exact h3
theorem TM.n : ∀ (d : Nat) {w w' : St}, TM w w' → TM (slN d w) (slN d w') := by
  intro d
  induction d with
  | zero => intro w w' h; exact h
  | succ d ih => intro w w' h; exact ih h.s
theorem TM.cp {v : St} (e : E u v) : TM (cpM u 8) (cpM v 8) := by
  refine ⟨fun a ha i hi => ?_, fun a ha => ?_, ?_⟩
  · unfold cpM
    rw [if_pos ⟨rfl, by omega, by omega, by omega⟩, if_pos ⟨rfl, by omega, by omega, by omega⟩]
    exact e.at (by unfold mk; omega)
  · unfold cpM
    rw [if_neg (fun q => by omega), if_pos ⟨rfl, rfl, ha⟩, if_neg (fun q => by omega), if_pos ⟨rfl, rfl, ha⟩]
    exact e.at (by unfold mk; omega)
  · rw [f21_E (cpM_E (u := v)), f21_E (cpM_E (u := u)), f21_E e]
theorem al_would (h : Inv N u) {X : Nat} (hX : X ≤ 60) : AL u (fun v => f_X7_wouldTotal N v (nI X)) := by
  obtain ⟨n, o⟩ := h.ord
  refine AL.w (r := totV u (mms (slN X (cpM u 8)) 1) n) fun v e => ?_
  obtain ⟨w, e1, e2⟩ := f_would (h.E e) (o.E0 e) hX
  refine ⟨w, e1.trans ?_, e.trans e2⟩
  have ht := TM.n X (TM.cp e)
  rw [totV_E e, totV_m (mm := mms (slN X (cpM u 8)) 1) (mm' := mms (slN X (cpM v 8)) 1) o (fun y hy j hj => ht.1 y (by omega) j hj)]
theorem al_bo (h : Inv N u) {n : Nat} (o : OK1 u 0 n) (h5 : n ≤ 5) : AL u (fun v => f_X7_bestOrder N v) := AL.w fun v e => f_bo h o h5 e
end AL1
