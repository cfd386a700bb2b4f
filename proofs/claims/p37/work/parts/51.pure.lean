/-! 51: the tuner -/
section TC
theorem nit_c {c d : Nat → Bool} : ∀ j, (∀ i, i < j → c i = d i) → nit c j = nit d j := by
  intro j
  induction j with
  | zero => intro _; rfl
  | succ j ih => intro h; unfold nit; rw [h j (by omega), ih (fun i hi => h i (by omega))]
theorem nitm_c {fam : Int32} {o o' : Nat → Int32} (h : ∀ i, i < 8 → o i = o' i) : nitm fam o = nitm fam o' := nit_c 8 (fun i hi => by unfold thr; rw [h i hi])
theorem tjg_c {o o' : Nat → Int32} (h : ∀ i, i < 8 → o i = o' i) : ∀ (d y m : Nat), y + d ≤ 8 → m < 8 → tjg o d y m = tjg o' d y m := by
  intro d
  induction d with
  | zero => intro y m _ _; rfl
  | succ d ih =>
    intro y m hy hm
    unfold tjg
    rw [h y (by omega), h m hm, ih _ _ (by omega) hm, ih _ _ (by omega) (by omega)]
theorem shO_c {o o' : Nat → Int32} {j : Nat} {x : Int32} (h : ∀ i, i < 8 → o i = o' i) (hj : j < 8) : ∀ i, i < 8 → shO o j x i = shO o' j x i := fun i hi => by
  unfold shO upd
  rw [h j hj, h i hi]
theorem strO_c {o o' : Nat → Int32} {j : Nat} {x : Int32} (h : ∀ i, i < 8 → o i = o' i) (hj : j < 8) : ∀ i, i < 8 → strO o j x i = strO o' j x i := shO_c (shO_c (shO_c h hj) (Nat.mod_lt _ (by decide))) (Nat.mod_lt _ (by decide))
def RE (r r' : Rc) : Prop := r.1 = r'.1 ∧ r.2.1 = r'.2.1 ∧ ∀ i, i < 8 → r.2.2 i = r'.2.2 i
theorem onc_c {r r' : Rc} (h : RE r r') : RE (onc r) (onc r') := by
  obtain ⟨h1, h2, h3⟩ := h
  have ej := tjg_c h3 7 1 0 (by decide) (by decide)
  have hj := tjg_lt (o := r'.2.2) 7 1 0 (by decide) (by decide)
  unfold onc onR
  rw [ej, h3 _ hj, h1, h2]
  exact ⟨rfl, rfl, strO_c h3 hj⟩
theorem ndR_c {fam : Int32} {r r' : Rc} (h : RE r r') : ndR fam r = ndR fam r' := by
  unfold ndR nds
  rw [h.1, nitm_c h.2.2]
theorem tun_c {fam : Int32} : ∀ (m : Nat) (r r' : Rc), RE r r' → (tun fam m r).1 = (tun fam m r').1 ∧ RE (tun fam m r).2 (tun fam m r').2 := by
  intro m
  induction m with
  | zero => intro r r' h; exact ⟨rfl, h⟩
  | succ m ih =>
    intro r r' h
    obtain ⟨e1, e2⟩ := ih _ _ (onc_c h)
    unfold tun
    rw [ndR_c h]
    cases ndR fam r' with
    | true => rw [if_pos rfl, if_pos rfl]; exact ⟨congrArg (· + 1) e1, e2⟩
    | false => rw [if_neg Bool.false_ne_true, if_neg Bool.false_ne_true]; exact ⟨rfl, h⟩
/-- blows that will do -/
def bl (fam : Int32) (r : Rc) : Int32 := if crk (tun fam 40 r).2.1 then -1 else if ndR fam (tun fam 40 r).2 then -1 else nI (tun fam 40 r).1
theorem bl_c {fam : Int32} {r r' : Rc} (h : RE r r') : bl fam r = bl fam r' := by
  obtain ⟨e1, e2⟩ := tun_c (fam := fam) 40 r r' h
  unfold bl
  rw [ndR_c e2, e1, e2.1]
end TC
section TN
variable {N : Nt} {u v : St}
theorem cpP {p : Nat} (hp : p < 4) : f_X3_copyFrom N u 6 p = some ((), setR (sset u 11 6 0 (u 11 p 0)) 6 (u 12 p 0, u 13 p 0, fun i => if i < 8 then u 14 p i else u 14 6 i)) := by
  unfold f_X3_copyFrom
  rw [nm_u, nm_u, nm_u, nm_u]
  congr 1
  congr 1
  funext f a i
  unfold setR setP scpy sset
  by_cases ha : a = 6
  · subst ha
    have h6 : ¬ p = 6 := by omega
    by_cases h12 : f = 12 ∧ i = 0
    · obtain ⟨rfl, rfl⟩ := h12
      simp [h6]
    · by_cases h13 : f = 13 ∧ i = 0
      · obtain ⟨rfl, rfl⟩ := h13
        simp [h6]
      · by_cases h14 : f = 14
        · subst h14
          by_cases hi : i < 8 <;> simp [hi]
        · simp only [h12, h13, h14]
          by_cases h11 : f = 11 ∧ i = 0
          · obtain ⟨rfl, rfl⟩ := h11; simp
          · have q1 : ¬ (f = 12 ∧ 6 = 6 ∧ i = 0) := fun q => h12 ⟨q.1, q.2.2⟩
            have q2 : ¬ (f = 13 ∧ 6 = 6 ∧ i = 0) := fun q => h13 ⟨q.1, q.2.2⟩
            have q3 : ¬ (f = 11 ∧ 6 = 6 ∧ i = 0) := fun q => h11 ⟨q.1, q.2.2⟩
            simp [q1, q2, q3, h12, h13, h14]
  · simp [ha]
theorem E6 {w b : Int32} {o : Nat → Int32} {x : Int32} : E u (setP (sset u 11 6 0 x) 6 w b o) := fun f a i h => by
  unfold mk at h
  unfold setP sset
  by_cases ha : a = 6
  · subst ha
    rw [if_pos rfl, if_neg (fun q => by omega), if_neg (fun q => by omega), if_neg (fun q => by omega), if_neg (fun q => by omega)]
  · rw [if_neg ha, if_neg (fun q => ha q.2.1)]
theorem f_bl (h : Inv N u) {p : Nat} (hp : p < 4) : ∃ v, f_X7_blowsFor N u (nI p) = some (.ok (bl (u 11 p 0) (getR u p)), v) ∧ E u v := by
  obtain ⟨u1, hu1⟩ : ∃ u1, u1 = sset u 11 6 0 (u 11 p 0) := ⟨_, rfl⟩
  obtain ⟨r, hr⟩ : ∃ r : Rc, r = (u 12 p 0, u 13 p 0, fun i => if i < 8 then u 14 p i else u 14 6 i) := ⟨_, rfl⟩
  have u11 : u1 11 6 0 = u 11 p 0 := by rw [hu1, sset_self]
  have hRE : RE r (getR u p) := by rw [hr]; exact ⟨rfl, rfl, fun i hi => if_pos hi⟩
  obtain ⟨R, hR⟩ : ∃ R, R = tun (u 11 p 0) 40 r := ⟨_, rfl⟩
  have e12 : (setR u1 6 R.2) 12 6 0 = R.2.1 := setP_12
  have e14 : (setR u1 6 R.2) 14 6 = R.2.2.2 := setP_14
  have e11 : (setR u1 6 R.2) 11 6 0 = u 11 p 0 := by
    unfold setR
    rw [setP_f (f := 11) (by decide) (by decide) (by decide)]; exact u11
  refine ⟨setR u1 6 R.2, ?_, ?_⟩
  · rw [← bl_c hRE]
    unfold f_X7_blowsFor bl
    have ht := f_tun (N := N) (u := u1) (k := 6) (M := 40) (r := r) (by decide)
    rw [u11, ← hR] at ht
    have ht2 : f_X3_tuneUpTo N (setR u1 6 r) 6 40 = some (nI R.1, setR u1 6 R.2) := ht
    rw [rqPan (n := 3) h.c0 (by omega) (by omega), xb_ok, gt1 (inb_nI (by omega) (by decide)), ix_nI (by omega), gt1 (by rw [h.n12]; exact hp), cpP hp, sb_some, ← hu1, ← hr, ht2, sb_some, f_crk, sb_some, e12, ib0, ← hR]
    cases hc : crk R.2.1 with
    | true => rfl
    | false =>
      rw [if_neg Bool.false_ne_true, if_neg Bool.false_ne_true, f_nds, sb_some, e11, e12, e14, ib0]
      show (if nds (u 11 p 0) R.2.1 R.2.2.2 = true then _ else _) = _
      unfold ndR
      cases nds (u 11 p 0) R.2.1 R.2.2.2 <;> rfl
  · rw [hu1]
    exact E6
theorem f_tuner (h : Inv N u) {p a : Nat} (hp : p < 4) (hw : crk (u 12 p 0) = false) (ha : a < 111) : f_X7_tuner N u (nI p) (nI (10 + a)) = some (.ok (nI (tun (u 11 p 0) ((10 + a) / 10) (getR u p)).1), sset (setR u p (tun (u 11 p 0) ((10 + a) / 10) (getR u p)).2) 3 0 0 (u 3 0 0 - (4 * nI (tun (u 11 p 0) ((10 + a) / 10) (getR u p)).1))) := by
  have ht := f_tun (N := N) (u := u) (k := p) (M := (10 + a) / 10) (r := getR u p) (by omega)
  rw [setR_id] at ht
  unfold f_X7_tuner
  rw [rqPan (n := 3) h.c0 (by omega) (by omega), xb_ok, fwi, sb_some, show win (nI (10 + a)) 10 120 = 1 from win_n (a := 10) (b := 120) (by omega) (by omega) (by omega), if_neg (by decide), rqWhole hp h.n12 hw, xb_ok, gt1 (inb_nI (by omega) (by decide)), ix_nI (by omega), gt1 (by rw [h.n12]; exact hp), show nI (10 + a) / 10 = nI ((10 + a) / 10) from pk_div (d := 10) (by omega) (by decide) (by decide), ht, sb_some, nm_u]
  rw [show (setR u p (tun (u 11 p 0) ((10 + a) / 10) (getR u p)).2) 3 = u 3 from setP_f (by decide) (by decide) (by decide)]
theorem isTuned_ok (h : Inv N u) {p a : Nat} (hp : p < 4) (hw : crk (u 12 p 0) = false) (ha : a < 111) : ∃ w, f_L_isTuned N u (nI p) (nI (10 + a)) = some (.ok 1, w) ∧ Inv N w := by
  obtain ⟨v, e1, x1⟩ := f_bl h hp
  have hv := h.E x1
  have e11 : v 11 p 0 = u 11 p 0 := x1.at (by unfold mk; omega)
  have eR : getR v p = getR u p := by
    unfold getR
    rw [x1.at (f := 12) (by unfold mk; omega), x1.at (f := 13) (by unfold mk; omega), x1.row (f := 14) (fun i => by unfold mk; omega)]
  have hwv : crk (v 12 p 0) = false := by rw [x1.at (f := 12) (by unfold mk; omega)]; exact hw
  obtain ⟨M, hM⟩ : ∃ M, M = (10 + a) / 10 := ⟨_, rfl⟩
  have hM1 : 1 ≤ M := by omega
  have hM2 : M ≤ 12 := by omega
  obtain ⟨fam, hfam⟩ : ∃ fam, fam = v 11 p 0 := ⟨_, rfl⟩
  obtain ⟨r, hr⟩ : ∃ r, r = getR v p := ⟨_, rfl⟩
  obtain ⟨T, hT⟩ : ∃ T, T = tun fam M r := ⟨_, rfl⟩
  have et := f_tuner hv hp hwv ha
  rw [← hM, ← hfam, ← hr, ← hT] at et
  obtain ⟨w, hw9⟩ : ∃ w, w = sset (setR v p T.2) 3 0 0 (v 3 0 0 - (4 * nI T.1)) := ⟨_, rfl⟩
  rw [← hw9] at et
  have hok : okO T.2.2.2 := by rw [hT]; exact tun_o M r (by rw [hr]; exact (hv.p p hp).2.2)
  have hIw : Inv N w := by
    rw [hw9]
    exact (hv.setP (p := p) (w := T.2.1) (b := T.2.2.1) hok).s3 (nU (by omega))
  have w3 : w 3 0 0 = v 3 0 0 - (4 * nI T.1) := by rw [hw9, sset_self]
  have w13 : w 13 p 0 = v 13 p 0 + nI T.1 := by
    rw [hw9, sset_ne (by decide)]
    show (setP v p T.2.1 T.2.2.1 T.2.2.2) 13 p 0 = _
    rw [setP_13, hT, tun_b, hr]
    rfl
  have w12 : w 12 p 0 = T.2.1 := by rw [hw9, sset_ne (by decide)]; exact setP_12
  have w14 : w 14 p = T.2.2.2 := by rw [hw9, sset_fk (by decide)]; exact setP_14
  have w11 : w 11 p 0 = fam := by
    rw [hw9, sset_ne (by decide), hfam]
    unfold setR
    rw [setP_f (f := 11) (by decide) (by decide) (by decide)]
  have hTle : T.1 ≤ M := by rw [hT]; exact tun_le M r
  have eM : nI (10 + a) / 10 = nI M := by rw [hM]; exact pk_div (d := 10) (by omega) (by decide) (by decide)
  have eb : bl (u 11 p 0) (getR u p) = (if crk (tun fam (40 - M) T.2).2.1 then -1 else if ndR fam (tun fam (40 - M) T.2).2 then -1 else nI (T.1 + (tun fam (40 - M) T.2).1)) := by
    rw [← e11, ← eR, ← hfam, ← hr]
    unfold bl
    have e40 : tun fam 40 r = (T.1 + (tun fam (40 - M) T.2).1, (tun fam (40 - M) T.2).2) := by
      have := tun_add (fam := fam) M (40 - M) r
      rw [show M + (40 - M) = 40 by omega, ← hT] at this
      exact this
    rw [e40]
  have hgr : ndR fam T.2 = true → crk T.2.1 = false ∧ grd fam T.2.1 T.2.2.2 < 8 ∧ T.1 = M := fun hn => by
    have hn' := hn
    unfold ndR nds at hn'
    rw [Bool.and_eq_true] at hn'
    have hc : crk T.2.1 = false := by
      cases hcc : crk T.2.1 with
      | true => rw [hcc] at hn'; exact absurd hn'.1 (by decide)
      | false => rfl
    refine ⟨hc, ?_, ?_⟩
    · unfold grd
      rw [hc, if_neg Bool.false_ne_true]
      have h8 := cnt_le (thr fam T.2.2.2) 8
      have hne : ¬ cnt (thr fam T.2.2.2) 8 = 8 := fun q => (of_decide_eq_true hn'.2) ((nit_255 _).mpr q)
      omega
    · rcases Nat.lt_or_ge T.1 M with q | q
      · have := tun_st (fam := fam) M r (by rw [← hT]; exact q)
        rw [← hT, hn] at this
        cases this
      · omega
  unfold f_L_isTuned
  rw [e1, xb_ok, many7, xb_ok, ofPan4 hv.c0 hp hv.n12, xb_ok, et, xb_ok, eM, if_neg (nI_nlt hTle (by omega)), many7, xb_ok, w3, if_pos rfl, ofPan4 hIw.c0 hp hIw.n12, xb_ok, w13, if_pos rfl]
  have b83 : (crk T.2.1 = true ∨ (grd fam T.2.1 T.2.2.2 < 8 ∧ T.1 = M ∧ crk T.2.1 = false)) → f_L_isTuned_B83 N (nI T.1) (nI p) (nI (10 + a)) w = some (.ok 1, w) := fun q => by
    unfold f_L_isTuned_B83
    rw [ofPan2 hIw.c0 hp hIw.n12, xb_ok, w12]
    rcases q with q | ⟨q1, q2, q3⟩
    · rw [q]; rfl
    · rw [q3, if_neg (by decide), ofPan3 hIw.c0 hp hIw.n12, xb_ok, w11, w12, w14, if_neg (lge8 q1), eM, q2, if_pos rfl]
  cases hn : ndR fam T.2 with
  | true =>
    obtain ⟨g1, g2, g3⟩ := hgr hn
    have hB := b83 (Or.inr ⟨g2, g3, g1⟩)
    refine ⟨w, ?_, hIw⟩
    have h1 : 1 ≤ (tun fam (40 - M) T.2).1 := by
      have := tun_1 (fam := fam) (m := 39 - M) (r := T.2) hn
      rw [show 39 - M + 1 = 40 - M by omega] at this
      exact this
    have hle := tun_le (fam := fam) (40 - M) T.2
    rw [eb]
    by_cases c1 : crk (tun fam (40 - M) T.2).2.1 = true
    · rw [if_pos c1, if_pos (by decide)]; exact hB
    · rw [if_neg c1]
      by_cases c2 : ndR fam (tun fam (40 - M) T.2).2 = true
      · rw [if_pos c2, if_pos (by decide)]; exact hB
      · rw [if_neg c2, if_neg (nI_pos (by omega)), if_neg (nI_ge (by omega) (by omega))]; exact hB
  | false =>
    rw [tun_no hn] at eb
    cases hc : crk T.2.1 with
    | true =>
      refine ⟨w, ?_, hIw⟩
      have eb2 : bl (u 11 p 0) (getR u p) = -1 := by
        rw [eb]
        show (if crk T.2.1 = true then _ else _) = _
        rw [hc, if_pos rfl]
      rw [eb2, if_pos (by decide)]
      exact b83 (Or.inl hc)
    | false =>
      have eb2 : bl (u 11 p 0) (getR u p) = nI T.1 := by
        rw [eb]
        show (if crk T.2.1 = true then -1 else if ndR fam T.2 = true then -1 else nI (T.1 + 0)) = _
        rw [hc, hn, if_neg Bool.false_ne_true, if_neg Bool.false_ne_true, Nat.add_zero]
      rw [eb2, if_neg (nI_pos (by omega)), if_pos (nI_le hTle (by omega)), if_pos rfl, ofPan3 hIw.c0 hp hIw.n12, xb_ok, w11, w12, w14]
      have h255 : cnt (thr fam T.2.2.2) 8 = 8 := by
        unfold ndR nds at hn
        rw [hc] at hn
        have hd : decide (nitm fam T.2.2.2 ≠ 255) = false := hn
        have hd2 := of_decide_eq_false hd
        exact (nit_255 _).mp (Decidable.not_not.mp hd2)
      have hg : grd fam T.2.1 T.2.2.2 = 8 := by unfold grd; rw [hc, if_neg Bool.false_ne_true, h255]
      obtain ⟨v2, b1, b2⟩ := f_bl hIw hp
      refine ⟨v2, ?_, hIw.E b2⟩
      have er : getR w p = (T.2.1, w 13 p 0, T.2.2.2) := by unfold getR; rw [w12, w14]
      have hn2 : ndR fam (getR w p) = false := by rw [er]; exact hn
      have hb0 : bl (w 11 p 0) (getR w p) = 0 := by
        rw [w11]
        unfold bl
        rw [tun_no hn2]
        simp only
        rw [hn2, show crk (getR w p).1 = false from by rw [er]; exact hc]
        rfl
      rw [hg, if_pos (show nI 8 = (8 : Int32) from rfl), b1, xb_ok, hb0, if_pos rfl]
end TN
