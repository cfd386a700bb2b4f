/-! 06c: rows over raw cells (99, a); rows of rows; worlds named anew -/
def NewL (G : Gt) (l : List Nat) : Prop := l.Nodup ∧ ∀ q ∈ l, G 99 q = none
theorem newl_0 {G : Gt} : NewL G [] := ⟨List.nodup_nil, fun _ h => by cases h⟩
theorem none_back {G G1 : Gt} {a q : Nat} {e : va_E} (hE : Ext G G1 a) (ha : G1 99 a = some e) (hq : G1 99 q = none) : G 99 q = none := by
  have hne : a ≠ q := ne_of_none hq ha
  cases hc : G 99 q with
  | none => rfl
  | some e9 => rw [hE _ _ _ (fun z => hne z.2.symm) hc] at hq; cases hq
theorem newl_add {G G1 : Gt} {a : Nat} {e : va_E} {qs b : List Nat} (hE : Ext G G1 a) (ha : G1 99 a = some e) (hN : NewL G qs) (hall : ∀ q ∈ qs, ∃ e9, G1 99 q = some e9) (hb : NewL G1 b) : NewL G (qs ++ b) := by
  refine ⟨List.nodup_append.mpr ⟨hN.1, hb.1, fun x hx y hy hxy => ?_⟩, fun q hq => ?_⟩
  · subst hxy
    obtain ⟨e9, h⟩ := hall x hx
    rw [hb.2 x hy] at h; cases h
  · rcases List.mem_append.mp hq with h | h
    · exact hN.2 q h
    · exact none_back hE ha (hb.2 q h)
theorem newl_one {G : Gt} {q : Nat} (h : G 99 q = none) : NewL G [q] := ⟨by simp, fun x hx => by rw [List.mem_singleton.mp hx]; exact h⟩
theorem gw_to {z : Zt} {ad ad' : Ad} {G G' : Gt} {H : Heap} (h : GW z ad G H) (φ : Nat → Nat → Nat × Nat) (h1 : ∀ kd k e, G' kd k = some e → G (φ kd k).1 (φ kd k).2 = some e ∧ ad' kd k = ad (φ kd k).1 (φ kd k).2) (h2 : ∀ kd k e kd' k' e', G' kd k = some e → G' kd' k' = some e' → φ kd k = φ kd' k' → kd = kd' ∧ k = k') : GW z ad' G' H := by
  obtain ⟨L, f, hP, hD, hG, hI⟩ := h
  refine ⟨L, f, hP, hD, fun kd k e hk => ?_, fun kd k e kd' k' e' hk hk' hab => ?_⟩
  · obtain ⟨g1, g2⟩ := h1 _ _ _ hk
    rw [g2]; exact hG _ _ _ g1
  · obtain ⟨g1, g2⟩ := h1 _ _ _ hk
    obtain ⟨g3, g4⟩ := h1 _ _ _ hk'
    rw [g2, g4] at hab
    have e := hI _ _ _ _ _ _ g1 g3 hab
    exact h2 _ _ _ _ _ _ hk hk' (Prod.ext e.1 e.2)
def qrow0 (n : Nat) (r : Nat → Nat) : Nat → Option Nat := fun i => if i < n then some (r i) else none
theorem pl_fresh {A : Nat → Prop} {q : Nat} {e : va_E} {M : List Nat} {f : Nat → va_E} (hD : va_D A ((([] : va_W) ++ [(q, e)]) ++ va_pl M f)) : q ∉ M := fun h => by
  obtain ⟨k, hk⟩ := va_pl_get (X := ([] : va_W)) (f := f) h
  have h1 : (((([] : va_W) ++ [(q, e)]) ++ va_pl M f))[0]? = some (q, e) := rfl
  have h2 : (((([] : va_W) ++ [(q, e)]) ++ va_pl M f))[k + 1]? = some (q, f q) := by
    rw [List.nil_append] at hk ⊢
    rw [List.singleton_append, List.getElem?_cons_succ]
    exact hk
  have h3 := hD.1 0 (k + 1) _ _ h1 h2 rfl
  omega
theorem pl_cons {q : Nat} {e : va_E} {M : List Nat} {f : Nat → va_E} (h : q ∉ M) : (([] : va_W) ++ [(q, e)]) ++ va_pl M f = [] ++ va_pl (q :: M) (va_up f q e) := by
  show (q, e) :: va_pl M f = (q, va_up f q e q) :: va_pl M (va_up f q e)
  rw [va_up_self]
  congr 1
  exact List.map_congr_left (fun a ha => by
    have hne : a ≠ q := fun x => h (by rw [← x]; exact ha)
    rw [va_up_ne _ _ hne])
theorem List.Nodup.map_on' {n : Nat} {r : Nat → Nat} (h : ∀ i j : Nat, i < n → j < n → r i = r j → i = j) : ((List.range n).map r).Nodup := by
  unfold List.Nodup
  rw [List.pairwise_map]
  refine List.Pairwise.imp_of_mem (R := fun a b => a < b) (fun {a b} ha hb hab e => ?_) List.pairwise_lt_range
  have := h a b (List.mem_range.mp ha) (List.mem_range.mp hb) e
  omega
section NR
variable {p : Program} {l : Launch} {e : Env} {R : Room} {s : State} {m : MethodId} {args : Array Value} {below : List Frame} {meth : Method} {c : Code} {H : Heap} {locs : List Loc} {cells slots : Nat} {Q : State → Prop}
variable {cc : ByteArray} {pc : Nat} {ls : Array Slot} {rest : List Value} {z : Zt} {ad : Ad} {G G' : Gt} {own C : String} {idx ci j N a : Nat} {T : u_T} {fs : List Value} {tys : List (ClassId × FieldType)} {H0 : Heap}
theorem nb_getr (hA : Raw ad) (hx : p.tables.exec = Jvm.exec) (hb : c.code = cc) (hT : TB s) (hK : va_K z.1 kCl tys s) (hown : s.vm.findClass own = some m.cls) (hW : GW z ad G H) (f : FL own idx ci j C T N) (hk : G 99 a = some (.inr (ci, fs))) {v : Value} (hv : fs[j]? = some v) (hdg : decode cc pc = .ok (.getfield idx, 3))
    (kk : W p l e R s m args below meth c H locs cells slots Q (F0 m (pc + 3) ls (v :: rest))) : W p l e R s m args below meth c H locs cells slots Q (F0 m pc ls (.ref a :: rest)) := by
  have h := nb_get (ad := ad) (kd := 99) (k := a) hx hb hT hK hown hW f hk hv hdg kk
  rw [hA a] at h
  exact h
theorem nb_putr (hA : Raw ad) (hx : p.tables.exec = Jvm.exec) (hb : c.code = cc) (hT : TB s) (hK : va_K z.1 kCl tys s) (hown : s.vm.findClass own = some m.cls) (hW : GW z ad G H) (hS : va_S (zA z) H0 H locs) (f : FL own idx ci j C T N) (ty0 : Nat → FieldType) (hty : ∀ k, k < N → parseFieldDescriptor (T k).2.2.1 = some (ty0 k)) (hnm : ∀ a, a < N → ∀ b, b < N → a ≠ b → (T a).2.1 ≠ (T b).2.1) (hk : G 99 a = some (.inr (ci, fs)))
    {v : Value} (hfin : (T j).2.2.2 = false) (hn : narrow (ty0 j) v = v) (hfit : fits (ty0 j) v = true) (hl : j < fs.length) (hdg : decode cc pc = .ok (.putfield idx, 3))
    (kk : ∀ (H1 : Heap) (locs1 : List Loc) (G' : Gt), Ext G G' a → G' 99 a = some (.inr (ci, fs.set j v)) → GW z ad G' H1 → va_S (zA z) H0 H1 locs1 → W p l e R s m args below meth c H1 locs1 cells slots Q (F0 m (pc + 3) ls rest)) : W p l e R s m args below meth c H locs cells slots Q (F0 m pc ls (v :: .ref a :: rest)) := by
  have h := nb_put (ad := ad) (kd := 99) (k := a) (rest := rest) hx hb hT hK hown hW hS f ty0 hty hnm hk hfin hn hfit hl rfl hdg (fun H1 locs1 hW1 hS1 => kk H1 locs1 _ up_ext up2_self hW1 hS1)
  rw [hA a] at h
  exact h
theorem nb_putFr (hA : Raw ad) (hx : p.tables.exec = Jvm.exec) (hb : c.code = cc) (hT : TB s) (hK : va_K z.1 kCl tys s) (hown : s.vm.findClass C = some m.cls) (hW : GW z ad G H) (hS : va_S (zA z) H0 H locs) (f : FL C idx ci j C T N) (hlk : Cond.fieldLink C idx C (T j).2.1 (T j).2.2.1 ∈ lw_tbl) (ty0 : Nat → FieldType) (hty : ∀ k, k < N → parseFieldDescriptor (T k).2.2.1 = some (ty0 k)) (hnm : ∀ a, a < N → ∀ b, b < N → a ≠ b → (T a).2.1 ≠ (T b).2.1) (hk : G 99 a = some (.inr (ci, fs)))
    {v : Value} (hfin : (T j).2.2.2 = true) (hin2 : meth.name = "<init>") (hn : narrow (ty0 j) v = v) (hfit : fits (ty0 j) v = true) (hl : j < fs.length) (hdg : decode cc pc = .ok (.putfield idx, 3))
    (kk : ∀ (H1 : Heap) (locs1 : List Loc) (G' : Gt), Ext G G' a → G' 99 a = some (.inr (ci, fs.set j v)) → GW z ad G' H1 → va_S (zA z) H0 H1 locs1 → W p l e R s m args below meth c H1 locs1 cells slots Q (F0 m (pc + 3) ls rest)) : W p l e R s m args below meth c H locs cells slots Q (F0 m pc ls (v :: .ref a :: rest)) := by
  have h := nb_putF (ad := ad) (kd := 99) (k := a) (rest := rest) hx hb hT hK hown hW hS f hlk ty0 hty hnm hk hfin hin2 hn hfit hl rfl hdg (fun H1 locs1 hW1 hS1 => kk H1 locs1 _ up_ext up2_self hW1 hS1)
  rw [hA a] at h
  exact h
theorem nb_iastr (hA : Raw ad) (hx : p.tables.exec = Jvm.exec) (hb : c.code = cc) (hK : va_K z.1 kCl tys s) (hW : GW z ad G H) (hS : va_S (zA z) H0 H locs) (t0 : Nat) {cA : ClassId} {n : Nat} {f : Nat → Int32} (hk : G 99 a = some (.inl (cA, n, .inl f))) (ht : tys[t0]? = some (cA, .int)) {i x : Int32} (hin : vp_in i n) (hdg : decode cc pc = .ok (.iastore, 1))
    (kk : ∀ (H1 : Heap) (locs1 : List Loc) (G' : Gt), Ext G G' a → G' 99 a = some (.inl (cA, n, .inl (upd f i.toNatClampNeg x))) → GW z ad G' H1 → va_S (zA z) H0 H1 locs1 → W p l e R s m args below meth c H1 locs1 cells slots Q (F0 m (pc + 1) ls rest)) : W p l e R s m args below meth c H locs cells slots Q (F0 m pc ls (.int x :: .int i :: .ref a :: rest)) := by
  have h := nb_iast (ad := ad) (kd := 99) (k := a) (rest := rest) hx hb hK hW hS t0 hk ht hin rfl hdg (fun H1 locs1 hW1 hS1 => kk H1 locs1 _ up_ext up2_self hW1 hS1)
  rw [hA a] at h
  exact h
theorem nb_iald_r (hA : Raw ad) (hx : p.tables.exec = Jvm.exec) (hb : c.code = cc) (hK : va_K z.1 kCl tys s) (hW : GW z ad G H) (t0 : Nat) {cA : ClassId} {n : Nat} {f : Nat → Int32} (hk : G 99 a = some (.inl (cA, n, .inl f))) (ht : tys[t0]? = some (cA, .int)) {i : Int32} (hin : vp_in i n) (hdg : decode cc pc = .ok (.iaload, 1))
    (kk : W p l e R s m args below meth c H locs cells slots Q (F0 m (pc + 1) ls (.int (f i.toNatClampNeg) :: rest))) : W p l e R s m args below meth c H locs cells slots Q (F0 m pc ls (.int i :: .ref a :: rest)) := by
  have h := nb_iald (ad := ad) (kd := 99) (k := a) hx hb hK hW t0 hk ht hin hdg kk
  rw [hA a] at h
  exact h
/-- a cell that is in the world, put into a row of references -/
theorem nb_aast {kd k kv k2 : Nat} (hx : p.tables.exec = Jvm.exec) (hb : c.code = cc) (hK : va_K z.1 kCl tys s) (hW : GW z ad G H) (hS : va_S (zA z) H0 H locs) (t0 : Nat) {cA : ClassId} {n : Nat} {f : Nat → Option Nat} {r : vw_C} {vs : List Value} (hk : G kd k = some (.inl (cA, n, .inr (.inr (.inr (.inr f)))))) (ht : tys[t0]? = some (cA, .object r.1)) (hv : G kv k2 = some (.inr (ci, vs))) (hc : kCl[ci]? = some r) {i : Int32} (hin : vp_in i n) (he : up2 G kd k (.inl (cA, n, .inr (.inr (.inr (.inr (va_up f i.toNatClampNeg (some (ad kv k2)))))))) = G') (hdg : decode cc pc = .ok (.aastore, 1))
    (kk : ∀ (H1 : Heap) (locs1 : List Loc), GW z ad G' H1 → va_S (zA z) H0 H1 locs1 → W p l e R s m args below meth c H1 locs1 cells slots Q (F0 m (pc + 1) ls rest)) : W p l e R s m args below meth c H locs cells slots Q (F0 m pc ls (.ref (ad kv k2) :: .int i :: .ref (ad kd k) :: rest)) := by
  subst he
  obtain ⟨L, g, hP, hD, hG, hI⟩ := hW
  obtain ⟨ha, hf⟩ := hG _ _ _ hk
  obtain ⟨ha2, hf2⟩ := hG _ _ _ hv
  obtain ⟨i0, hi⟩ := va_pl_get (X := []) (f := g) ha
  obtain ⟨i2, hi2⟩ := va_pl_get (X := []) (f := g) ha2
  exact va_astq (D := z.1) (cA := cA) (n := n) (f := f) (r := r) (vs := vs) hx hb hK hP hD hS i0 t0 i2 ci (by rw [hi, hf]) ht (by rw [hi2, hf2]) hc hin hdg (fun H1 locs1 hP1 hD1 hS1 => kk H1 locs1 (gw_up hD hG hI hk hi hP1) hS1)
theorem nb_aastr {kd k b : Nat} (hA : Raw ad) (hx : p.tables.exec = Jvm.exec) (hb : c.code = cc) (hK : va_K z.1 kCl tys s) (hW : GW z ad G H) (hS : va_S (zA z) H0 H locs) (t0 : Nat) {cA : ClassId} {n : Nat} {f : Nat → Option Nat} {r : vw_C} {vs : List Value} (hk : G kd k = some (.inl (cA, n, .inr (.inr (.inr (.inr f)))))) (ht : tys[t0]? = some (cA, .object r.1)) (hv : G 99 b = some (.inr (ci, vs))) (hc : kCl[ci]? = some r) {i : Int32} (hin : vp_in i n) (hdg : decode cc pc = .ok (.aastore, 1))
    (kk : ∀ (H1 : Heap) (locs1 : List Loc), GW z ad (up2 G kd k (.inl (cA, n, .inr (.inr (.inr (.inr (va_up f i.toNatClampNeg (some b)))))))) H1 → va_S (zA z) H0 H1 locs1 → W p l e R s m args below meth c H1 locs1 cells slots Q (F0 m (pc + 1) ls rest)) : W p l e R s m args below meth c H locs cells slots Q (F0 m pc ls (.ref b :: .int i :: .ref (ad kd k) :: rest)) := by
  have h := nb_aast (kv := 99) (k2 := b) (rest := rest) hx hb hK hW hS t0 hk ht hv hc hin rfl hdg (fun H1 locs1 hW1 hS1 => kk H1 locs1 (by rw [hA b] at hW1; exact hW1) hS1)
  rw [hA b] at h
  exact h
/-- new int[n][k] -/
theorem nb_mna (hA : Raw ad) (hx : p.tables.exec = Jvm.exec) (hb : c.code = cc) (hSW : SW z s) (hown : s.vm.findClass own = some m.cls) (hW : GW z ad G H) (hS : va_S (zA z) s.heap H locs) (f0 : Cond.classLink own idx "[[I" ∈ lw_tbl ∧ Cond.arrayOver (.array .int) ∈ lw_tbl ∧ Cond.arrayClass .int ∈ lw_tbl) {n k : Int32} {N' K' : Nat} (hn : ¬ n < 0) (hk : ¬ k < 0) (hN : n.toNatClampNeg = N') (hM : k.toNatClampNeg = K') (hb1 : N' * 4 ≤ 536870912) (hb2 : K' * componentBytes .int ≤ 536870912) (hb3 : K' ≤ 536870912) (hR : cells + (1 + N') ≤ R.cells ∧ slots + (N' + N' * K') ≤ R.slots) (hdg : decode cc pc = .ok (.multianewarray idx 2, 4))
    (kk : ∀ (q : Nat) (r : Nat → Nat) (H1 : Heap) (G' : Gt), NewL G (q :: (List.range N').map r) → Ext0 G G' → G' 99 q = some (.inl (z.2.2 1, N', .inr (.inr (.inr (.inr (qrow0 N' r)))))) → (∀ i, i < N' → G' 99 (r i) = some (.inl (z.2.2 0, K', .inl (fun _ => 0)))) → GW z ad G' H1 → va_S (zA z) s.heap H1 locs → W p l e R s m args below meth c H1 locs (cells + 1 + N') (slots + N' + N' * K') Q (F0 m (pc + 4) ls (.ref q :: rest))) : W p l e R s m args below meth c H locs cells slots Q (F0 m pc ls (.int k :: .int n :: rest)) := by
  obtain ⟨hT, hK, -, hB⟩ := hSW
  obtain ⟨L, g, hP, hD, hG, hI⟩ := hW
  have hcy : s.vm.findClass (FieldType.array .int).toString = some (z.2.2 0) := (hK.2 0 _ rfl).2
  refine va_mna (D := z.1) (X := []) (L := L) (f := g) (ty := .int) (cy := z.2.2 0) (z := (K', .inl (fun _ => 0))) hx hb hown (hT.use f0.1 rfl) (hT.use (A := #[]) f0.2.1 rfl) (hT.use f0.2.2 rfl) hcy hK hP hD hS (fun q h => Nat.le_trans hB h) hn hk hN hM hb1 hb2 hb3 rfl rfl hR.1 hR.2 (fun cA => by show ({ cls := cA, slots := Array.replicate K' (.int 0), vm := .none } : Cell) = _; rw [arrV_new]; rfl) hdg (fun q r cA H1 hr hrL hK1 hP1 hD1 hS1 => ?_)
  obtain rfl := same_cls (t0 := 1) hK rfl hK1
  generalize hrows : (List.range N').map r = rows at hP1 hD1
  have hrow : ∀ i, i < N' → r i ∈ rows := fun i hi => by rw [← hrows]; exact List.mem_map.mpr ⟨i, List.mem_range.mpr hi, rfl⟩
  have hrowL : ∀ x ∈ rows, x ∉ L := fun x hx => by
    rw [← hrows] at hx
    obtain ⟨i, hi, rfl⟩ := List.mem_map.mp hx
    exact hrL i (List.mem_range.mp hi)
  have hnd : rows.Nodup := by
    rw [← hrows]
    exact List.Nodup.map_on' hr
  have hq : q ∉ L ++ rows := pl_fresh hD1
  have hqL : q ∉ L := fun h => hq (List.mem_append_left _ h)
  have hqr : q ∉ rows := fun h => hq (List.mem_append_right _ h)
  have hpl := pl_cons (e := Sum.inl (z.2.2 1, N', .inr (.inr (.inr (.inr (qrow0 N' r)))))) (f := vr_up g rows (.inl (z.2.2 0, K', .inl (fun _ => 0)))) hq
  have hold : ∀ kd k e, G kd k = some e → ¬ (kd = 99 ∧ (k = q ∨ k ∈ rows)) := fun kd k e hk h => by
    have h1 := (hG _ _ _ hk).1
    rw [h.1, hA] at h1
    rcases h.2 with h2 | h2
    · rw [h2] at h1; exact hqL h1
    · exact hrowL _ h2 h1
  refine kk q r H1 (fun kd k => if kd = 99 ∧ k = q then some (Sum.inl (z.2.2 1, N', .inr (.inr (.inr (.inr (qrow0 N' r)))))) else if kd = 99 ∧ k ∈ rows then some (.inl (z.2.2 0, K', .inl (fun _ => 0))) else G kd k) ?_ ?_ ?_ ?_ ?_ hS1
  · rw [hrows]
    refine ⟨List.nodup_cons.mpr ⟨hqr, hnd⟩, fun x hx => ?_⟩
    cases hc : G 99 x with
    | none => rfl
    | some e9 => exact absurd ⟨rfl, List.mem_cons.mp hx⟩ (hold _ _ _ hc)
  · intro kd k e hk
    have h := hold _ _ _ hk
    show (if kd = 99 ∧ k = q then _ else if kd = 99 ∧ k ∈ rows then _ else G kd k) = some e
    rw [if_neg (fun x => h ⟨x.1, Or.inl x.2⟩), if_neg (fun x => h ⟨x.1, Or.inr x.2⟩)]
    exact hk
  · exact if_pos ⟨rfl, rfl⟩
  · intro i hi
    have h1 : r i ≠ q := fun x => hqr (x ▸ hrow i hi)
    show (if (99 : Nat) = 99 ∧ r i = q then _ else if (99 : Nat) = 99 ∧ r i ∈ rows then _ else G 99 (r i)) = _
    rw [if_neg (fun x => h1 x.2), if_pos ⟨rfl, hrow i hi⟩]
  · refine ⟨q :: (L ++ rows), va_up (vr_up g rows (.inl (z.2.2 0, K', .inl (fun _ => 0)))) q (Sum.inl (z.2.2 1, N', .inr (.inr (.inr (.inr (qrow0 N' r)))))), by rw [← hpl]; exact hP1, by rw [← hpl]; exact hD1, fun kd k e hk => ?_, fun kd k e kd' k' e' hk hk' hab => ?_⟩
    · replace hk : (if kd = 99 ∧ k = q then some (Sum.inl (z.2.2 1, N', .inr (.inr (.inr (.inr (qrow0 N' r)))))) else if kd = 99 ∧ k ∈ rows then some (.inl (z.2.2 0, K', .inl (fun _ => 0))) else G kd k) = some e := hk
      by_cases c1 : kd = 99 ∧ k = q
      · rw [if_pos c1] at hk
        obtain ⟨rfl, rfl⟩ := c1
        cases hk
        rw [hA]
        exact ⟨List.mem_cons_self, va_up_self _ _ _⟩
      · rw [if_neg c1] at hk
        by_cases c2 : kd = 99 ∧ k ∈ rows
        · rw [if_pos c2] at hk
          obtain ⟨rfl, h2⟩ := c2
          cases hk
          rw [hA]
          exact ⟨List.mem_cons_of_mem _ (List.mem_append_right _ h2), (va_up_ne _ _ (show k ≠ q from fun x => hqr (x ▸ h2))).trans (vr_up_in h2)⟩
        · rw [if_neg c2] at hk
          obtain ⟨g1, g2⟩ := hG _ _ _ hk
          exact ⟨List.mem_cons_of_mem _ (List.mem_append_left _ g1), ((va_up_ne _ _ (show ad kd k ≠ q from fun x => hqL (x ▸ g1))).trans (vr_up_ne (fun x => hrowL _ x g1))).trans g2⟩
    · have key : ∀ {kd k : Nat} {e : va_E}, (if kd = 99 ∧ k = q then some (Sum.inl (z.2.2 1, N', .inr (.inr (.inr (.inr (qrow0 N' r)))))) else if kd = 99 ∧ k ∈ rows then some (.inl (z.2.2 0, K', .inl (fun _ => 0))) else G kd k) = some e → (kd = 99 ∧ ad kd k = k ∧ k ∉ L) ∨ (∃ e9, G kd k = some e9 ∧ ad kd k ∈ L) := by
        intro kd k e hk
        by_cases c1 : kd = 99 ∧ k = q
        · obtain ⟨rfl, rfl⟩ := c1; exact Or.inl ⟨rfl, hA _, hqL⟩
        · rw [if_neg c1] at hk
          by_cases c2 : kd = 99 ∧ k ∈ rows
          · obtain ⟨rfl, h2⟩ := c2; exact Or.inl ⟨rfl, hA _, hrowL _ h2⟩
          · rw [if_neg c2] at hk; exact Or.inr ⟨e, hk, (hG _ _ _ hk).1⟩
      rcases key hk with ⟨a1, a2, a3⟩ | ⟨e1, a1, a2⟩ <;> rcases key hk' with ⟨b1, b2, b3⟩ | ⟨e2, b1, b2⟩
      · exact ⟨a1.trans b1.symm, by rw [a2, b2] at hab; exact hab⟩
      · rw [a2] at hab; exact absurd (hab ▸ b2) a3
      · rw [b2] at hab; exact absurd (hab ▸ a2) b3
      · exact hI _ _ _ _ _ _ a1 b1 hab
end NR
