/-- the classes whose objects the worlds hold -/
abbrev kCl : List vw_C := [(RX0, TX0, 2), (RX1, TX1, 7), (RX2, TX2, 2), (RX3, TX3, 5), (RX4, TX4, 4), (RX5, TX5, 6), (RX6, TX6, 4), (RX7, TX7, 16), (RX11, TX11, 16), (RJx4a65c, TJx4a65c, 3), (RJx35411, TJx35411, 4), (RX8, TX8, 5), (RX9, TX9, 4), (RX10, TX10, 8), (RJ6, TJ6, 1)]
abbrev kFw : List (String × MethodName × MethodName) := [(RJx35411, ⟨"java/util/Iterator", "hasNext", "()Z"⟩, yJx35411_hasNext_aae02)]
/-! 05.base: the tables' words as one fact of a state; worlds by keys; rows over them -/
def tbNest : Cond → Bool
  | .fieldLinkNest .. => true
  | .methodLinkNest .. => true
  | .castable .. => true
  | .declares .. => true
  | .unhidden .. => true
  | .arrayOver (.object _) => true
  | .arrayOver (.array _) => true
  | _ => false
theorem va_AOA_moved {t : FieldType} {u U : State} (hvm : u.vm.Alike U.vm) (h : va_AOA t u) : va_AOA t U := by
  unfold va_AOA Cond.before at h ⊢
  simp only [Cond.holds, Cond.value, beq_iff_eq] at h ⊢
  rw [hvm.findClass]
  cases hc : u.vm.findClass (FieldType.array t).toString with
  | none => simp [hc] at h
  | some comp =>
    simp only [hc, Option.bind_some, Option.bind_eq_some_iff, Option.map_eq_some_iff] at h ⊢
    obtain ⟨c, hi, k, hk, hb⟩ := h
    obtain ⟨k', hk', he⟩ := hvm.2.2 _ _ hk
    refine ⟨c, ?_, k', hk', ?_⟩
    · have e1 := va_idx_bare U.vm comp
      have e2 := va_idx_bare u.vm comp
      have e3 : U.vm.bare = u.vm.bare := by first | exact hvm.bare_eq | exact hvm.bare_eq.symm
      rw [e3] at e1
      exact (e1.symm.trans e2).trans hi
    · have hkind : k'.kind = k.kind := by rw [he]
      rw [hkind, hvm.findClass]
      exact hb
theorem va_Nw.warmU {C n d : String} {s U : State} (hW : s.WarmedH U.vm) (hZ : va_Nw (.unhidden C n d) s) : va_Nw (.unhidden C n d) U := va_tabs rfl (rfl : (s.setVm U.vm).vm = U.vm) (by rw [Cond.unhidden_setVm hW.alike]; exact hZ)
def tbGood (w : Cond) : Bool := goodWord w || tbNest w
theorem tb_move {w : Cond} {s U : State} {A A' : Array Value} (hW : s.WarmedH U.vm) (hg : tbGood w = true) (h : w.before A s = true) : w.before A' U = true := by
  unfold tbGood at hg
  rcases (Bool.or_eq_true ..).mp hg with g | g
  · exact word_at hW (good_of_word g) h
  · cases w <;> first
      | (simp [tbNest] at g; done)
      | exact va_Nw.use rfl (va_Nw.warmF hW (va_Nw.of rfl h))
      | exact va_Nw.use rfl (va_Nw.warmM hW (va_Nw.of rfl h))
      | exact va_Nw.use rfl (va_Nw.warmC hW (va_Nw.of rfl h))
      | exact va_Nw.use rfl (va_Nw.warmD hW (va_Nw.of rfl h))
      | exact va_Nw.use rfl (va_Nw.warmU hW (va_Nw.of rfl h))
      | (rename_i ty; cases ty <;> first
          | (simp [tbNest] at g; done)
          | exact va_AO.use (va_AO.moved hW.alike (va_AO.of h))
          | exact va_AOA.use (va_AOA_moved hW.alike h))
def TB (U : State) : Prop := (∀ w ∈ lw_tbl, tbGood w = true → w.before #[] U = true) ∧ ∀ x ∈ kFw, va_Fw x.1 x.2.1 x.2.2 U ∧ (x.2.1.cls ≠ "java/lang/invoke/MethodHandle" ∧ x.2.1.cls ≠ "java/lang/invoke/VarHandle")
theorem TB.mv {s U : State} (hW : s.WarmedH U.vm) (h : TB s) : TB U := ⟨fun w hw hg => tb_move hW hg (h.1 w hw hg), fun x hx => ⟨va_Fw.moved (h.2 x hx).2 hW.alike (h.2 x hx).1, (h.2 x hx).2⟩⟩
theorem TB.use {U : State} (h : TB U) {w : Cond} {A : Array Value} (hw : w ∈ lw_tbl) (hg : tbGood w = true) : w.before A U = true := tb_move (State.WarmedH.refl U) hg (h.1 w hw hg)
/-- what a claim's worlds hang on: the classes' numbers and slots, the first address of our own, the array classes -/
abbrev Zt : Type := va_G × Nat × (Nat → ClassId)
abbrev Ad : Type := Nat → Nat → Nat
abbrev Gt : Type := Nat → Nat → Option va_E
def zA (z : Zt) : Nat → Prop := fun q => z.2.1 ≤ q
def up2 (G : Gt) (kd k : Nat) (e : va_E) : Gt := fun a b => if a = kd ∧ b = k then some e else G a b
def upA (ad : Ad) (kd k q : Nat) : Ad := fun a b => if a = kd ∧ b = k then q else ad a b
theorem up2_self {G : Gt} {kd k : Nat} {e : va_E} : up2 G kd k e kd k = some e := by simp [up2]
theorem up2_ne {G : Gt} {kd k a b : Nat} {e : va_E} (h : ¬ (a = kd ∧ b = k)) : up2 G kd k e a b = G a b := by simp [up2, h]
def GW (z : Zt) (ad : Ad) (G : Gt) (H : Heap) : Prop := ∃ (L : List Nat) (f : Nat → va_E), va_P z.1 kCl ([] ++ va_pl L f) H ∧ va_D (zA z) ([] ++ va_pl L f) ∧ (∀ kd k e, G kd k = some e → ad kd k ∈ L ∧ f (ad kd k) = e) ∧ ∀ kd k e kd' k' e', G kd k = some e → G kd' k' = some e' → ad kd k = ad kd' k' → kd = kd' ∧ k = k'
theorem gw_up {z : Zt} {ad : Ad} {G : Gt} {L : List Nat} {f : Nat → va_E} {H1 : Heap} {kd k i : Nat} {e0 e : va_E} (hD : va_D (zA z) ([] ++ va_pl L f)) (hG : ∀ kd k e, G kd k = some e → ad kd k ∈ L ∧ f (ad kd k) = e) (hI : ∀ kd k e kd' k' e', G kd k = some e → G kd' k' = some e' → ad kd k = ad kd' k' → kd = kd' ∧ k = k')
    (hk : G kd k = some e0) (hi : (([] : va_W) ++ va_pl L f)[i]? = some (ad kd k, f (ad kd k))) (hP1 : va_P z.1 kCl ((([] : va_W) ++ va_pl L f).set i (ad kd k, e)) H1) : GW z ad (up2 G kd k e) H1 := by
  have ha := (hG _ _ _ hk).1
  have hset := va_pl_set (e := e) hD ha hi
  refine ⟨L, va_up f (ad kd k) e, by rw [← hset]; exact hP1, by rw [← hset]; exact hD.set hi, fun a b e1 h1 => ?_, fun a b e1 a' b' e2 h1 h2 hab => ?_⟩
  · by_cases hc : a = kd ∧ b = k
    · obtain ⟨rfl, rfl⟩ := hc
      rw [up2_self] at h1
      cases h1
      exact ⟨ha, va_up_self _ _ _⟩
    · rw [up2_ne hc] at h1
      obtain ⟨h3, h4⟩ := hG _ _ _ h1
      refine ⟨h3, ?_⟩
      rw [va_up_ne _ _ (fun q => hc (hI _ _ _ _ _ _ h1 hk q))]
      exact h4
  · have old : ∀ {a b : Nat} {e1 : va_E}, up2 G kd k e a b = some e1 → ∃ e9, G a b = some e9 := by
      intro a b e1 h
      by_cases hc : a = kd ∧ b = k
      · obtain ⟨rfl, rfl⟩ := hc; exact ⟨_, hk⟩
      · rw [up2_ne hc] at h; exact ⟨_, h⟩
    obtain ⟨_, g1⟩ := old h1
    obtain ⟨_, g2⟩ := old h2
    exact hI _ _ _ _ _ _ g1 g2 hab
/-- a new cell, at a key that was none -/
theorem gw_new {z : Zt} {ad : Ad} {G : Gt} {L : List Nat} {f : Nat → va_E} {H1 : Heap} {kd k q : Nat} {e : va_E} (hG : ∀ kd k e, G kd k = some e → ad kd k ∈ L ∧ f (ad kd k) = e) (hI : ∀ kd k e kd' k' e', G kd k = some e → G kd' k' = some e' → ad kd k = ad kd' k' → kd = kd' ∧ k = k')
    (hn : G kd k = none) (hP1 : va_P z.1 kCl ((([] : va_W) ++ va_pl L f) ++ [(q, e)]) H1) (hD1 : va_D (zA z) ((([] : va_W) ++ va_pl L f) ++ [(q, e)])) : GW z (upA ad kd k q) (up2 G kd k e) H1 := by
  have hq : q ∉ L := va_pl_fresh2 hD1
  have hpush : (([] : va_W) ++ va_pl L f) ++ [(q, e)] = [] ++ va_pl (L ++ [q]) (va_up f q e) := va_pl_push hq
  have adne : ∀ {a b : Nat}, ¬ (a = kd ∧ b = k) → upA ad kd k q a b = ad a b := fun h => by simp [upA, h]
  have adself : upA ad kd k q kd k = q := by simp [upA]
  refine ⟨L ++ [q], va_up f q e, by rw [← hpush]; exact hP1, by rw [← hpush]; exact hD1, fun a b e1 h1 => ?_, fun a b e1 a' b' e2 h1 h2 hab => ?_⟩
  · by_cases hc : a = kd ∧ b = k
    · obtain ⟨rfl, rfl⟩ := hc
      rw [up2_self] at h1
      cases h1
      rw [adself]
      exact ⟨by simp, va_up_self _ _ _⟩
    · rw [up2_ne hc] at h1
      obtain ⟨h3, h4⟩ := hG _ _ _ h1
      rw [adne hc]
      exact ⟨List.mem_append_left _ h3, (va_up_ne f e (fun hz => hq (by rw [← hz]; exact h3))).trans h4⟩
  · by_cases hc : a = kd ∧ b = k <;> by_cases hc' : a' = kd ∧ b' = k
    · exact ⟨hc.1.trans hc'.1.symm, hc.2.trans hc'.2.symm⟩
    · obtain ⟨rfl, rfl⟩ := hc
      rw [up2_ne hc'] at h2
      rw [adself, adne hc'] at hab
      exact absurd (hab ▸ (hG _ _ _ h2).1) hq
    · obtain ⟨rfl, rfl⟩ := hc'
      rw [up2_ne hc] at h1
      rw [adself, adne hc] at hab
      exact absurd (hab ▸ (hG _ _ _ h1).1) hq
    · rw [up2_ne hc] at h1
      rw [up2_ne hc'] at h2
      rw [adne hc, adne hc'] at hab
      exact hI _ _ _ _ _ _ h1 h2 hab
theorem gw_eqA {z : Zt} {ad ad' : Ad} {G : Gt} {H : Heap} (h : GW z ad G H) (he : ∀ kd k e, G kd k = some e → ad' kd k = ad kd k) : GW z ad' G H := by
  obtain ⟨L, f, hP, hD, hG, hI⟩ := h
  refine ⟨L, f, hP, hD, fun kd k e hk => ?_, fun kd k e kd' k' e' h1 h2 hab => ?_⟩
  · rw [he _ _ _ hk]; exact hG _ _ _ hk
  · rw [he _ _ _ h1, he _ _ _ h2] at hab; exact hI _ _ _ _ _ _ h1 h2 hab
/-- fewer keys -/
theorem gw_sub {z : Zt} {ad : Ad} {G G' : Gt} {H : Heap} (h : GW z ad G H) (he : ∀ kd k e, G' kd k = some e → G kd k = some e) : GW z ad G' H := by
  obtain ⟨L, f, hP, hD, hG, hI⟩ := h
  exact ⟨L, f, hP, hD, fun kd k e hk => hG _ _ _ (he _ _ _ hk), fun kd k e kd' k' e' h1 h2 hab => hI _ _ _ _ _ _ (he _ _ _ h1) (he _ _ _ h2) hab⟩
theorem gw_kept {z : Zt} {ad : Ad} {G : Gt} {H H1 : Heap} (h : GW z ad G H) (hq : ∀ q : Nat, q < H.size → H1[q]? = H[q]?) : GW z ad G H1 := by
  obtain ⟨L, f, hP, hD, hG, hI⟩ := h
  exact ⟨L, f, hP.kept (fun k x hx => hq x.1 (hP k x hx).lt), hD, hG, hI⟩
theorem gw_none {z : Zt} {ad : Ad} {H : Heap} : GW z ad (fun _ _ => none) H := ⟨[], fun _ => .inr (0, []), fun k q h => by simp [va_pl] at h, ⟨fun i j p q h => by simp [va_pl] at h, fun k q h => by simp [va_pl] at h⟩, fun kd k e h => (by cases h), fun kd k e kd' k' e' h => (by cases h)⟩
/-- a field's entry in a pool, and what the tables say of it -/
def FL (own : String) (idx ci j : Nat) (C : String) (T : u_T) (N : Nat) : Prop :=
  kCl[ci]? = some (C, T, N) ∧ ((u_ws C T N).all (fun w => tbGood w && decide (w ∈ lw_tbl))) = true ∧ j < N ∧ (T j).1 = C ∧ (Cond.fieldLink own idx C (T j).2.1 (T j).2.2.1 ∈ lw_tbl ∨ ∃ host, Cond.fieldLinkNest own idx C (T j).2.1 (T j).2.2.1 host ∈ lw_tbl)
section NB
variable {p : Program} {l : Launch} {e : Env} {R : Room} {s : State} {m : MethodId} {args : Array Value} {below : List Frame} {meth : Method} {c : Code} {H : Heap} {locs : List Loc} {cells slots : Nat} {Q : State → Prop}
variable {cc : ByteArray} {pc : Nat} {ls : Array Slot} {rest : List Value} {z : Zt} {ad : Ad} {G G' : Gt} {tys : List (ClassId × FieldType)} {H0 : Heap} {own C : String} {idx ci j N kd k : Nat} {T : u_T} {fs : List Value}
theorem fl_ws {args : Array Value} (hT : TB s) (f : FL own idx ci j C T N) : ∀ w ∈ u_ws C T N, w.before args s = true := fun w hw => by
  have h := List.all_eq_true.mp f.2.1 w hw
  simp only [Bool.and_eq_true, decide_eq_true_eq] at h
  exact hT.use h.2 h.1
theorem nb_get (hx : p.tables.exec = Jvm.exec) (hb : c.code = cc) (hT : TB s) (hK : va_K z.1 kCl tys s) (hown : s.vm.findClass own = some m.cls) (hW : GW z ad G H) (f : FL own idx ci j C T N) (hk : G kd k = some (.inr (ci, fs))) {v : Value} (hv : fs[j]? = some v) (hdg : decode cc pc = .ok (.getfield idx, 3))
    (kk : W p l e R s m args below meth c H locs cells slots Q (F0 m (pc + 3) ls (v :: rest))) : W p l e R s m args below meth c H locs cells slots Q (F0 m pc ls (.ref (ad kd k) :: rest)) := by
  have hts := fl_ws (args := args) hT f
  obtain ⟨hc, -, hj, hd, hl⟩ := f
  obtain ⟨L, g, hP, hD, hG, hI⟩ := hW
  obtain ⟨ha, hf⟩ := hG _ _ _ hk
  obtain ⟨i, hi⟩ := va_pl_get (X := []) (f := g) ha
  rw [hf] at hi
  rcases hl with hl | ⟨host, hl⟩
  · exact va_get (D := z.1) hx hb hts (fun _ h => h) hown hK hP i hi hc j hj (hT.use hl rfl) (by rw [hd]; exact fun _ h => h) hv hdg kk
  · exact va_getN (D := z.1) (host := host) hx hb hts (fun _ h => h) hown hK hP i hi hc j hj (hT.use hl rfl) (by rw [hd]; exact fun _ h => h) hv hdg kk
theorem nb_put (hx : p.tables.exec = Jvm.exec) (hb : c.code = cc) (hT : TB s) (hK : va_K z.1 kCl tys s) (hown : s.vm.findClass own = some m.cls) (hW : GW z ad G H) (hS : va_S (zA z) H0 H locs) (f : FL own idx ci j C T N) (ty0 : Nat → FieldType) (hty : ∀ k, k < N → parseFieldDescriptor (T k).2.2.1 = some (ty0 k)) (hnm : ∀ a, a < N → ∀ b, b < N → a ≠ b → (T a).2.1 ≠ (T b).2.1) (hk : G kd k = some (.inr (ci, fs)))
    {v : Value} (hfin : (T j).2.2.2 = false) (hn : narrow (ty0 j) v = v) (hfit : fits (ty0 j) v = true) (hl : j < fs.length) (he : up2 G kd k (.inr (ci, fs.set j v)) = G') (hdg : decode cc pc = .ok (.putfield idx, 3))
    (kk : ∀ (H1 : Heap) (locs1 : List Loc), GW z ad G' H1 → va_S (zA z) H0 H1 locs1 → W p l e R s m args below meth c H1 locs1 cells slots Q (F0 m (pc + 3) ls rest)) : W p l e R s m args below meth c H locs cells slots Q (F0 m pc ls (v :: .ref (ad kd k) :: rest)) := by
  subst he
  have hts := fl_ws (args := args) hT f
  obtain ⟨hc, -, hj, hd, hl9⟩ := f
  obtain ⟨L, g, hP, hD, hG, hI⟩ := hW
  obtain ⟨ha, hf⟩ := hG _ _ _ hk
  obtain ⟨i, hi⟩ := va_pl_get (X := []) (f := g) ha
  rcases hl9 with hl9 | ⟨host, hl9⟩
  · exact va_put (D := z.1) (ci := ci) (fs := fs) (ty := ty0 j) hx hb hts (fun _ h => h) ty0 hty hnm hown hK hP hD hS i (by rw [hi, hf]) hc j hj (hT.use hl9 rfl) (by rw [hd]; exact fun _ h => h) hfin (hty j hj) hn hfit hl hdg (fun H1 locs1 hP1 hD1 hS1 => kk H1 locs1 (gw_up hD hG hI hk hi hP1) hS1)
  · exact va_putN (D := z.1) (host := host) (ci := ci) (fs := fs) (ty := ty0 j) hx hb hts (fun _ h => h) ty0 hty hnm hown hK hP hD hS i (by rw [hi, hf]) hc j hj (hT.use hl9 rfl) (by rw [hd]; exact fun _ h => h) hfin (hty j hj) hn hfit hl hdg (fun H1 locs1 hP1 hD1 hS1 => kk H1 locs1 (gw_up hD hG hI hk hi hP1) hS1)
theorem nb_putF (hx : p.tables.exec = Jvm.exec) (hb : c.code = cc) (hT : TB s) (hK : va_K z.1 kCl tys s) (hown : s.vm.findClass C = some m.cls) (hW : GW z ad G H) (hS : va_S (zA z) H0 H locs) (f : FL C idx ci j C T N) (hlk : Cond.fieldLink C idx C (T j).2.1 (T j).2.2.1 ∈ lw_tbl) (ty0 : Nat → FieldType) (hty : ∀ k, k < N → parseFieldDescriptor (T k).2.2.1 = some (ty0 k)) (hnm : ∀ a, a < N → ∀ b, b < N → a ≠ b → (T a).2.1 ≠ (T b).2.1) (hk : G kd k = some (.inr (ci, fs)))
    {v : Value} (hfin : (T j).2.2.2 = true) (hin2 : meth.name = "<init>") (hn : narrow (ty0 j) v = v) (hfit : fits (ty0 j) v = true) (hl : j < fs.length) (he : up2 G kd k (.inr (ci, fs.set j v)) = G') (hdg : decode cc pc = .ok (.putfield idx, 3))
    (kk : ∀ (H1 : Heap) (locs1 : List Loc), GW z ad G' H1 → va_S (zA z) H0 H1 locs1 → W p l e R s m args below meth c H1 locs1 cells slots Q (F0 m (pc + 3) ls rest)) : W p l e R s m args below meth c H locs cells slots Q (F0 m pc ls (v :: .ref (ad kd k) :: rest)) := by
  subst he
  have hts := fl_ws (args := args) hT f
  obtain ⟨hc, -, hj, hd, -⟩ := f
  obtain ⟨L, g, hP, hD, hG, hI⟩ := hW
  obtain ⟨ha, hf⟩ := hG _ _ _ hk
  obtain ⟨i, hi⟩ := va_pl_get (X := []) (f := g) ha
  exact va_putF (D := z.1) (ci := ci) (fs := fs) (ty := ty0 j) hx hb hts (fun _ h => h) ty0 hty hnm hown hK hP hD hS i (by rw [hi, hf]) hc j hj (hT.use hlk rfl) (by rw [hd]; exact fun _ h => h) hfin hin2 hd (hty j hj) hn hfit hl hdg (fun H1 locs1 hP1 hD1 hS1 => kk H1 locs1 (gw_up hD hG hI hk hi hP1) hS1)
theorem nb_iald (hx : p.tables.exec = Jvm.exec) (hb : c.code = cc) (hK : va_K z.1 kCl tys s) (hW : GW z ad G H) (t0 : Nat) {cA : ClassId} {n : Nat} {f : Nat → Int32} (hk : G kd k = some (.inl (cA, n, .inl f))) (ht : tys[t0]? = some (cA, .int)) {i : Int32} (hin : vp_in i n) (hdg : decode cc pc = .ok (.iaload, 1))
    (kk : W p l e R s m args below meth c H locs cells slots Q (F0 m (pc + 1) ls (.int (f i.toNatClampNeg) :: rest))) : W p l e R s m args below meth c H locs cells slots Q (F0 m pc ls (.int i :: .ref (ad kd k) :: rest)) := by
  obtain ⟨L, g, hP, hD, hG, hI⟩ := hW
  obtain ⟨ha, hf⟩ := hG _ _ _ hk
  obtain ⟨i0, hi⟩ := va_pl_get (X := []) (f := g) ha
  exact va_iald (D := z.1) hx hb hK hP i0 t0 (by rw [hi, hf]) ht hin hdg kk
theorem nb_iast (hx : p.tables.exec = Jvm.exec) (hb : c.code = cc) (hK : va_K z.1 kCl tys s) (hW : GW z ad G H) (hS : va_S (zA z) H0 H locs) (t0 : Nat) {cA : ClassId} {n : Nat} {f : Nat → Int32} (hk : G kd k = some (.inl (cA, n, .inl f))) (ht : tys[t0]? = some (cA, .int)) {i x : Int32} (hin : vp_in i n) (he : up2 G kd k (.inl (cA, n, .inl (upd f i.toNatClampNeg x))) = G') (hdg : decode cc pc = .ok (.iastore, 1))
    (kk : ∀ (H1 : Heap) (locs1 : List Loc), GW z ad G' H1 → va_S (zA z) H0 H1 locs1 → W p l e R s m args below meth c H1 locs1 cells slots Q (F0 m (pc + 1) ls rest)) : W p l e R s m args below meth c H locs cells slots Q (F0 m pc ls (.int x :: .int i :: .ref (ad kd k) :: rest)) := by
  subst he
  obtain ⟨L, g, hP, hD, hG, hI⟩ := hW
  obtain ⟨ha, hf⟩ := hG _ _ _ hk
  obtain ⟨i0, hi⟩ := va_pl_get (X := []) (f := g) ha
  exact va_iast (D := z.1) (cA := cA) (n := n) (f := f) hx hb hK hP hD hS i0 t0 (by rw [hi, hf]) ht hin hdg (fun H1 locs1 hP1 hD1 hS1 => kk H1 locs1 (gw_up hD hG hI hk hi hP1) hS1)
theorem nb_aald (hx : p.tables.exec = Jvm.exec) (hb : c.code = cc) (hK : va_K z.1 kCl tys s) (hW : GW z ad G H) (t0 : Nat) {cA : ClassId} {ty : FieldType} {n : Nat} {f : Nat → Option Nat} (hk : G kd k = some (.inl (cA, n, .inr (.inr (.inr (.inr f)))))) (ht : tys[t0]? = some (cA, ty)) (hr : ty.isReference = true) {i : Int32} (hin : vp_in i n) {a : Nat} (hv : f i.toNatClampNeg = some a) (hdg : decode cc pc = .ok (.aaload, 1))
    (kk : W p l e R s m args below meth c H locs cells slots Q (F0 m (pc + 1) ls (.ref a :: rest))) : W p l e R s m args below meth c H locs cells slots Q (F0 m pc ls (.int i :: .ref (ad kd k) :: rest)) := by
  obtain ⟨L, g, hP, hD, hG, hI⟩ := hW
  obtain ⟨ha, hf⟩ := hG _ _ _ hk
  obtain ⟨i0, hi⟩ := va_pl_get (X := []) (f := g) ha
  have hi2 : (([] : va_W) ++ va_pl L g)[i0]? = some (ad kd k, .inl (cA, n, .inr (.inr (.inr (.inr f))))) := by rw [hi, hf]
  have hlt : i.toNatClampNeg < n := Nat.not_le.mp fun q => hin (Or.inr q)
  refine W.aald (v := va_rf (f i.toNatClampNeg)) (ty := ty) hx hb (hP i0 _ hi2) ((hK.2 t0 _ ht).1 n (fun j => va_rf (f j))) hr (fun q => by cases q) (by show ¬ (i < 0 ∨ (arrV _ _ _).slots.size ≤ _); rw [arrV_size]; exact hin) (by show (arrV _ _ _).slots[_]? = _; rw [arrV_read _ _ hlt]) rfl rfl hdg ?_
  rw [hv]
  exact kk
theorem nb_alen (hx : p.tables.exec = Jvm.exec) (hb : c.code = cc) (hK : va_K z.1 kCl tys s) (hW : GW z ad G H) (t0 : Nat) {cA : ClassId} {x : vp_A} (hk : G kd k = some (.inl (cA, x))) {ty : FieldType} (ht : tys[t0]? = some (cA, ty)) {v : Int32} (hv : Int32.ofNat x.1 = v) (hdg : decode cc pc = .ok (.arraylength, 1))
    (kk : W p l e R s m args below meth c H locs cells slots Q (F0 m (pc + 1) ls (.int v :: rest))) : W p l e R s m args below meth c H locs cells slots Q (F0 m pc ls (.ref (ad kd k) :: rest)) := by
  obtain ⟨L, g, hP, hD, hG, hI⟩ := hW
  obtain ⟨ha, hf⟩ := hG _ _ _ hk
  obtain ⟨i0, hi⟩ := va_pl_get (X := []) (f := g) ha
  exact va_alen (D := z.1) hx hb hK hP i0 t0 (by rw [hi, hf]) ht hv hdg kk
end NB
