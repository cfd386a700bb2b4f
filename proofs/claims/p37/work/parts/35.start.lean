/-! 35: what holds at the start -/
theorem uw_in {C : String} {T : u_T} {N : Nat} (h : ((u_ws C T N).all (fun w => tbGood w && decide (w ∈ lw_tbl))) = true) : ∀ w ∈ u_ws C T N, w ∈ lw_tbl := fun w hw => by
  have h := List.all_eq_true.mp h w hw
  simp only [Bool.and_eq_true, decide_eq_true_eq] at h
  exact h.2
def KOK (q : vw_C) : Prop := (∀ w ∈ u_ws q.1 q.2.1 q.2.2, w ∈ lw_tbl) ∧ Cond.instantiable q.1 q.2.2 ∈ lw_tbl
theorem kcl_ok : ∀ q ∈ kCl, KOK q := List.forall_mem_cons.mpr ⟨⟨uw_in uw_X0, List.mem_of_getElem? (i := 61) (by decide +kernel)⟩, List.forall_mem_cons.mpr ⟨⟨uw_in uw_X1, List.mem_of_getElem? (i := 116) (by decide +kernel)⟩, List.forall_mem_cons.mpr ⟨⟨uw_in uw_X2, List.mem_of_getElem? (i := 77) (by decide +kernel)⟩, List.forall_mem_cons.mpr ⟨⟨uw_in uw_X3, List.mem_of_getElem? (i := 148) (by decide +kernel)⟩, List.forall_mem_cons.mpr ⟨⟨uw_in uw_X4, List.mem_of_getElem? (i := 371) (by decide +kernel)⟩, List.forall_mem_cons.mpr ⟨⟨uw_in uw_X5, List.mem_of_getElem? (i := 457) (by decide +kernel)⟩, List.forall_mem_cons.mpr ⟨⟨uw_in uw_X6, List.mem_of_getElem? (i := 93) (by decide +kernel)⟩, List.forall_mem_cons.mpr ⟨⟨uw_in uw_X7, List.mem_of_getElem? (i := 47) (by decide +kernel)⟩, fun _ h => absurd h List.not_mem_nil⟩⟩⟩⟩⟩⟩⟩⟩
abbrev kGv : List Cond := flatC (Jvm.Cond.and given_1 narrow_1)
theorem kstr_t : (kStr.all fun x => decide (Cond.stringRef x.1 x.2.1 x.2.2 ∈ lw_tbl)) = true := by decide +kernel
theorem kstr_x : (kStr.all fun x => decide (Cond.exactly (.string x.1 x.2.1) "java/lang/String" ∈ kGv)) = true := by decide +kernel
section ST0
variable {s : State} {b : Nat} {z : Zt}
theorem st_TB (hts : ∀ w ∈ lw_tbl, w.before #[Value.ref b] s = true) : TB s := fun w hw hg => tb_move (State.WarmedH.refl s) hg (hts w hw)
theorem st_prim {ty : FieldType} (hne : ∀ C, ty ≠ .object C) (h : (Cond.arrayClass ty).before #[Value.ref b] s = true) : ∃ cA, ArrOfT s cA ty ∧ va_RA s cA ty := by
  obtain ⟨c, k, comp, h1, h2, h3⟩ := Cond.arrayClass_spec h
  refine ⟨c, fun n z => ⟨(fun k h => by cases h), k, h2, comp, h3⟩, ?_⟩
  cases ty with
  | object C => exact absurd rfl (hne C)
  | _ => exact h1
theorem st_arr (h : (Cond.arrayOver (.array .int)).before #[Value.ref b] s = true) : ∃ cA, ArrOfT s cA (.array .int) ∧ va_RA s cA (.array .int) := by
  obtain ⟨comp, c, k, h1, h2, h3, h4, h5⟩ := arrayOverA_spec h
  exact ⟨c, fun n z => ⟨(fun k h => by cases h), k, h3, comp, h4⟩, h5⟩
theorem st_obj {C : String} (h : (Cond.arrayOver (.object C)).before #[Value.ref b] s = true) : ∃ cA, ArrOfT s cA (.object C) ∧ va_RA s cA (.object C) := by
  obtain ⟨comp, c, k, h1, h2, h3, h4, h5⟩ := Cond.arrayOver_spec h
  exact ⟨c, fun n z => ⟨(fun k h => by cases h), k, h3, comp, h4⟩, k, comp, h3, h4, h1, h5⟩
theorem st_K (hts : ∀ w ∈ lw_tbl, w.before #[Value.ref b] s = true) : ∃ z : Zt, z.2.1 = s.heap.size ∧ va_K z.1 kCl (ztys z) s := by
  have hkn : ∀ k : Nat, ∃ p : ClassId × (Nat → Nat), ∀ q, kCl[k]? = some q → u_Kn s q.1 q.2.1 q.2.2 p.1 p.2 := by
    intro k
    cases hk : kCl[k]? with
    | none => exact ⟨(0, fun _ => 0), fun q h => by cases h⟩
    | some q =>
      have hq := kcl_ok q (List.mem_of_getElem? hk)
      obtain ⟨c, iS, h⟩ := u_known (C := q.1) (T := q.2.1) (N := q.2.2) (n := q.2.2) hts hq.1 (hts _ hq.2)
      exact ⟨(c, iS), fun q' h' => by cases h'; exact h⟩
  obtain ⟨f, hf⟩ := Classical.axiomOfChoice hkn
  obtain ⟨c0, a0⟩ := st_prim (ty := .int) (fun _ h => nomatch h) (hts _ (List.mem_of_getElem? (i := 75) (by decide +kernel)))
  obtain ⟨c1, a1⟩ := st_arr (s := s) (b := b) (hts _ (List.mem_of_getElem? (i := 83) (by decide +kernel)))
  obtain ⟨c2, a2⟩ := st_obj (C := "Panyard$Pan") (hts _ (List.mem_of_getElem? (i := 55) (by decide +kernel)))
  obtain ⟨c3, a3⟩ := st_obj (C := "Panyard$Phrase") (hts _ (List.mem_of_getElem? (i := 57) (by decide +kernel)))
  obtain ⟨c4, a4⟩ := st_obj (C := "Panyard$Player") (hts _ (List.mem_of_getElem? (i := 59) (by decide +kernel)))
  refine ⟨((fun k => (f k).1, fun k => (f k).2), s.heap.size, fun i => match i with | 0 => c0 | 1 => c1 | 2 => c2 | 3 => c3 | _ => c4), rfl, fun k q h => hf k q h, fun k q h => ?_⟩
  match k, h with
  | 0, h => cases h; exact a0
  | 1, h => cases h; exact a1
  | 2, h => cases h; exact a2
  | 3, h => cases h; exact a3
  | 4, h => cases h; exact a4
  | k + 5, h => simp [ztys] at h
theorem st_zA (hz : z.2.1 = s.heap.size) : ∀ a : Nat, a < s.heap.size → ¬ zA z a := fun a h q => by
  have q2 : z.2.1 ≤ a := q
  omega
theorem st_stat {C n : String} {xs : List Int32} (hz : z.2.1 = s.heap.size) (hl : (Cond.laysStatic C n "[I").before #[Value.ref b] s = true) (hi : (Cond.initialized C).before #[Value.ref b] s = true) (hN : xs.length < 2 ^ 31) (ha : (Cond.arrayOf (.static C n "[I") .int).before #[Value.ref b] s = true) (hn : (Cond.eq (.length (.static C n "[I")) (.int (Int32.ofNat xs.length))).before #[Value.ref b] s = true) (he : ∀ j, j < xs.length → (Cond.eq (.elem (.static C n "[I") (.int (Int32.ofNat j))) (.int (xs.getD j 0))).before #[Value.ref b] s = true) :
    ∃ t : Nat, va_Z C n "[I" (.ref t) (zA z) s s.heap ∧ va_T .int t xs.length (fun j => .int (xs.getD j 0)) (zA z) s s.heap := by
  obtain ⟨t, h1, h2⟩ := va_Tof (tm := .static C n "[I") (ty := .int) (N := xs.length) (f := fun j => .int (xs.getD j 0)) hN ha (va_eqt hn) (fun j hj => va_eqt (he j hj)) (st_zA hz)
  exact ⟨t, va_Zref hl hi h1 (st_zA hz), h2⟩
theorem st_ST (hts : ∀ w ∈ lw_tbl, w.before #[Value.ref b] s = true) (hgv : ∀ w ∈ kGv, w.before #[Value.ref b] s = true) (hz : z.2.1 = s.heap.size) : ST z s := by
  refine ⟨vx_Zqof (hts _ (List.mem_of_getElem? (i := 260) (by decide +kernel))) (hts _ (List.mem_of_getElem? (i := 35) (by decide +kernel))) (hgv _ (by decide +kernel)) (st_zA hz), vx_Zqof (hts _ (List.mem_of_getElem? (i := 262) (by decide +kernel))) (hts _ (List.mem_of_getElem? (i := 35) (by decide +kernel))) (hgv _ (by decide +kernel)) (st_zA hz), fun x hx => ?_, ?_⟩
  · have h1 := of_decide_eq_true (List.all_eq_true.mp kstr_t x hx)
    have h2 := of_decide_eq_true (List.all_eq_true.mp kstr_x x hx)
    obtain ⟨a, c, cell, k, q1, -⟩ := Cond.exactly_spec (hgv _ h2)
    exact ⟨a, vk_R.of (hts _ h1) q1⟩
  · refine List.forall_mem_cons.mpr ⟨?_, List.forall_mem_cons.mpr ⟨?_, fun _ h => absurd h List.not_mem_nil⟩⟩
    · refine st_stat hz (hts _ (List.mem_of_getElem? (i := 835) (by decide +kernel))) (hts _ (List.mem_of_getElem? (i := 29) (by decide +kernel))) (by decide) (hgv _ (by decide +kernel)) (hgv _ (by decide +kernel)) (fun j hj => ?_)
      rcases (show j = 0 ∨ j = 1 ∨ j = 2 by have : j < 3 := hj; omega) with rfl | rfl | rfl
      · exact hgv _ (by decide +kernel)
      · exact hgv _ (by decide +kernel)
      · exact hgv _ (by decide +kernel)
    · refine st_stat hz (hts _ (List.mem_of_getElem? (i := 830) (by decide +kernel))) (hts _ (List.mem_of_getElem? (i := 29) (by decide +kernel))) (by decide) (hgv _ (by decide +kernel)) (hgv _ (by decide +kernel)) (fun j hj => ?_)
      rcases (show j = 0 ∨ j = 1 by have : j < 2 := hj; omega) with rfl | rfl
      · exact hgv _ (by decide +kernel)
      · exact hgv _ (by decide +kernel)
end ST0
