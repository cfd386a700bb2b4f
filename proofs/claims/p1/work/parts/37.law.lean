/-! THE CLAIM OUT OF ONE WALK OF THE LAW'S BODY. Your part is whole_start (and what it stands on); all else here is the same for every law, but numbers. -/
def R_law : String := "PanyardLaw"
def lw_P (b : Addr) (xs : List Int32) (args : Array Value) (s : State) : Prop := args = #[.ref b] ∧ s.IntsAt b xs ∧ xs.length ≤ 4 ∧ (Jvm.Cond.and given_1 narrow_1).before args s = true
/-- what a walk over the start with the record d0 says of its end, said of the start itself -/
theorem lw_closed {s t : State} {o : Outcome} {d0 : Drawn} {L : List Loc} {k n : Nat} (hd0 : s.drawn.sameBut d0 lw_cs) (hv : ∃ v, o = .returned v) (hW : (s.setDrawn d0).WarmedH t.vm) (hs : (s.setDrawn d0).sameButNew ({ t with vm := s.vm } : State) L k n) : State.butDraws s t lw_cs (fun t1 => Framed s o t1 L k n) := by
  have h2 : t.drawn = d0 := congrArg State.drawn hs.1
  refine ⟨⟨hv, hW, State.sameButNew.setDrawn hs s.drawn⟩, ?_, by decide⟩
  rw [h2]
  exact hd0
def lw_Q (_ : Array Value) (s : State) (o : Outcome) (t : State) : Prop := o = .returned (some (.int 1)) ∧ State.butDraws s t lw_cs (fun t1 => Framed s o t1 [] room_1.cells room_1.slots)
def lw_Z (below : List Frame) (a : Array Value) (s : State) : State → Prop := fun t => ∃ o, t.status = .running ∧ Ended t below o ∧ lw_Q a s o t
/-- the law's own end, with 1 on the stack, nothing written that was there before, its room as the claim has it; d0: the record of draws at this point (at the entry s.drawn: begin with 'refine W.base ?_' and 'have hd0 := Drawn.sameBut.refl s.drawn lw_cs') -/
theorem lw_ret {p : Program} {l : Launch} {e : Env} {s : State} {m : MethodId} {below : List Frame} {meth : Method} {c : Code} {b : Nat} {d0 : Drawn} (hd0 : s.drawn.sameBut d0 lw_cs) (hx : p.tables.exec = Jvm.exec) (hb : c.code = code) (hr : meth.sig.returnType = ret) (hlocks : meth.locks = false) {pc : Nat} {H : Heap} {ls : Array Slot} (hdg : decode code pc = .ok (.ireturn, 1)) : W p l e room_1 (s.setDrawn d0) m #[Value.ref b] below meth c H [] room_1.cells room_1.slots (lw_Z below #[Value.ref b] s) (F0 m pc ls [.int 1]) := by
  intro T hT X
  obtain ⟨fs, hret, hrun, hended, hW, hframe⟩ := X.leave (v := some (.int 1)) (hlocks := hlocks) (fun h => by rw [hr] at h; cases h)
  have hmeth' : T.vm.method? m = some meth := X.method'
  refine ⟨T.setFrames fs, ?_, .returned (some (.int 1)), hrun, hended, rfl, lw_closed hd0 ⟨_, rfl⟩ hW hframe⟩
  jvm_step X.here [X.here.top, hx, hb, hdg, hmeth', hr, ret, narrow_b1]
  (try refine ⟨rfl, ?_⟩); (try refine ⟨rfl, ?_⟩)
  first | (intro acts; rw [hret _ acts rfl rfl rfl]) | rw [hret _ _ rfl rfl rfl]
  exact Steps.refl _
/-- what holds at the law's entry: the machine, the code, the tables' words (any of lw_tbl by 'hts w (by decide +kernel)'), the script of L ints xs at the cell b, what the Statement gives of the start (any of its parts by flat_of_before) -/
def lw_At (p : Program) (s : State) (m : MethodId) (meth : Method) (c : Code) (b L : Nat) (xs : Nat → Int32) : Prop :=
  p.tables.exec = Jvm.exec ∧ c.code = code ∧ meth.sig.returnType = ret ∧ c.maxLocals = 9 ∧ s.vm.findClass R_law = some m.cls ∧ (∀ w ∈ lw_tbl, w.before #[Value.ref b] s = true) ∧ va_X b L xs s s.heap ∧ b < s.heap.size ∧ meth.locks = false ∧ (Jvm.Cond.and given_1 narrow_1).before #[Value.ref b] s = true

/-! 37: the law -/
theorem nw_L_8 : kCl[7]? = some (RX7, TX7, 16) ∧ ((u_ws RX7 TX7 16).all (fun w => tbGood w && decide (w ∈ lw_tbl))) = true ∧ Cond.classLink RL 8 RX7 ∈ lw_tbl ∧ Cond.instantiable RX7 16 ∈ lw_tbl ∧ Cond.initialized RX7 ∈ lw_tbl := ⟨rfl, uw_X7, List.mem_of_getElem? (i := 92) (by decide +kernel), List.mem_of_getElem? (i := 93) (by decide +kernel), List.mem_of_getElem? (i := 61) (by decide +kernel)⟩
theorem nw_L_114 : kCl[8]? = some (RX11, TX11, 16) ∧ ((u_ws RX11 TX11 16).all (fun w => tbGood w && decide (w ∈ lw_tbl))) = true ∧ Cond.classLink RL 114 RX11 ∈ lw_tbl ∧ Cond.instantiable RX11 16 ∈ lw_tbl ∧ Cond.initialized RX11 ∈ lw_tbl := ⟨rfl, uw_X11, List.mem_of_getElem? (i := 991) (by decide +kernel), List.mem_of_getElem? (i := 992) (by decide +kernel), List.mem_of_getElem? (i := 67) (by decide +kernel)⟩
theorem mfi_X7 : MFi yX7_init cX7_init 1 0 := ⟨List.mem_of_getElem? (i := 95) (by decide +kernel), List.mem_of_getElem? (i := 61) (by decide +kernel), List.mem_of_getElem? (i := 96) (by decide +kernel), by decide +kernel, by decide +kernel, by decide +kernel, rfl⟩
theorem mfi_X11 : MFi yX11_init cX11_init 1 0 := ⟨List.mem_of_getElem? (i := 994) (by decide +kernel), List.mem_of_getElem? (i := 67) (by decide +kernel), List.mem_of_getElem? (i := 995) (by decide +kernel), by decide +kernel, by decide +kernel, by decide +kernel, rfl⟩
theorem lk_L_113 : LK RL 113 yX7_init := Or.inl (List.mem_of_getElem? (i := 94) (by decide +kernel))
theorem lk_L_116 : LK RL 116 yX11_init := Or.inl (List.mem_of_getElem? (i := 993) (by decide +kernel))
theorem wd_arrJ : Cond.arrayClass .long ∈ lw_tbl := List.mem_of_getElem? (i := 1664) (by decide +kernel)
def hiG (G : Gt) : Gt := fun kd k => if 22 ≤ kd then G kd k else none
theorem gc_lo {z : Zt} {ad : Ad} {N : Nt} {X X' : Gt} {u : St} {kd k : Nat} (h : kd < 22) : GC z ad N X u kd k = GC z ad N X' u kd k := by
  rcases (show kd = 0 ∨ kd = 1 ∨ kd = 2 ∨ kd = 3 ∨ kd = 4 ∨ kd = 5 ∨ kd = 6 ∨ kd = 7 ∨ kd = 8 ∨ kd = 9 ∨ kd = 10 ∨ kd = 11 ∨ kd = 12 ∨ kd = 13 ∨ kd = 14 ∨ kd = 15 ∨ kd = 16 ∨ kd = 17 ∨ kd = 18 ∨ kd = 19 ∨ kd = 20 ∨ kd = 21 by omega) with rfl | rfl | rfl | rfl | rfl | rfl | rfl | rfl | rfl | rfl | rfl | rfl | rfl | rfl | rfl | rfl | rfl | rfl | rfl | rfl | rfl | rfl <;> rfl
theorem gc_hi {z : Zt} {ad : Ad} {N : Nt} {X : Gt} {u : St} {kd k : Nat} (h : 22 ≤ kd) : GC z ad N X u kd k = X kd k := by
  unfold GC
  split <;> first | (exfalso; omega) | rfl
theorem gw_hi {z : Zt} {ad : Ad} {N : Nt} {X : Gt} {u : St} {G : Gt} {H : Heap} (hE : Ext0 (GC z ad N X u) G) (hW : GW z ad G H) : GW z ad (GC z ad N (hiG G) u) H := gw_sub hW (fun kd k e hk => by
  rcases Nat.lt_or_ge kd 22 with h | h
  · exact hE _ _ _ ((gc_lo h).symm.trans hk)
  · rw [gc_hi h] at hk
    exact (if_pos h).symm.trans hk)
theorem fm_start {z : Zt} {o : Ot} {G3 G4 : Gt} {b q n0 n1 n2 n3 n4 n5 n6 n7 n8 n9 n10 : Nat} {G2 : Gt} (hJ : JJ G2 G3 b (.inr (8, [.int 0, .ref n0, .ref n1, .ref n2, .ref n3, .ref n4, .ref n5, .ref n6, .ref n7, .int 0, .int 0, .int 0, .int 200, .int 0, .int (-1), .int 0])) [(n0, .inr (9, [.int 0, .ref o.1, .int 0])), (n1, .inr (9, [.int 0, .ref o.1, .int 0])), (n2, .inr (9, [.int 0, .ref o.1, .int 0])), (n3, .inr (9, [.int 0, .ref o.1, .int 0])), (n4, .inr (9, [.int 0, .ref o.1, .int 0])), (n5, .inl (z.2.2 0, 4, .inl (fun _ => 0))), (n6, .inl (z.2.2 0, 3, .inl (fun _ => 0))), (n7, .inl (z.2.2 1, 3, .inr (.inr (.inr (.inr (va_up (va_up (va_up (fun _ => none) 0 (some n8)) 1 (some n9)) 2 (some n10))))))), (n8, .inl (z.2.2 0, 2, .inl (fun _ => -1))), (n9, .inl (z.2.2 0, 2, .inl (fun _ => -1))), (n10, .inl (z.2.2 0, 2, .inl (fun _ => -1)))]) (hE : Ext0 G3 G4) (hq : G4 99 q = some (.inl (z.2.2 5, 1, .inr (.inl (fun _ => 0))))) : ∃ A : Nat → Nat, A 0 = b ∧ A 9 = o.1 ∧ A 13 = q ∧ FM z G4 A (mW 0) := by
  have e90 : fmO (mW 0) = 0 := by decide +kernel
  refine ⟨fun k => match k with | 0 => b | 1 => n0 | 2 => n1 | 3 => n2 | 4 => n3 | 5 => n4 | 6 => n5 | 7 => n6 | 8 => n7 | 9 => o.1 | 10 => n8 | 11 => n9 | 12 => n10 | _ => q, rfl, rfl, rfl, hE _ _ _ hJ.2.1, fun k hk => ?_, ⟨_, hE _ _ _ (hJ.atq 5 rfl)⟩, hE _ _ _ (hJ.atq 6 rfl), ?_, fun i hi => ?_, ?_⟩
  · match k, hk with
    | 0, _ => exact hE _ _ _ (hJ.atq 0 rfl)
    | 1, _ => exact hE _ _ _ (hJ.atq 1 rfl)
    | 2, _ => exact hE _ _ _ (hJ.atq 2 rfl)
    | 3, _ => exact hE _ _ _ (hJ.atq 3 rfl)
    | 4, _ => exact hE _ _ _ (hJ.atq 4 rfl)
  · have h := hE _ _ _ (hJ.atq 7 rfl)
    refine h.trans (congrArg (fun f : Nat → Option Nat => (some (Sum.inl (z.2.2 1, 3, .inr (.inr (.inr (.inr f))))) : Option va_E)) (funext fun i => ?_))
    match i with
    | 0 => rfl
    | 1 => rfl
    | 2 => rfl
    | i + 3 => simp [va_up, fmR]
  · match i, hi with
    | 0, _ => exact hE _ _ _ (hJ.atq 8 rfl)
    | 1, _ => exact hE _ _ _ (hJ.atq 9 rfl)
    | 2, _ => exact hE _ _ _ (hJ.atq 10 rfl)
  · rw [e90]; exact hq
section WS
variable {p : Program} {l : Launch} {e : Env} {s : State} {m : MethodId} {below : List Frame} {meth : Method} {c : Code} {b L : Nat} {xs : Nat → Int32} {z : Zt} {o : Ot} {ad : Ad} {X : Gt} {A : Nat → Nat} {H : Heap} {locs : List Loc} {ls : Array Slot}
/-- with 1 to be returned -/
theorem law_ret (C0 : lw_At p s m meth c b L xs) (hz : z.2.1 = s.heap.size) (hS : va_S (zA z) s.heap H locs) {lv : List (Nat × Value)} (hl : lv_has ls 9 lv) : W p l e room_1 s m #[Value.ref b] below meth c H locs 5000 50000 (lw_Z below #[Value.ref b] s) (F0 m 2313 ls []) := by
  obtain ⟨hx, hb, hr, hml, hown, hts, hX, hbl, hlocks, hgv⟩ := id C0
  refine lv_iconst (v := 1) hx hb dL_law_2313 (by decide) ?_
  refine va_forget (fun q hq => by
    have h2 : z.2.1 ≤ q.base := hS.2.2 q hq
    omega) ?_
  refine W.widen (k := room_1.cells) (n := room_1.slots) (Nat.le_of_ble_eq_true rfl) (Nat.le_of_ble_eq_true rfl) ?_
  refine W.base ?_
  exact lw_ret (Drawn.sameBut.refl s.drawn lw_cs) hx hb hr hlocks dL_law_2314
theorem law_end (C0 : lw_At p s m meth c b 4 xs) (hz : z.2.1 = s.heap.size) (hS : va_S (zA z) s.heap H locs) (hl : lv_has ls 9 [(4, .int 0), (0, .ref b)]) : W p l e room_1 s m #[Value.ref b] below meth c H locs 5000 50000 (lw_Z below #[Value.ref b] s) (F0 m 2307 ls []) := by
  obtain ⟨hx, hb, hr, hml, hown, hts, hX, hbl, hlocks, hgv⟩ := id C0
  have hbA : ¬ zA z b := st_zA hz b hbl
  refine lv_iinc (v := 4) (lv' := [(4, .int 4), (0, .ref b)]) hx hb dL_law_2307 hl (k := 0) rfl (by decide) (by decide) rfl (fun ls hl => ?_)
  refine lv_goto (tgt := 23) hx hb dL_law_2310 (by decide) ?_
  refine lv_iload hx hb dL_law_23 (lv_at hl 0 rfl) ?_
  refine lv_aload_n hx hb dL_law_25 rfl (lv_at hl 1 rfl) ?_
  refine va_slen hx hb hX hbl hbA hS dL_law_26 ?_
  refine lv_iconst (v := 4) hx hb dL_law_27 (by decide) ?_
  refine lv_isub hx hb dL_law_28 ?_
  refine lv_topc (v := 0) (by decide) ?_
  refine lv_icmp_gt (tgt := 2313) hx hb dL_law_29 (by decide) (fun _ => ?_) (fun hc => absurd (by decide) hc)
  exact law_ret C0 hz hS hl
/-- the one call -/
theorem law_one (C0 : lw_At p s m meth c b 4 xs) (hz : z.2.1 = s.heap.size) (h : LX p l e s m meth c b xs z o ad X A) (hW : GW z ad (GC z ad N0 X u00) H) (hS : va_S (zA z) s.heap H locs) (hl : lv_has ls 9 [(4, .int 0), (0, .ref b), (1, .ref (ad 0 0)), (2, .ref (A 0)), (3, .ref (A 13))]) : W p l e room_1 s m #[Value.ref b] below meth c H locs 1000 10000 (lw_Z below #[Value.ref b] s) (F0 m 32 ls []) := by
  obtain ⟨hx, hb, hr, hml, hown, hts, hX, hbl, hlocks, hgv⟩ := id C0
  have hbA : ¬ zA z b := st_zA hz b hbl
  refine lv_aload_n hx hb dL_law_32 rfl (lv_at hl 1 rfl) ?_
  refine lv_iload hx hb dL_law_33 (lv_at hl 0 rfl) ?_
  refine va_sld hx hb hX hbl hbA hS (inb_in (by decide)) dL_law_35 ?_
  refine lv_bipush (v := 63) hx hb dL_law_36 (by decide) ?_
  refine lv_iand hx hb dL_law_38 ?_
  refine lv_topi (fun v ev => ?_)
  by_cases hv : v.toInt < 0 ∨ 33 < v.toInt
  · refine lv_tableOut (tgt := 2307) hx hb dL_law_39 hv (by decide) ?_
    refine W.widen (k := 5000) (n := 50000) (Nat.le_of_ble_eq_true rfl) (Nat.le_of_ble_eq_true rfl) ?_
    exact law_end C0 hz hS (lv_sub hl [0, 1] rfl)
  · rcases (show v.toInt = 0 ∨ v.toInt = 1 ∨ v.toInt = 2 ∨ v.toInt = 3 ∨ v.toInt = 4 ∨ v.toInt = 5 ∨ v.toInt = 6 ∨ v.toInt = 7 ∨ v.toInt = 8 ∨ v.toInt = 9 ∨ v.toInt = 10 ∨ v.toInt = 11 ∨ v.toInt = 12 ∨ v.toInt = 13 ∨ v.toInt = 14 ∨ v.toInt = 15 ∨ v.toInt = 16 ∨ v.toInt = 17 ∨ v.toInt = 18 ∨ v.toInt = 19 ∨ v.toInt = 20 ∨ v.toInt = 21 ∨ v.toInt = 22 ∨ v.toInt = 23 ∨ v.toInt = 24 ∨ v.toInt = 25 ∨ v.toInt = 26 ∨ v.toInt = 27 ∨ v.toInt = 28 ∨ v.toInt = 29 ∨ v.toInt = 30 ∨ v.toInt = 31 ∨ v.toInt = 32 ∨ v.toInt = 33 by omega) with hk | hk | hk | hk | hk | hk | hk | hk | hk | hk | hk | hk | hk | hk | hk | hk | hk | hk | hk | hk | hk | hk | hk | hk | hk | hk | hk | hk | hk | hk | hk | hk | hk | hk
    · exact lv_tableIn (off := 149) (tgt := 188) hx hb dL_law_39 (by rw [hk]; decide) (by rw [hk]; decide) (by rw [hk]; rfl) (by decide) (lc_pan h hW hS hl ag_pan (fun _ _ _ hS1 hl1 => law_end C0 hz hS1 hl1))
    · exact lv_tableIn (off := 205) (tgt := 244) hx hb dL_law_39 (by rw [hk]; decide) (by rw [hk]; decide) (by rw [hk]; rfl) (by decide) (lc_blow h hW hS hl ag_blow (fun _ _ _ hS1 hl1 => law_end C0 hz hS1 hl1))
    · exact lv_tableIn (off := 285) (tgt := 324) hx hb dL_law_39 (by rw [hk]; decide) (by rw [hk]; decide) (by rw [hk]; rfl) (by decide) (lc_burn h hW hS hl ag_burn (fun _ _ _ hS1 hl1 => law_end C0 hz hS1 hl1))
    · exact lv_tableIn (off := 341) (tgt := 380) hx hb dL_law_39 (by rw [hk]; decide) (by rw [hk]; decide) (by rw [hk]; rfl) (by decide) (lc_tuner h hW hS hl ag_tuner (fun _ _ _ hS1 hl1 => law_end C0 hz hS1 hl1))
    · exact lv_tableIn (off := 409) (tgt := 448) hx hb dL_law_39 (by rw [hk]; decide) (by rw [hk]; decide) (by rw [hk]; rfl) (by decide) (lc_cover h hW hS hl ag_cover (fun _ _ _ hS1 hl1 => law_end C0 hz hS1 hl1))
    · exact lv_tableIn (off := 450) (tgt := 489) hx hb dL_law_39 (by rw [hk]; decide) (by rw [hk]; decide) (by rw [hk]; rfl) (by decide) (lc_phrase h hW hS hl ag_phrase (fun _ _ _ hS1 hl1 => law_end C0 hz hS1 hl1))
    · exact lv_tableIn (off := 530) (tgt := 569) hx hb dL_law_39 (by rw [hk]; decide) (by rw [hk]; decide) (by rw [hk]; rfl) (by decide) (lc_change h hW hS hl ag_change (fun _ _ _ hS1 hl1 => law_end C0 hz hS1 hl1))
    · exact lv_tableIn (off := 610) (tgt := 649) hx hb dL_law_39 (by rw [hk]; decide) (by rw [hk]; decide) (by rw [hk]; rfl) (by decide) (lc_put h hW hS hl ag_put (fun _ _ _ hS1 hl1 => law_end C0 hz hS1 hl1))
    · exact lv_tableIn (off := 666) (tgt := 705) hx hb dL_law_39 (by rw [hk]; decide) (by rw [hk]; decide) (by rw [hk]; rfl) (by decide) (lc_cut h hW hS hl ag_cut (fun _ _ _ hS1 hl1 => law_end C0 hz hS1 hl1))
    · exact lv_tableIn (off := 722) (tgt := 761) hx hb dL_law_39 (by rw [hk]; decide) (by rw [hk]; decide) (by rw [hk]; rfl) (by decide) (lc_player h hW hS hl ag_player (fun _ _ _ hS1 hl1 => law_end C0 hz hS1 hl1))
    · exact lv_tableIn (off := 802) (tgt := 841) hx hb dL_law_39 (by rw [hk]; decide) (by rw [hk]; decide) (by rw [hk]; rfl) (by decide) (lc_give h hW hS hl ag_give (fun _ _ _ hS1 hl1 => law_end C0 hz hS1 hl1))
    · exact lv_tableIn (off := 870) (tgt := 909) hx hb dL_law_39 (by rw [hk]; decide) (by rw [hk]; decide) (by rw [hk]; rfl) (by decide) (lc_absent h hW hS hl (fun {q} _ => ag_absent) (fun _ _ _ hS1 hl1 => law_end C0 hz hS1 hl1))
    · exact lv_tableIn (off := 961) (tgt := 1000) hx hb dL_law_39 (by rw [hk]; decide) (by rw [hk]; decide) (by rw [hk]; rfl) (by decide) (lc_teach h hW hS hl ag_teach (fun _ _ _ hS1 hl1 => law_end C0 hz hS1 hl1))
    · exact lv_tableIn (off := 1041) (tgt := 1080) hx hb dL_law_39 (by rw [hk]; decide) (by rw [hk]; decide) (by rw [hk]; rfl) (by decide) (lc_rehearse h hW hS hl ag_rehearse (fun _ _ _ hS1 hl1 => law_end C0 hz hS1 hl1))
    · exact lv_tableIn (off := 1097) (tgt := 1136) hx hb dL_law_39 (by rw [hk]; decide) (by rw [hk]; decide) (by rw [hk]; rfl) (by decide) (lc_pass h hW hS hl ag_pass (fun _ _ _ hS1 hl1 => law_end C0 hz hS1 hl1))
    · exact lv_tableIn (off := 1177) (tgt := 1216) hx hb dL_law_39 (by rw [hk]; decide) (by rw [hk]; decide) (by rw [hk]; rfl) (by decide) (lc_sponsor h hW hS hl ag_sponsor (fun _ _ _ hS1 hl1 => law_end C0 hz hS1 hl1))
    · exact lv_tableIn (off := 1233) (tgt := 1272) hx hb dL_law_39 (by rw [hk]; decide) (by rw [hk]; decide) (by rw [hk]; rfl) (by decide) (lc_rival h hW hS hl ag_rival (fun _ _ _ hS1 hl1 => law_end C0 hz hS1 hl1))
    · exact lv_tableIn (off := 1289) (tgt := 1328) hx hb dL_law_39 (by rw [hk]; decide) (by rw [hk]; decide) (by rw [hk]; rfl) (by decide) (lc_lean h hW hS hl ag_lean (fun _ _ _ hS1 hl1 => law_end C0 hz hS1 hl1))
    · exact lv_tableIn (off := 1357) (tgt := 1396) hx hb dL_law_39 (by rw [hk]; decide) (by rw [hk]; decide) (by rw [hk]; rfl) (by decide) (lc_play h hW hS hl ag_play (fun _ _ _ hS1 hl1 => law_end C0 hz hS1 hl1))
    · exact lv_tableIn (off := 1401) (tgt := 1440) hx hb dL_law_39 (by rw [hk]; decide) (by rw [hk]; decide) (by rw [hk]; rfl) (by decide) (lc_ofPan h hW hS hl ag_ofPan (fun _ _ _ hS1 hl1 => law_end C0 hz hS1 hl1))
    · exact lv_tableIn (off := 1469) (tgt := 1508) hx hb dL_law_39 (by rw [hk]; decide) (by rw [hk]; decide) (by rw [hk]; rfl) (by decide) (lc_off h hW hS hl ag_off (fun _ _ _ hS1 hl1 => law_end C0 hz hS1 hl1))
    · exact lv_tableIn (off := 1537) (tgt := 1576) hx hb dL_law_39 (by rw [hk]; decide) (by rw [hk]; decide) (by rw [hk]; rfl) (by decide) (lc_ofPhrase h hW hS hl ag_ofPhrase (fun _ _ _ hS1 hl1 => law_end C0 hz hS1 hl1))
    · exact lv_tableIn (off := 1605) (tgt := 1644) hx hb dL_law_39 (by rw [hk]; decide) (by rw [hk]; decide) (by rw [hk]; rfl) (by decide) (lc_ofPlayer h hW hS hl ag_ofPlayer (fun _ _ _ hS1 hl1 => law_end C0 hz hS1 hl1))
    · exact lv_tableIn (off := 1673) (tgt := 1712) hx hb dL_law_39 (by rw [hk]; decide) (by rw [hk]; decide) (by rw [hk]; rfl) (by decide) (lc_memory h hW hS hl ag_memory (fun _ _ _ hS1 hl1 => law_end C0 hz hS1 hl1))
    · exact lv_tableIn (off := 1741) (tgt := 1780) hx hb dL_law_39 (by rw [hk]; decide) (by rw [hk]; decide) (by rw [hk]; rfl) (by decide) (lc_ofPlace h hW hS hl ag_ofPlace (fun _ _ _ hS1 hl1 => law_end C0 hz hS1 hl1))
    · exact lv_tableIn (off := 1809) (tgt := 1848) hx hb dL_law_39 (by rw [hk]; decide) (by rw [hk]; decide) (by rw [hk]; rfl) (by decide) (lc_mark h hW hS hl ag_mark (fun _ _ _ hS1 hl1 => law_end C0 hz hS1 hl1))
    · exact lv_tableIn (off := 1865) (tgt := 1904) hx hb dL_law_39 (by rw [hk]; decide) (by rw [hk]; decide) (by rw [hk]; rfl) (by decide) (lc_ofRound h hW hS hl ag_ofRound (fun _ _ _ hS1 hl1 => law_end C0 hz hS1 hl1))
    · exact lv_tableIn (off := 1933) (tgt := 1972) hx hb dL_law_39 (by rw [hk]; decide) (by rw [hk]; decide) (by rw [hk]; rfl) (by decide) (lc_many h hW hS hl ag_many (fun _ _ _ hS1 hl1 => law_end C0 hz hS1 hl1))
    · exact lv_tableIn (off := 1989) (tgt := 2028) hx hb dL_law_39 (by rw [hk]; decide) (by rw [hk]; decide) (by rw [hk]; rfl) (by decide) (lc_meanMemory h hW hS hl ag_meanMemory mean_0 (fun _ _ _ hS1 hl1 => law_end C0 hz hS1 hl1))
    · exact lv_tableIn (off := 2030) (tgt := 2069) hx hb dL_law_39 (by rw [hk]; decide) (by rw [hk]; decide) (by rw [hk]; rfl) (by decide) (lc_wouldTotal h hW hS hl ag_wouldTotal (fun _ _ _ hS1 hl1 => law_end C0 hz hS1 hl1))
    · exact lv_tableIn (off := 2086) (tgt := 2125) hx hb dL_law_39 (by rw [hk]; decide) (by rw [hk]; decide) (by rw [hk]; rfl) (by decide) (lc_bestOrder h hW hS hl ag_bestOrder (fun _ _ _ hS1 hl1 => law_end C0 hz hS1 hl1))
    · exact lv_tableIn (off := 2130) (tgt := 2169) hx hb dL_law_39 (by rw [hk]; decide) (by rw [hk]; decide) (by rw [hk]; rfl) (by decide) (lc_bestTeach h hW hS hl ag_bestTeach (fun _ _ _ hS1 hl1 => law_end C0 hz hS1 hl1))
    · exact lv_tableIn (off := 2198) (tgt := 2237) hx hb dL_law_39 (by rw [hk]; decide) (by rw [hk]; decide) (by rw [hk]; rfl) (by decide) (lc_blowsFor h hW hS hl ag_blowsFor (fun _ _ _ hS1 hl1 => law_end C0 hz hS1 hl1))
    · exact lv_tableIn (off := 2254) (tgt := 2293) hx hb dL_law_39 (by rw [hk]; decide) (by rw [hk]; decide) (by rw [hk]; rfl) (by decide) (lc_digest h hW hS hl ag_digest (fun _ _ _ hS1 hl1 => law_end C0 hz hS1 hl1))
end WS
