/-! 33: the law's cell -/
def lcell (L : Nat) (xs : Nat → Int32) (k : Int32) : Int32 := if Int32.ofNat L ≤ k then 790386105 * (k + 3) else xs (ix k)
theorem cell_in {L : Nat} {k : Int32} (hL : L ≤ 260) (h0 : ¬ k < 0) (h : ¬ Int32.ofNat L ≤ k) : vp_in k L := by
  have e : (Int32.ofNat L).toInt = (L : Int) := Int32.toInt_ofNat_of_lt (by omega)
  rw [Int32.le_iff_toInt_le, e] at h
  rw [Int32.lt_iff_toInt_lt] at h0
  have e0 : (0 : Int32).toInt = 0 := rfl
  exact vp_in_iff.mpr ⟨by omega, by omega⟩
def PX (z : Zt) (b L : Nat) (xs : Nat → Int32) (U : State) : Prop := va_X b L xs U U.heap ∧ b < U.heap.size ∧ ¬ zA z b ∧ L ≤ 260
theorem c_L_cell (l : Launch) (z : Zt) (ad : Ad) (G : Gt) (b L : Nat) (xs : Nat → Int32) (k : Int32) (h0 : ¬ k < 0) : Met l yL_cell [Cond.code yL_cell cL_cell 2 (some .int)] { frames := 0, cells := 0, slots := 0, locals := 0 } (va_Pc [.ref b, .int k] (fun U => SW z U ∧ PX z b L xs U ∧ GW z ad G U.heap)) (QI z ad G (lcell L xs k)) 0 0 (zA z) := by
  refine Met.ofW (cc := cL_cell) (maxL := 2) (ret := some .int) (by decide) rfl ?_
  intro p e s m args below meth c s₁ B hml hv
  obtain ⟨rfl, hSW, ⟨hX, hbl, hbA, hL⟩, hW⟩ := hv
  have hx := B.exec; have hb := B.bytes; have hr := B.returns; have hlocks := B.notSynchronized
  have hown : s.vm.findClass RL = some m.cls := findClass_of_methodNamed B.named
  obtain ⟨hT, hK, hST, hB0⟩ := id hSW
  have hS : va_S (zA z) s.heap s.heap [] := va_S.rf
  have hl := lv_entry ([.ref b, .int k]) (n := 2) (Nat.le_of_ble_eq_true rfl)
  rw [lg_entry_eq]
  generalize (lg_sl ([.ref b, .int k]) ++ List.replicate (2 - (lg_sl ([.ref b, .int k])).length) Slot.unset).toArray = ls at hl ⊢
  have hl : lv_has ls 2 [(0, .ref b), (1, .int k)] := hl
  refine lv_iload_n hx hb dL_cell_0 rfl (lv_at hl 1 rfl) ?_
  refine lv_aload_n hx hb dL_cell_1 rfl (lv_at hl 0 rfl) ?_
  refine va_slen hx hb hX hbl hbA hS dL_cell_2 ?_
  refine lv_icmp_ge (tgt := 12) hx hb dL_cell_3 (by decide) (fun hc => ?_) (fun hc => ?_)
  · refine lv_ldc (v := 790386105) hx hb hown (hT.use (List.mem_of_getElem? (i := 777) (by decide +kernel)) rfl) dL_cell_12 ?_
    refine lv_iload_n hx hb dL_cell_14 rfl (lv_at hl 1 rfl) ?_
    refine lv_iconst (v := 3) hx hb dL_cell_15 (by decide) ?_
    refine lv_iadd hx hb dL_cell_16 ?_
    refine lv_imul hx hb dL_cell_17 ?_
    have e9 : lcell L xs k = 790386105 * (k + 3) := if_pos hc
    rw [e9]
    exact nb_iret hx hb hr rfl hlocks hW hS dL_cell_18
  · refine lv_aload_n hx hb dL_cell_6 rfl (lv_at hl 0 rfl) ?_
    refine lv_iload_n hx hb dL_cell_7 rfl (lv_at hl 1 rfl) ?_
    refine va_sld hx hb hX hbl hbA hS (cell_in hL h0 hc) dL_cell_8 ?_
    refine lv_goto (tgt := 18) hx hb dL_cell_9 (by decide) ?_
    have e9 : lcell L xs k = xs (ix k) := if_neg hc
    rw [e9]
    exact nb_iret hx hb hr rfl hlocks hW hS dL_cell_18
theorem cell_blind {z : Zt} {b L : Nat} {xs : Nat → Int32} {ad : Ad} {G : Gt} {As : List Value} : FrameBlind (va_Pc As (fun U => SW z U ∧ PX z b L xs U ∧ GW z ad G U.heap)) := fun a U g mk h => ⟨h.1, h.2.1.blind, ⟨h.2.2.1.1.moved (State.WarmedH.refl U).alike, h.2.2.1.2⟩, h.2.2.2⟩
section CELL
variable {p : Program} {l : Launch} {e : Env} {R : Room} {s : State} {m : MethodId} {args : Array Value} {below : List Frame} {meth : Method} {c : Code} {H : Heap} {locs : List Loc} {cells slots : Nat} {Q : State → Prop}
variable {cc : ByteArray} {pc : Nat} {ls : Array Slot} {rest : List Value} {z : Zt} {ad : Ad} {G : Gt} {idx nL b L : Nat} {xs : Nat → Int32} {k : Int32}
theorem nb_cell (hx : p.tables.exec = Jvm.exec) (hb : c.code = cc) (hml : c.maxLocals = nL) (hown : s.vm.findClass RL = some m.cls) (hSW : SW z s) (hS : va_S (zA z) s.heap H locs) (hW : GW z ad G H) (hX : va_X b L xs s s.heap) (hbl : b < s.heap.size) (hbA : ¬ zA z b) (hL : L ≤ 260) (h0 : ¬ k < 0) (lk : Cond.methodLink RL idx yL_cell ∈ lw_tbl)
    (hR : 1 ≤ R.frames ∧ 21 ≤ R.locals) (hsz : ls.size = nL) (hst : (rest.map fun v => v.category).sum ≤ 8) (hdg : decode cc pc = .ok (.invokestatic idx, 3)) (hf : cells + 0 ≤ R.cells ∧ slots + 0 ≤ R.slots)
    (kk : ∀ (H1 : Heap) (locs1 : List Loc), GW z ad G H1 → va_S (zA z) s.heap H1 locs1 → W p l e R s m args below meth c H1 locs1 cells slots Q (F0 m (pc + 3) ls (.int (lcell L xs k) :: rest))) : W p l e R s m args below meth c H locs cells slots Q (F0 m pc ls (.int k :: .ref b :: rest)) := by
  obtain ⟨hT, hK, -⟩ := id hSW
  have hp : PreS s H (va_Pc [.ref b, .int k] (fun U => SW z U ∧ PX z b L xs U ∧ GW z ad G U.heap)) [.ref b, .int k] := ⟨cell_blind, fun U hU hW9 => ⟨rfl, hSW.at hS hU hW9, ⟨by rw [hU]; exact (hX.kept (hS.2.1 b hbl hbA)).moved hW9.alike, by rw [hU]; exact Nat.lt_of_lt_of_le hbl hS.1, hbA, hL⟩, by rw [hU]; exact hW⟩⟩
  have f4 : Cond.code yL_cell cL_cell 2 (some .int) ∈ lw_tbl := List.mem_of_getElem? (i := 776) (by decide +kernel)
  have hlen : ∀ sig, parseMethodDescriptor yL_cell.desc = some sig → 2 = sig.parameters.length := fun sig h => by
    have f7 : (parseMethodDescriptor yL_cell.desc).map (fun d => d.parameters.length) = some 2 := by decide +kernel
    rw [h] at f7
    exact (Option.some.inj f7).symm
  refine nb_ci (va_runS (Ts := []) (n := 2) (As := [.ref b, .int k]) (rest := rest) ⟨hx, hb, hml, hown, fun _ h => by cases h⟩ (c_L_cell l z ad G b L xs k h0) ⟨⟨rfl, rfl, hR.1, hR.2, nb_code hT f4 rfl, List.mem_cons_self, hT.use f4 rfl, hT.use (List.mem_of_getElem? (i := 28) (by decide +kernel)) rfl, ⟨by decide +kernel, by decide +kernel⟩, hlen, hT.use lk rfl⟩, hT.use (List.mem_of_getElem? (i := 775) (by decide +kernel)) rfl⟩ hp rfl rfl hsz rfl (lv_room hst) hdg hf) hS kk
end CELL
