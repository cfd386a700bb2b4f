/-! 27: rows for the law and its wrappers -/
def mW (w : Int32) : St := fun f k i => if f = 90 ∧ k = 0 ∧ i = 0 then w else if f = 12 then 200 else if f = 14 then -1 else 0
abbrev N0 : Nt := fun _ => 0
theorem gc_99 {z : Zt} {ad : Ad} {N : Nt} {X : Gt} {u : St} (k : Nat) : GC z ad N X u 99 k = X 99 k := rfl
theorem FM.c99 {z : Zt} {G G' : Gt} {A : Nat → Nat} {M : St} (h : FM z G A M) (he : ∀ k, G' 99 k = G 99 k) : FM z G' A M :=
  ⟨(he _).trans h.1, fun k hk => (he _).trans (h.2.1 k hk), h.2.2.1.elim fun f hf => ⟨f, (he _).trans hf⟩, (he _).trans h.2.2.2.1, (he _).trans h.2.2.2.2.1, fun i hi => (he _).trans (h.2.2.2.2.2.1 i hi), (he _).trans h.2.2.2.2.2.2⟩
theorem FM.gc {z : Zt} {ad ad' : Ad} {N N' : Nt} {X : Gt} {u u' : St} {A : Nat → Nat} {M : St} (h : FM z (GC z ad N X u) A M) : FM z (GC z ad' N' X u') A M := h.c99 (fun k => (gc_99 k).trans (gc_99 k).symm)
/-- the out array takes a new number -/
theorem FM.out {z : Zt} {G G' : Gt} {A : Nat → Nat} {w r : Int32} (h : FM z G A (mW w)) (hE : Ext G G' (A 13)) (hc : G' 99 (A 13) = some (fmW z r.toInt64)) : FM z G' A (mW r) := by
  have h13 := h.2.2.2.2.2.2
  have n : ∀ {b : Nat} {e : va_E}, G 99 b = some e → e ≠ fmW z (fmO (mW w)) → G' 99 b = some e := fun {b e} hb hn => hE.ne (cell_ne hb h13 hn) hb
  refine ⟨(n h.1 (fun x => nomatch x)).trans rfl, fun k hk => n (h.2.1 k hk) (fun x => nomatch x), h.2.2.1.elim fun f hf => ⟨f, n hf (fun x => ?_)⟩, n h.2.2.2.1 (fun x => ?_), n h.2.2.2.2.1 (fun x => ?_), fun i hi => n (h.2.2.2.2.2.1 i hi) (fun x => ?_), hc⟩
  · have q1 : (4 : Nat) = 1 := congrArg (fun w : va_E => match w with | .inl y => y.2.1 | .inr _ => 0) x
    exact absurd q1 (by decide)
  · have q1 : (3 : Nat) = 1 := congrArg (fun w : va_E => match w with | .inl y => y.2.1 | .inr _ => 0) x
    exact absurd q1 (by decide)
  · have q1 : (3 : Nat) = 1 := congrArg (fun w : va_E => match w with | .inl y => y.2.1 | .inr _ => 0) x
    exact absurd q1 (by decide)
  · have q1 : (2 : Nat) = 1 := congrArg (fun w : va_E => match w with | .inl y => y.2.1 | .inr _ => 0) x
    exact absurd q1 (by decide)
theorem arr_sameL {z : Zt} {ad : Ad} {G : Gt} {H : Heap} {kd k n : Nat} {cA : ClassId} {F F' : Nat → Int64} (h : GW z ad G H) (hk : G kd k = some (.inl (cA, n, .inr (.inl F)))) (hF : ∀ j, j < n → F j = F' j) : GW z ad (up2 G kd k (.inl (cA, n, .inr (.inl F')))) H := by
  obtain ⟨L, f, hP, hD, hG, hI⟩ := h
  obtain ⟨ha, hf⟩ := hG _ _ _ hk
  obtain ⟨i, hi⟩ := va_pl_get (X := []) (f := f) ha
  refine gw_up hD hG hI hk hi (hP.set hD hi ?_ (fun _ _ => rfl))
  have h1 := hP i _ hi
  rw [hf] at h1
  have h2 : H[ad kd k]? = some (vp_cell cA (n, .inr (.inl F))) := h1
  show H[ad kd k]? = some (vp_cell cA (n, .inr (.inl F')))
  rw [h2, vp_cell_l, vp_cell_l]
  unfold arrV
  congr 3
  funext j
  exact congrArg Value.long (hF j.val j.isLt)
/-- a wrapper's own words -/
def MFw (y : MethodName) (cy : ByteArray) (nL : Nat) (hh : List (Nat × Nat × Nat × Nat)) (n : Nat) : Prop := Cond.static y ∈ lw_tbl ∧ Cond.initialized y.cls ∈ lw_tbl ∧ Cond.codeWith y cy nL (some .int) hh ∈ lw_tbl ∧ y.cls ≠ "java/lang/invoke/MethodHandle" ∧ y.cls ≠ "java/lang/invoke/VarHandle" ∧ (parseMethodDescriptor y.desc).map (fun d => d.parameters.length) = some n
abbrev MQw (z : Zt) (A : Nat → Nat) (k : Int32) (w9 : Int32) : Array Value → State → Outcome → State → Prop := va_Qi (S := Ad × Gt) (fun r v => r = k ∧ Raw v.1 ∧ FM z v.2 A (mW w9)) (fun v t => GW z v.1 v.2 t.heap) (zA z)
abbrev MW (l : Launch) (z : Zt) (o : Ot) (y : MethodName) (cy : ByteArray) (nL : Nat) (hh : List (Nat × Nat × Nat × Nat)) (rm : Room) (mc ms : Nat) (As : List Value) (ad : Ad) (G : Gt) (Qc : Array Value → State → Outcome → State → Prop) : Prop :=
  Met l y [Cond.codeWith y cy nL (some .int) hh] rm (va_Pc As (fun U => SW z U ∧ SO z o U ∧ GW z ad G U.heap)) Qc mc ms (zA z)
section LR
variable {p : Program} {l : Launch} {e : Env} {R : Room} {s : State} {m : MethodId} {args : Array Value} {below : List Frame} {meth : Method} {c : Code} {H : Heap} {locs : List Loc} {cells slots : Nat} {Q : State → Prop}
variable {cc : ByteArray} {pc mc ms : Nat} {ls : Array Slot} {rest st0 : List Value} {z : Zt} {o : Ot} {ad : Ad} {G G0 : Gt} {own : String} {idx nL nLy n a b : Nat} {A : Nat → Nat} {H0 : Heap} {tys : List (ClassId × FieldType)}
variable {y : MethodName} {cy : ByteArray} {rm : Room} {As : List Value} {Qc : Array Value → State → Outcome → State → Prop}
theorem nb_last {kd k : Nat} (hx : p.tables.exec = Jvm.exec) (hb : c.code = cc) (hK : va_K z.1 kCl tys s) (hW : GW z ad G H) (hS : va_S (zA z) H0 H locs) (t0 : Nat) {cA : ClassId} {n : Nat} {f : Nat → Int64} (hk : G kd k = some (.inl (cA, n, .inr (.inl f)))) (ht : tys[t0]? = some (cA, .long)) {i : Int32} {x : Int64} (hin : vp_in i n) (hdg : decode cc pc = .ok (.lastore, 1))
    (kk : ∀ (H1 : Heap) (locs1 : List Loc), GW z ad (up2 G kd k (.inl (cA, n, .inr (.inl (vp_updL f i.toNatClampNeg x))))) H1 → va_S (zA z) H0 H1 locs1 → W p l e R s m args below meth c H1 locs1 cells slots Q (F0 m (pc + 1) ls rest)) : W p l e R s m args below meth c H locs cells slots Q (F0 m pc ls (.long x :: .int i :: .ref (ad kd k) :: rest)) := by
  obtain ⟨L, g, hP, hD, hG, hI⟩ := hW
  obtain ⟨ha, hf⟩ := hG _ _ _ hk
  obtain ⟨i0, hi⟩ := va_pl_get (X := []) (f := g) ha
  exact va_last (D := z.1) hx hb hK hP hD hS i0 t0 (by rw [hi, hf]) ht hin hdg (fun H1 locs1 hP1 hD1 hS1 => kk H1 locs1 (gw_up hD hG hI hk hi hP1) hS1)
/-- out[0] = r -/
theorem nb_out {w r : Int32} {x : Int64} (hA : Raw ad) (hx : p.tables.exec = Jvm.exec) (hb : c.code = cc) (hK : va_K z.1 kCl (ztys z) s) (hW : GW z ad G H) (hS : va_S (zA z) H0 H locs) (hF : FM z G A (mW w)) (hxr : x = r.toInt64) (hdg : decode cc pc = .ok (.lastore, 1))
    (kk : ∀ (H1 : Heap) (locs1 : List Loc) (G' : Gt), FM z G' A (mW r) → GW z ad G' H1 → va_S (zA z) H0 H1 locs1 → W p l e R s m args below meth c H1 locs1 cells slots Q (F0 m (pc + 1) ls rest)) : W p l e R s m args below meth c H locs cells slots Q (F0 m pc ls (.long x :: .int 0 :: .ref (A 13) :: rest)) := by
  have h := nb_last (ad := ad) (kd := 99) (k := A 13) (i := 0) (x := x) (rest := rest) hx hb hK hW hS 5 hF.2.2.2.2.2.2 rfl (inb_in (by decide)) hdg (fun H1 locs1 hW1 hS1 => by
    have hW2 := arr_sameL (F' := fun _ => r.toInt64) hW1 up2_self (fun j hj => by
      obtain rfl : j = 0 := by omega
      rw [hxr]; rfl)
    exact kk H1 locs1 _ (hF.out (fun kd k e hn hk => by rw [up2_ne hn, up2_ne hn]; exact hk) up2_self) hW2 hS1)
  rw [hA (A 13)] at h
  exact h
theorem nb_lald {kd k : Nat} (hx : p.tables.exec = Jvm.exec) (hb : c.code = cc) (hK : va_K z.1 kCl tys s) (hW : GW z ad G H) (t0 : Nat) {cA : ClassId} {n : Nat} {f : Nat → Int64} (hk : G kd k = some (.inl (cA, n, .inr (.inl f)))) (ht : tys[t0]? = some (cA, .long)) {i : Int32} (hin : vp_in i n) (hdg : decode cc pc = .ok (.laload, 1))
    (kk : W p l e R s m args below meth c H locs cells slots Q (F0 m (pc + 1) ls (.long (f i.toNatClampNeg) :: rest))) : W p l e R s m args below meth c H locs cells slots Q (F0 m pc ls (.int i :: .ref (ad kd k) :: rest)) := by
  obtain ⟨L, g, hP, hD, hG, hI⟩ := hW
  obtain ⟨ha, hf⟩ := hG _ _ _ hk
  obtain ⟨i0, hi⟩ := va_pl_get (X := []) (f := g) ha
  exact va_lald (D := z.1) hx hb hK hP i0 t0 (by rw [hi, hf]) ht hin hdg kk
theorem nb_outr {t9 : Int32} {w9 : Int64} (hA : Raw ad) (hx : p.tables.exec = Jvm.exec) (hb : c.code = cc) (hK : va_K z.1 kCl (ztys z) s) (hW : GW z ad G H) (hF : FW z G A t9 w9) (hdg : decode cc pc = .ok (.laload, 1))
    (kk : W p l e R s m args below meth c H locs cells slots Q (F0 m (pc + 1) ls (.long w9 :: rest))) : W p l e R s m args below meth c H locs cells slots Q (F0 m pc ls (.int 0 :: .ref (A 13) :: rest)) := by
  have h := nb_lald (ad := ad) (kd := 99) (k := A 13) (i := 0) (rest := rest) hx hb hK hW 5 hF.2 rfl (inb_in (by decide)) hdg kk
  rw [hA (A 13)] at h
  exact h
theorem nb_runW {hh : List (Nat × Nat × Nat × Nat)} (hx : p.tables.exec = Jvm.exec) (hb : c.code = cc) (hml : c.maxLocals = nL) (hown : s.vm.findClass own = some m.cls) (hSW : SW z s) (hSO : SO z o s) (hS : va_S (zA z) s.heap H locs) (hW : GW z ad G H) (hM : MW l z o y cy nLy hh rm mc ms As ad G Qc) (f : MFw y cy nLy hh n) (lk : Cond.methodLink own idx y ∈ lw_tbl)
    (hn : As.length = n) (hrm : rm.cells = mc ∧ rm.slots = ms) (hR : rm.frames + 1 ≤ R.frames ∧ 8 + (nLy + 11) + rm.locals ≤ R.locals) (hsz : ls.size = nL) (hst : (rest.map fun v => v.category).sum ≤ 8) (hdg : decode cc pc = .ok (.invokestatic idx, 3)) (hf : cells + mc ≤ R.cells ∧ slots + ms ≤ R.slots) :
    va_Run p l e R s m args below meth c H locs cells slots mc ms (F0 m pc ls (As.reverse ++ rest)) rest (Qc As.toArray) (zA z) := by
  obtain ⟨hT, hK, -⟩ := id hSW
  obtain ⟨f1, f3, f4, f5, f6, f7⟩ := f
  have hp : PreS s H (va_Pc As (fun U => SW z U ∧ SO z o U ∧ GW z ad G U.heap)) As := ⟨mo_blind, fun U hU hW9 => ⟨rfl, hSW.at hS hU hW9, hSO.at hS hU hW9, by rw [hU]; exact hW⟩⟩
  have hlen : ∀ sig, parseMethodDescriptor y.desc = some sig → n = sig.parameters.length := fun sig h => by
    rw [h] at f7
    exact (Option.some.inj f7).symm
  exact vx_runSW (Ts := []) (n := n) ⟨hx, hb, hml, hown, fun _ h => by cases h⟩ hM ⟨⟨hrm.1, hrm.2, hR.1, hR.2, nb_code hT f4 rfl, List.mem_cons_self⟩, hT.use f4 rfl, hT.use f3 rfl, ⟨f5, f6⟩, hlen, hT.use lk rfl, hT.use f1 rfl⟩ hp rfl hn hsz rfl (lv_room hst) hdg hf
/-- a wrapper that has come to its end with k -/
theorem nb_wret {w9 k : Int32} (hA : Raw ad) (hx : p.tables.exec = Jvm.exec) (hb : c.code = cc) (hr : meth.sig.returnType = some .int) (hlocks : meth.locks = false) (hW : GW z ad G H) (hF : FM z G A (mW w9)) (hS : va_S (zA z) s.heap H locs) (hdg : decode cc pc = .ok (.ireturn, 1)) : W p l e R s m args below meth c H locs cells slots (MQ below (MQw z A k w9) args s cells slots (zA z)) (F0 m pc ls [.int k]) :=
  W.zret hx hb hr rfl (fun t ht _ => ⟨⟨k, (ad, G), rfl, ⟨rfl, hA, hF⟩, by show GW z ad G t.heap; rw [ht]; exact hW⟩, hS.F ht⟩) hS.2.2 hdg hlocks
/-- the reference's thrown() -/
theorem m_thrown9 (l : Launch) (z : Zt) (ad : Ad) (G : Gt) (hA : Raw ad) (A : Nat → Nat) {t9 : Int32} {w9 : Int64} (hF : FW z G A t9 w9) : MC l z yX11_thrown cX11_thrown 1 (some .int) { frames := 0, cells := 0, slots := 0, locals := 0 } 0 0 [.ref (A 0)] ad G (QI z ad G t9) := by
  refine Met.ofW (cc := cX11_thrown) (maxL := 1) (ret := some .int) (by decide) rfl ?_
  intro p e s m args below meth c s₁ B hml hv
  obtain ⟨rfl, hSW, hW⟩ := hv
  have hx := B.exec; have hb := B.bytes; have hr := B.returns; have hlocks := B.notSynchronized
  have hown : s.vm.findClass RX11 = some m.cls := findClass_of_methodNamed B.named
  obtain ⟨hT, hK, hST, hB0⟩ := id hSW
  obtain ⟨⟨fs, h0, h1, -⟩, -⟩ := hF
  have hS : va_S (zA z) s.heap s.heap [] := va_S.rf
  have hl := lv_entry ([.ref (A 0)]) (n := 1) (Nat.le_of_ble_eq_true rfl)
  rw [lg_entry_eq]
  generalize (lg_sl ([.ref (A 0)]) ++ List.replicate (1 - (lg_sl ([.ref (A 0)])).length) Slot.unset).toArray = ls at hl ⊢
  have hl : lv_has ls 1 [(0, .ref (A 0))] := hl
  refine lv_aload_n hx hb dX11_thrown_0 rfl (lv_at hl 0 rfl) ?_
  refine nb_getr hA hx hb hT hK hown hW fl_X11_56 h0 (v := .int t9) h1 dX11_thrown_1 ?_
  exact nb_iret hx hb hr rfl hlocks hW hS dX11_thrown_4
end LR
