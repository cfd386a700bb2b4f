/-! 22: the reference on its fresh object: the cells stand at addresses A 0 .. A 12; its numbers M -/
def fmF (A : Nat → Nat) (M : St) : List Value := [.int (M 0 0 0), .ref (A 1), .ref (A 2), .ref (A 3), .ref (A 4), .ref (A 5), .ref (A 6), .ref (A 7), .ref (A 8), .int (M 9 0 0), .int (M 10 0 0), .int (M 11 0 0), .int (M 12 0 0), .int (M 13 0 0), .int (M 14 0 0), .int (M 15 0 0)]
def fmL (A : Nat → Nat) : va_E := .inr (9, [.int 0, .ref (A 9), .int 0])
def fmR (A : Nat → Nat) : Nat → Option Nat := fun i => if i < 3 then some (A (10 + i)) else none
def fmO (M : St) : Int64 := (M 90 0 0).toInt64
def fmW (z : Zt) (w : Int64) : va_E := .inl (z.2.2 5, 1, .inr (.inl (fun _ => w)))
def FM (z : Zt) (G : Gt) (A : Nat → Nat) (M : St) : Prop :=
  G 99 (A 0) = some (.inr (8, fmF A M)) ∧ (∀ k, k < 5 → G 99 (A (k + 1)) = some (fmL A)) ∧ (∃ f, G 99 (A 6) = some (.inl (z.2.2 0, 4, .inl f))) ∧ G 99 (A 7) = some (.inl (z.2.2 0, 3, .inl (fun _ => 0))) ∧
  G 99 (A 8) = some (.inl (z.2.2 1, 3, .inr (.inr (.inr (.inr (fmR A)))))) ∧ (∀ i, i < 3 → G 99 (A (10 + i)) = some (.inl (z.2.2 0, 2, .inl (fun _ => -1)))) ∧ G 99 (A 13) = some (fmW z (fmO M))
theorem FM.ext0 {z : Zt} {G G' : Gt} {A : Nat → Nat} {M : St} (h : FM z G A M) (hE : Ext0 G G') : FM z G' A M :=
  ⟨hE _ _ _ h.1, fun k hk => hE _ _ _ (h.2.1 k hk), h.2.2.1.elim fun f hf => ⟨f, hE _ _ _ hf⟩, hE _ _ _ h.2.2.2.1, hE _ _ _ h.2.2.2.2.1, fun i hi => hE _ _ _ (h.2.2.2.2.2.1 i hi), hE _ _ _ h.2.2.2.2.2.2⟩
theorem cell_ne {G : Gt} {a b : Nat} {e1 e2 : va_E} (h1 : G 99 a = some e1) (h2 : G 99 b = some e2) (h : e1 ≠ e2) : a ≠ b := fun e => by
  subst e; rw [h1] at h2; exact h (Option.some.inj h2)
theorem FM.put {z : Zt} {G G' : Gt} {A : Nat → Nat} {M M' : St} (h : FM z G A M) (hE : Ext G G' (A 0)) {fs : List Value} (hc : G' 99 (A 0) = some (.inr (8, fs))) (he : fs = fmF A M') (hw : fmO M' = fmO M) : FM z G' A M' := by
  subst he
  have n : ∀ {b : Nat} {e : va_E}, G 99 b = some e → (∀ x, e ≠ .inr (8, x)) → G' 99 b = some e := fun {b e} hb hn => hE _ _ _ (fun q => cell_ne hb h.1 (hn _) q.2) hb
  refine ⟨hc, fun k hk => n (h.2.1 k hk) (fun x q => ?_), h.2.2.1.elim fun f hf => ⟨f, n hf (fun x q => nomatch q)⟩, n h.2.2.2.1 (fun x q => nomatch q), n h.2.2.2.2.1 (fun x q => nomatch q), fun i hi => n (h.2.2.2.2.2.1 i hi) (fun x q => nomatch q), by rw [hw]; exact n h.2.2.2.2.2.2 (fun x q => nomatch q)⟩
  have q1 : (9 : Nat) = 8 := congrArg (fun w : va_E => match w with | .inr y => y.1 | .inl _ => 0) q
  exact absurd q1 (by decide)
theorem FM.teach {z : Zt} {G G' : Gt} {A : Nat → Nat} {M : St} (h : FM z G A M) (hE : Ext G G' (A 6)) {f : Nat → Int32} (hc : G' 99 (A 6) = some (.inl (z.2.2 0, 4, .inl f))) : FM z G' A M := by
  obtain ⟨f0, h6⟩ := h.2.2.1
  have n : ∀ {b : Nat} {e : va_E}, G 99 b = some e → (∀ x, e ≠ .inl (z.2.2 0, 4, .inl x)) → G' 99 b = some e := fun {b e} hb hn => hE _ _ _ (fun q => cell_ne hb h6 (hn _) q.2) hb
  refine ⟨n h.1 (fun x q => nomatch q), fun k hk => n (h.2.1 k hk) (fun x q => nomatch q), ⟨f, hc⟩, n h.2.2.2.1 (fun x q => ?_), n h.2.2.2.2.1 (fun x q => ?_), fun i hi => n (h.2.2.2.2.2.1 i hi) (fun x q => ?_), n h.2.2.2.2.2.2 (fun x q => ?_)⟩
  · have q1 : (3 : Nat) = 4 := congrArg (fun w : va_E => match w with | .inl y => y.2.1 | .inr _ => 0) q
    exact absurd q1 (by decide)
  · have q1 : (3 : Nat) = 4 := congrArg (fun w : va_E => match w with | .inl y => y.2.1 | .inr _ => 0) q
    exact absurd q1 (by decide)
  · have q1 : (2 : Nat) = 4 := congrArg (fun w : va_E => match w with | .inl y => y.2.1 | .inr _ => 0) q
    exact absurd q1 (by decide)
  · have q1 : (1 : Nat) = 4 := congrArg (fun w : va_E => match w with | .inl y => y.2.1 | .inr _ => 0) q
    exact absurd q1 (by decide)
def FW (z : Zt) (G : Gt) (A : Nat → Nat) (t9 : Int32) (w9 : Int64) : Prop := (∃ fs, G 99 (A 0) = some (.inr (8, fs)) ∧ fs[0]? = some (.int t9) ∧ fs.length = 16) ∧ G 99 (A 13) = some (fmW z w9)
theorem FM.w {z : Zt} {G : Gt} {A : Nat → Nat} {M : St} {w : Int64} (h : FM z G A M) (hw : fmO M = w) : FW z G A (M 0 0 0) w := ⟨⟨_, h.1, rfl, rfl⟩, by rw [← hw]; exact h.2.2.2.2.2.2⟩
theorem Ext0.re {G : Gt} : Ext0 G G := fun _ _ _ h => h
theorem Ext.re {G : Gt} {a : Nat} : Ext G G a := fun _ _ _ _ h => h
def ob {α β : Type} (a : Option α) (f : α → Option β) : Option β := match a with | none => none | some x => f x
theorem ob_s {α β : Type} {a : Option α} {f : α → Option β} {r : β} (h : ob a f = some r) : ∃ x, a = some x ∧ f x = some r := by
  cases a with
  | none => cases h
  | some x => exact ⟨x, rfl, h⟩
def ob2 {α β γ : Type} (a : Option (α × β)) (f : α → β → Option γ) : Option γ := match a with | none => none | some x => f x.1 x.2
theorem ob2_s {α β γ : Type} {a : Option (α × β)} {f : α → β → Option γ} {r : γ} (h : ob2 a f = some r) : ∃ x y, a = some (x, y) ∧ f x y = some r := by
  cases a with
  | none => cases h
  | some x => exact ⟨x.1, x.2, rfl, h⟩
abbrev PQi (z : Zt) (ad : Ad) (G : Gt) (r9 : Int32) : Array Value → State → Outcome → State → Prop := va_Qi (S := Gt) (fun r u => r = r9 ∧ Ext0 G u) (fun u t => GW z ad u t.heap) (zA z)
abbrev PQv (z : Zt) (ad : Ad) (G : Gt) : Array Value → State → Outcome → State → Prop := va_Qv (S := Gt) (fun u => Ext0 G u) (fun u t => GW z ad u t.heap) (zA z)
abbrev PQr (z : Zt) (ad : Ad) (G : Gt) (ce : va_E) : Array Value → State → Outcome → State → Prop := va_Qr (S := Gt) (fun u => Ext0 G u) (fun u a t => GW z ad u t.heap ∧ u 99 a = some ce) (zA z)
abbrev PSi (z : Zt) (ad : Ad) (G : Gt) (A : Nat → Nat) (r9 : Int32) (M9 : St) (w9 : Int64) : Array Value → State → Outcome → State → Prop := va_Qi (S := Gt) (fun r u => r = r9 ∧ FM z u A M9 ∧ fmO M9 = w9) (fun u t => GW z ad u t.heap) (zA z)
abbrev PWi (z : Zt) (ad : Ad) (A : Nat → Nat) (r9 : Int32) (t9 : Int32) (w9 : Int64) : Array Value → State → Outcome → State → Prop := va_Qi (S := Gt) (fun r u => r = r9 ∧ FW z u A t9 w9) (fun u t => GW z ad u t.heap) (zA z)
abbrev PWl (z : Zt) (ad : Ad) (A : Nat → Nat) (r9 : Int64) (t9 : Int32) (w9 : Int64) : Array Value → State → Outcome → State → Prop := va_Ql (S := Gt) (fun r u => r = r9 ∧ FW z u A t9 w9) (fun u t => GW z ad u t.heap) (zA z)
abbrev PWd (z : Zt) (ad : Ad) (A : Nat → Nat) (r9 : UInt64) (t9 : Int32) (w9 : Int64) : Array Value → State → Outcome → State → Prop := va_Qd (S := Gt) (fun r u => r = r9 ∧ FW z u A t9 w9) (fun u t => GW z ad u t.heap) (zA z)
section FR
variable {p : Program} {l : Launch} {e : Env} {R : Room} {s : State} {m : MethodId} {args : Array Value} {below : List Frame} {meth : Method} {c : Code} {H : Heap} {locs : List Loc} {cells slots : Nat} {Q : State → Prop}
variable {cc : ByteArray} {pc mc ms : Nat} {ls : Array Slot} {rest st0 : List Value} {z : Zt} {ad : Ad} {G G0 : Gt} {own : String} {idx nL nLy n a : Nat} {y : MethodName} {cy : ByteArray} {ret : Option FieldType} {rm : Room} {As : List Value} {Qc : Array Value → State → Outcome → State → Prop} {av : Array Value} {A : Nat → Nat} {M M9 : St}
theorem lv_topc {x v : Int32} (h : x = v) (k : W p l e R s m args below meth c H locs cells slots Q (F0 m pc ls (.int v :: rest))) : W p l e R s m args below meth c H locs cells slots Q (F0 m pc ls (.int x :: rest)) := by rw [h]; exact k
theorem nb_runVr (hA : Raw ad) (hx : p.tables.exec = Jvm.exec) (hb : c.code = cc) (hml : c.maxLocals = nL) (hown : s.vm.findClass own = some m.cls) (hSW : SW z s) (hS : va_S (zA z) s.heap H locs) (hW : GW z ad G H) (hM : MC l z y cy nLy ret rm mc ms (.ref a :: As) ad G Qc) (f : MFv y cy nLy ret n) (lk : LK own idx y) {ci : Nat} {fs : List Value} {T : u_T} {N : Nat} (hk : G 99 a = some (.inr (ci, fs))) (hc : kCl[ci]? = some (y.cls, T, N))
    (hn : As.length = n) (hrm : rm.cells = mc ∧ rm.slots = ms) (hR : rm.frames + 1 ≤ R.frames ∧ 8 + (nLy + 11) + rm.locals ≤ R.locals) (hsz : ls.size = nL) (hst : (rest.map fun v => v.category).sum ≤ 8) (hdg : decode cc pc = .ok (.invokevirtual idx, 3)) (hf : cells + mc ≤ R.cells ∧ slots + ms ≤ R.slots) :
    va_Run p l e R s m args below meth c H locs cells slots mc ms (F0 m pc ls (As.reverse ++ .ref a :: rest)) rest (Qc (.ref a :: As).toArray) (zA z) := by
  have h := nb_runV (e := e) (args := args) (meth := meth) (below := below) (kd := 99) (k := a) (ad := ad) (As := As) (rest := rest) (cells := cells) (slots := slots) hx hb hml hown hSW hS hW (by rw [hA a]; exact hM) f lk hk hc hn hrm hR hsz hst hdg hf
  rw [hA a] at h
  exact h
theorem fm_ci {r9 : Int32} (hr : va_Run p l e R s m args below meth c H locs cells slots mc ms (F0 m pc ls st0) rest (PQi z ad G r9 av) (zA z)) (hS : va_S (zA z) s.heap H locs)
    (kk : ∀ (H1 : Heap) (locs1 : List Loc) (G1 : Gt), Ext0 G G1 → GW z ad G1 H1 → va_S (zA z) s.heap H1 locs1 → W p l e R s m args below meth c H1 locs1 (cells + mc) (slots + ms) Q (F0 m (pc + 3) ls (.int r9 :: rest))) : W p l e R s m args below meth c H locs cells slots Q (F0 m pc ls st0) :=
  va_calli hr hS (fun _ _ h => h) (fun _ h => h) (fun r u t H1 locs1 ht _ hp hW _ _ hS1 => by
    obtain ⟨rfl, hE⟩ := hp
    subst ht
    exact kk _ _ u hE hW hS1)
theorem fm_cs {r9 : Int32} {w9 : Int64} (hr : va_Run p l e R s m args below meth c H locs cells slots mc ms (F0 m pc ls st0) rest (PSi z ad G A r9 M9 w9 av) (zA z)) (hS : va_S (zA z) s.heap H locs)
    (kk : ∀ (H1 : Heap) (locs1 : List Loc) (G1 : Gt), FM z G1 A M9 → fmO M9 = w9 → GW z ad G1 H1 → va_S (zA z) s.heap H1 locs1 → W p l e R s m args below meth c H1 locs1 (cells + mc) (slots + ms) Q (F0 m (pc + 3) ls (.int r9 :: rest))) : W p l e R s m args below meth c H locs cells slots Q (F0 m pc ls st0) :=
  va_calli hr hS (fun _ _ h => h) (fun _ h => h) (fun r u t H1 locs1 ht _ hp hW _ _ hS1 => by
    obtain ⟨rfl, hE, hw9⟩ := hp
    subst ht
    exact kk _ _ u hE hw9 hW hS1)
theorem fm_cv (hr : va_Run p l e R s m args below meth c H locs cells slots mc ms (F0 m pc ls st0) rest (PQv z ad G av) (zA z)) (hS : va_S (zA z) s.heap H locs)
    (kk : ∀ (H1 : Heap) (locs1 : List Loc) (G1 : Gt), Ext0 G G1 → GW z ad G1 H1 → va_S (zA z) s.heap H1 locs1 → W p l e R s m args below meth c H1 locs1 (cells + mc) (slots + ms) Q (F0 m (pc + 3) ls rest)) : W p l e R s m args below meth c H locs cells slots Q (F0 m pc ls st0) :=
  va_callv hr hS (fun _ _ h => h) (fun _ h => h) (fun u t H1 locs1 ht _ hE hW _ _ hS1 => by
    subst ht
    exact kk _ _ u hE hW hS1)
theorem fm_cr {ce : va_E} (hr : va_Run p l e R s m args below meth c H locs cells slots mc ms (F0 m pc ls st0) rest (PQr z ad G ce av) (zA z)) (hS : va_S (zA z) s.heap H locs)
    (kk : ∀ (H1 : Heap) (locs1 : List Loc) (G1 : Gt) (q : Nat), Ext0 G G1 → G1 99 q = some ce → GW z ad G1 H1 → va_S (zA z) s.heap H1 locs1 → W p l e R s m args below meth c H1 locs1 (cells + mc) (slots + ms) Q (F0 m (pc + 3) ls (.ref q :: rest))) : W p l e R s m args below meth c H locs cells slots Q (F0 m pc ls st0) :=
  va_callr hr hS (fun _ _ h => h) (fun _ h => h) (fun u ra t H1 locs1 ht _ hE hW _ _ hS1 => by
    subst ht
    exact kk _ _ u ra hE hW.2 hW.1 hS1)
theorem fm_iq {v r9 : Int32} (hx : p.tables.exec = Jvm.exec) (hb : c.code = cc) {ty : FieldType} (hr : meth.sig.returnType = some ty) (hn : narrow ty (.int v) = .int v) (hlocks : meth.locks = false) (hW : GW z ad G H) (hE : Ext0 G0 G) (hS : va_S (zA z) s.heap H locs) (hdg : decode cc pc = .ok (.ireturn, 1)) (h : some v = some r9) : W p l e R s m args below meth c H locs cells slots (MQ below (PQi z ad G0 r9) args s cells slots (zA z)) (F0 m pc ls [.int v]) := by
  cases h
  exact W.zret hx hb hr hn (fun t ht _ => ⟨⟨v, G, rfl, ⟨rfl, hE⟩, by show GW z ad G t.heap; rw [ht]; exact hW⟩, hS.F ht⟩) hS.2.2 hdg hlocks
theorem fm_is {v r9 : Int32} {w9 : Int64} (hx : p.tables.exec = Jvm.exec) (hb : c.code = cc) {ty : FieldType} (hr : meth.sig.returnType = some ty) (hn : narrow ty (.int v) = .int v) (hlocks : meth.locks = false) (hW : GW z ad G H) (hF : FM z G A M) (hw : fmO M = w9) (hS : va_S (zA z) s.heap H locs) (hdg : decode cc pc = .ok (.ireturn, 1)) (h : some (v, M) = some (r9, M9)) : W p l e R s m args below meth c H locs cells slots (MQ below (PSi z ad G0 A r9 M9 w9) args s cells slots (zA z)) (F0 m pc ls [.int v]) := by
  cases h
  exact W.zret hx hb hr hn (fun t ht _ => ⟨⟨v, G, rfl, ⟨rfl, hF, hw⟩, by show GW z ad G t.heap; rw [ht]; exact hW⟩, hS.F ht⟩) hS.2.2 hdg hlocks
theorem fm_iw {v r9 t t9 : Int32} {w9 : Int64} (hx : p.tables.exec = Jvm.exec) (hb : c.code = cc) {ty : FieldType} (hr : meth.sig.returnType = some ty) (hn : narrow ty (.int v) = .int v) (hlocks : meth.locks = false) (hW : GW z ad G H) (hF : FW z G A t w9) (hS : va_S (zA z) s.heap H locs) (hdg : decode cc pc = .ok (.ireturn, 1)) (h : some (v, t) = some (r9, t9)) : W p l e R s m args below meth c H locs cells slots (MQ below (PWi z ad A r9 t9 w9) args s cells slots (zA z)) (F0 m pc ls [.int v]) := by
  cases h
  exact W.zret hx hb hr hn (fun t ht _ => ⟨⟨v, G, rfl, ⟨rfl, hF⟩, by show GW z ad G t.heap; rw [ht]; exact hW⟩, hS.F ht⟩) hS.2.2 hdg hlocks
theorem fm_lw {v r9 : Int64} {t t9 : Int32} {w9 : Int64} (hx : p.tables.exec = Jvm.exec) (hb : c.code = cc) (hr : meth.sig.returnType = some .long) (hlocks : meth.locks = false) (hW : GW z ad G H) (hF : FW z G A t w9) (hS : va_S (zA z) s.heap H locs) (hdg : decode cc pc = .ok (.lreturn, 1)) (h : some (v, t) = some (r9, t9)) : W p l e R s m args below meth c H locs cells slots (MQ below (PWl z ad A r9 t9 w9) args s cells slots (zA z)) (F0 m pc ls [.long v]) := by
  cases h
  exact W.lret hx hb hr (fun t ht _ => ⟨⟨v, G, rfl, ⟨rfl, hF⟩, by show GW z ad G t.heap; rw [ht]; exact hW⟩, hS.F ht⟩) hS.2.2 hdg hlocks
theorem fm_dw {v r9 : UInt64} {t t9 : Int32} {w9 : Int64} (hx : p.tables.exec = Jvm.exec) (hb : c.code = cc) (hr : meth.sig.returnType = some .double) (hlocks : meth.locks = false) (hW : GW z ad G H) (hF : FW z G A t w9) (hS : va_S (zA z) s.heap H locs) (hdg : decode cc pc = .ok (.dreturn, 1)) (h : some (v, t) = some (r9, t9)) : W p l e R s m args below meth c H locs cells slots (MQ below (PWd z ad A r9 t9 w9) args s cells slots (zA z)) (F0 m pc ls [.double v]) := by
  cases h
  exact W.dret hx hb hr (fun t ht _ => ⟨⟨v, G, rfl, ⟨rfl, hF⟩, by show GW z ad G t.heap; rw [ht]; exact hW⟩, hS.F ht⟩) hS.2.2 hdg hlocks
theorem fm_vq (hx : p.tables.exec = Jvm.exec) (hb : c.code = cc) (hr : meth.sig.returnType = none) (hlocks : meth.locks = false) (hW : GW z ad G H) (hE : Ext0 G0 G) (hS : va_S (zA z) s.heap H locs) (hdg : decode cc pc = .ok (.return_, 1)) : W p l e R s m args below meth c H locs cells slots (MQ below (PQv z ad G0) args s cells slots (zA z)) (F0 m pc ls []) :=
  W.vret hx hb hr (fun t ht _ => ⟨⟨G, rfl, hE, by show GW z ad G t.heap; rw [ht]; exact hW⟩, hS.F ht⟩) hS.2.2 hdg hlocks
theorem fm_rq {ce : va_E} (hx : p.tables.exec = Jvm.exec) (hb : c.code = cc) {rt : FieldType} (hr : meth.sig.returnType = some rt) (hrt : (∃ n, rt = .object n) ∨ ∃ t, rt = .array t) (hlocks : meth.locks = false) (hW : GW z ad G H) (hE : Ext0 G0 G) (hc : G 99 a = some ce) (hS : va_S (zA z) s.heap H locs) (hdg : decode cc pc = .ok (.areturn, 1)) : W p l e R s m args below meth c H locs cells slots (MQ below (PQr z ad G0 ce) args s cells slots (zA z)) (F0 m pc ls [.ref a]) :=
  W.aret hx hb hr hrt (Or.inr ⟨a, rfl⟩) (fun t ht _ => ⟨⟨G, a, rfl, hE, by show GW z ad G t.heap ∧ _; rw [ht]; exact ⟨hW, hc⟩⟩, hS.F ht⟩) hS.2.2 hdg hlocks
end FR
