
/-! 07b: rows of the walks over numbers -/
def irem (x y : Int32) : Int32 := x - x / y * y
def iush (x y : Int32) : Int32 := (x.toUInt32 >>> (y.toUInt32 &&& Int32.toUInt32 31)).toInt32
def mmax (x y : Int32) : Int32 := if x < y then y else x
def mmin (x y : Int32) : Int32 := if y < x then y else x
def mabs (x : Int32) : Int32 := if 0 ≤ x then x else 0 - x
def scpy (s : St) (f k k' n : Nat) : St := fun a b c => if a = f ∧ b = k' ∧ c < n then s f k c else s a b c
def lp {T : Type} (z : T) (b : T → T) (n : Nat) : T := Nat.rec z (fun _ ih => b ih) n
def oc {α : Type} (o : Option Nat) (a : Option α) (b : Nat → Option α) : Option α := match o with
  | none => a
  | some q => b q
theorem oc_n {α : Type} {o : Option Nat} {a : Option α} {b : Nat → Option α} {r : Option α} (e : o = none) (h : oc o a b = r) : a = r := by subst e; exact h
theorem oc_q {α : Type} {o : Option Nat} {a : Option α} {b : Nat → Option α} {r : Option α} {q : Nat} (e : o = some q) (h : oc o a b = r) : b q = r := by subst e; exact h
def sb {α β : Type} (a : Option (α × St)) (f : α → St → Option β) : Option β := match a with
  | none => none
  | some x => f x.1 x.2
theorem sb_s {α β : Type} {a : Option (α × St)} {f : α → St → Option β} {r : β} (h : sb a f = some r) : ∃ x u, a = some (x, u) ∧ f x u = some r := by
  cases a with
  | none => cases h
  | some x => exact ⟨x.1, x.2, rfl, h⟩
/-- a call that may throw: what it throws goes on -/
def xb {α β : Type} (a : Option (Except String α × St)) (f : α → St → Option (Except String β × St)) : Option (Except String β × St) := match a with
  | none => none
  | some (.ok x, u) => f x u
  | some (.error E, u) => some (.error E, u)
theorem xb_e {α β : Type} {a : Option (Except String α × St)} {f : α → St → Option (Except String β × St)} {E9 : String} {u9 : St} (h : xb a f = some (.error E9, u9)) : (∃ x u, a = some (.ok x, u) ∧ f x u = some (.error E9, u9)) ∨ a = some (.error E9, u9) := by
  cases a with
  | none => cases h
  | some x =>
    obtain ⟨o, u⟩ := x
    cases o with
    | ok x => exact Or.inl ⟨x, u, rfl, h⟩
    | error q =>
      have h1 : some (Except.error q, u) = some ((Except.error E9 : Except String β), u9) := h
      cases h1
      exact Or.inr rfl
theorem xb_s {α β : Type} {a : Option (Except String α × St)} {f : α → St → Option (Except String β × St)} {r : β} {u9 : St} (h : xb a f = some (.ok r, u9)) : ∃ x u, a = some (.ok x, u) ∧ f x u = some (.ok r, u9) := by
  cases a with
  | none => cases h
  | some x =>
    obtain ⟨o, u⟩ := x
    cases o with
    | ok x => exact ⟨x, u, rfl, h⟩
    | error E => cases h
theorem nbool {x : Int32} (h : x = 0 ∨ x = 1) : narrow .boolean (.int x) = .int x ∧ fits .boolean (.int x) = true := by
  rcases h with rfl | rfl <;> exact ⟨rfl, rfl⟩
theorem inb_lt {i : Int32} {n : Nat} (h : inb i n) : ix i < n := Nat.not_le.mp fun q => inb_in h (Or.inr q)
theorem row_lt {j i : Nat} (h : j < 2) (hi : i < 8) : 8 * j + i < 16 := by omega
theorem qrow_at {n i : Nat} {ad : Nat → Nat} (h : i < n) : qrow n ad i = some (ad i) := if_pos h
theorem ppan_lt {N : Nt} {s : St} {i q : Nat} (h : ppan N s i = some q) : q < N 12 := by
  unfold ppan at h
  by_cases c : 0 ≤ (s 33 i 0).toInt ∧ ix (s 33 i 0) < N 12
  · rw [if_pos c] at h; cases h; exact c.2
  · rw [if_neg c] at h; cases h
section GY
variable {z : Zt} {ad : Ad} {N : Nt} {X : Gt} {s : St} {k k' n : Nat}
theorem scpy_ne {f a b c : Nat} (h : a ≠ f) : scpy s f k k' n a b c = s a b c := by simp [scpy, h]
theorem scpy_fn {f a b : Nat} (h : ¬ (a = f ∧ b = k')) : scpy s f k k' n a b = s a b := funext fun c => by simp only [scpy]; rw [if_neg (fun q => h ⟨q.1, q.2.1⟩)]
theorem scpy_up {f : Nat} : scpy s f k k' n f k' = va_cpy (s f k) (s f k') 0 0 n := funext fun c => by
  by_cases h : c < n
  · simp [scpy, va_cpy, h]
  · simp [scpy, va_cpy, h]
theorem gy_42 (hk : k' < 2) : up2 (GC z ad N X s) 9 k' (.inl (z.2.2 0, 10, .inl (va_cpy (s 42 k) (s 42 k') 0 0 n))) = GC z ad N X (scpy s 42 k k' n) := by
  funext a b
  by_cases h : a = 9 ∧ b = k'
  · obtain ⟨rfl, rfl⟩ := h
    rw [up2_self, kr_9 hk, scpy_up]
  · rw [up2_ne h]
    unfold GC
    split
    · simp only [scpy_ne (show (0 : Nat) ≠ 42 by decide), scpy_ne (show (1 : Nat) ≠ 42 by decide), scpy_ne (show (2 : Nat) ≠ 42 by decide), scpy_ne (show (3 : Nat) ≠ 42 by decide), scpy_ne (show (4 : Nat) ≠ 42 by decide)]
    · rfl
    · rfl
    · rfl
    · simp only [scpy_fn (show ¬ ((70 : Nat) = 42 ∧ b = k') by simp)]
    · simp only [scpy_ne (show (51 : Nat) ≠ 42 by decide), scpy_ne (show (52 : Nat) ≠ 42 by decide), scpy_ne (show (53 : Nat) ≠ 42 by decide)]
    · simp only [scpy_ne (show (64 : Nat) ≠ 42 by decide), scpy_ne (show (65 : Nat) ≠ 42 by decide), scpy_ne (show (66 : Nat) ≠ 42 by decide)]
    · simp only [scpy_fn (show ¬ ((50 : Nat) = 42 ∧ b = k') by simp)]
    · simp only [scpy_ne (show (43 : Nat) ≠ 42 by decide)]
    · simp only [scpy_fn (show ¬ (42 = 42 ∧ b = k') from fun q => h ⟨rfl, q.2⟩)]
    · rfl
    · rfl
    · simp only [scpy_ne (show (10 : Nat) ≠ 42 by decide), scpy_ne (show (11 : Nat) ≠ 42 by decide), scpy_ne (show (12 : Nat) ≠ 42 by decide), scpy_ne (show (13 : Nat) ≠ 42 by decide)]
    · simp only [scpy_fn (show ¬ ((14 : Nat) = 42 ∧ b = k') by simp)]
    · simp only [scpy_ne (show (20 : Nat) ≠ 42 by decide), scpy_ne (show (21 : Nat) ≠ 42 by decide), scpy_ne (show (22 : Nat) ≠ 42 by decide), scpy_ne (show (23 : Nat) ≠ 42 by decide)]
    · simp only [scpy_ne (show (30 : Nat) ≠ 42 by decide), scpy_ne (show (31 : Nat) ≠ 42 by decide), scpy_ne (show (32 : Nat) ≠ 42 by decide), scpy_ne (show (34 : Nat) ≠ 42 by decide), scpy_ne (show (35 : Nat) ≠ 42 by decide), show ppan N (scpy s 42 k k' n) b = ppan N s b from by unfold ppan; rw [scpy_ne (show (33 : Nat) ≠ 42 by decide)]]
    · simp only [scpy_fn (show ¬ ((60 : Nat) = 42 ∧ b = k') by simp)]
    · simp only [scpy_fn (show ¬ ((61 : Nat) = 42 ∧ b = k') by simp)]
    · simp only [scpy_fn (show ¬ ((62 : Nat) = 42 ∧ b = k') by simp)]
    · simp only [scpy_fn (show ¬ ((63 : Nat) = 42 ∧ b = k') by simp)]
    · simp only [scpy_fn (show ¬ ((40 : Nat) = 42 ∧ b = k') by simp)]
    · simp only [scpy_fn (show ¬ ((41 : Nat) = 42 ∧ b = k') by simp)]
    · rfl
theorem gy_40 (hk : k' < 16) : up2 (GC z ad N X s) 20 k' (.inl (z.2.2 0, 8, .inl (va_cpy (s 40 k) (s 40 k') 0 0 n))) = GC z ad N X (scpy s 40 k k' n) := by
  funext a b
  by_cases h : a = 20 ∧ b = k'
  · obtain ⟨rfl, rfl⟩ := h
    rw [up2_self, kr_20 hk, scpy_up]
  · rw [up2_ne h]
    unfold GC
    split
    · simp only [scpy_ne (show (0 : Nat) ≠ 40 by decide), scpy_ne (show (1 : Nat) ≠ 40 by decide), scpy_ne (show (2 : Nat) ≠ 40 by decide), scpy_ne (show (3 : Nat) ≠ 40 by decide), scpy_ne (show (4 : Nat) ≠ 40 by decide)]
    · rfl
    · rfl
    · rfl
    · simp only [scpy_fn (show ¬ ((70 : Nat) = 40 ∧ b = k') by simp)]
    · simp only [scpy_ne (show (51 : Nat) ≠ 40 by decide), scpy_ne (show (52 : Nat) ≠ 40 by decide), scpy_ne (show (53 : Nat) ≠ 40 by decide)]
    · simp only [scpy_ne (show (64 : Nat) ≠ 40 by decide), scpy_ne (show (65 : Nat) ≠ 40 by decide), scpy_ne (show (66 : Nat) ≠ 40 by decide)]
    · simp only [scpy_fn (show ¬ ((50 : Nat) = 40 ∧ b = k') by simp)]
    · simp only [scpy_ne (show (43 : Nat) ≠ 40 by decide)]
    · simp only [scpy_fn (show ¬ ((42 : Nat) = 40 ∧ b = k') by simp)]
    · rfl
    · rfl
    · simp only [scpy_ne (show (10 : Nat) ≠ 40 by decide), scpy_ne (show (11 : Nat) ≠ 40 by decide), scpy_ne (show (12 : Nat) ≠ 40 by decide), scpy_ne (show (13 : Nat) ≠ 40 by decide)]
    · simp only [scpy_fn (show ¬ ((14 : Nat) = 40 ∧ b = k') by simp)]
    · simp only [scpy_ne (show (20 : Nat) ≠ 40 by decide), scpy_ne (show (21 : Nat) ≠ 40 by decide), scpy_ne (show (22 : Nat) ≠ 40 by decide), scpy_ne (show (23 : Nat) ≠ 40 by decide)]
    · simp only [scpy_ne (show (30 : Nat) ≠ 40 by decide), scpy_ne (show (31 : Nat) ≠ 40 by decide), scpy_ne (show (32 : Nat) ≠ 40 by decide), scpy_ne (show (34 : Nat) ≠ 40 by decide), scpy_ne (show (35 : Nat) ≠ 40 by decide), show ppan N (scpy s 40 k k' n) b = ppan N s b from by unfold ppan; rw [scpy_ne (show (33 : Nat) ≠ 40 by decide)]]
    · simp only [scpy_fn (show ¬ ((60 : Nat) = 40 ∧ b = k') by simp)]
    · simp only [scpy_fn (show ¬ ((61 : Nat) = 40 ∧ b = k') by simp)]
    · simp only [scpy_fn (show ¬ ((62 : Nat) = 40 ∧ b = k') by simp)]
    · simp only [scpy_fn (show ¬ ((63 : Nat) = 40 ∧ b = k') by simp)]
    · simp only [scpy_fn (show ¬ (40 = 40 ∧ b = k') from fun q => h ⟨rfl, q.2⟩)]
    · simp only [scpy_fn (show ¬ ((41 : Nat) = 40 ∧ b = k') by simp)]
    · rfl
theorem gy_14 (hk : vPan N k') : up2 (GC z ad N X s) 13 k' (.inl (z.2.2 0, 8, .inl (va_cpy (s 14 k) (s 14 k') 0 0 n))) = GC z ad N X (scpy s 14 k k' n) := by
  funext a b
  by_cases h : a = 13 ∧ b = k'
  · obtain ⟨rfl, rfl⟩ := h
    rw [up2_self, kr_13 hk, scpy_up]
  · rw [up2_ne h]
    unfold GC
    split
    · simp only [scpy_ne (show (0 : Nat) ≠ 14 by decide), scpy_ne (show (1 : Nat) ≠ 14 by decide), scpy_ne (show (2 : Nat) ≠ 14 by decide), scpy_ne (show (3 : Nat) ≠ 14 by decide), scpy_ne (show (4 : Nat) ≠ 14 by decide)]
    · rfl
    · rfl
    · rfl
    · simp only [scpy_fn (show ¬ ((70 : Nat) = 14 ∧ b = k') by simp)]
    · simp only [scpy_ne (show (51 : Nat) ≠ 14 by decide), scpy_ne (show (52 : Nat) ≠ 14 by decide), scpy_ne (show (53 : Nat) ≠ 14 by decide)]
    · simp only [scpy_ne (show (64 : Nat) ≠ 14 by decide), scpy_ne (show (65 : Nat) ≠ 14 by decide), scpy_ne (show (66 : Nat) ≠ 14 by decide)]
    · simp only [scpy_fn (show ¬ ((50 : Nat) = 14 ∧ b = k') by simp)]
    · simp only [scpy_ne (show (43 : Nat) ≠ 14 by decide)]
    · simp only [scpy_fn (show ¬ ((42 : Nat) = 14 ∧ b = k') by simp)]
    · rfl
    · rfl
    · simp only [scpy_ne (show (10 : Nat) ≠ 14 by decide), scpy_ne (show (11 : Nat) ≠ 14 by decide), scpy_ne (show (12 : Nat) ≠ 14 by decide), scpy_ne (show (13 : Nat) ≠ 14 by decide)]
    · simp only [scpy_fn (show ¬ (14 = 14 ∧ b = k') from fun q => h ⟨rfl, q.2⟩)]
    · simp only [scpy_ne (show (20 : Nat) ≠ 14 by decide), scpy_ne (show (21 : Nat) ≠ 14 by decide), scpy_ne (show (22 : Nat) ≠ 14 by decide), scpy_ne (show (23 : Nat) ≠ 14 by decide)]
    · simp only [scpy_ne (show (30 : Nat) ≠ 14 by decide), scpy_ne (show (31 : Nat) ≠ 14 by decide), scpy_ne (show (32 : Nat) ≠ 14 by decide), scpy_ne (show (34 : Nat) ≠ 14 by decide), scpy_ne (show (35 : Nat) ≠ 14 by decide), show ppan N (scpy s 14 k k' n) b = ppan N s b from by unfold ppan; rw [scpy_ne (show (33 : Nat) ≠ 14 by decide)]]
    · simp only [scpy_fn (show ¬ ((60 : Nat) = 14 ∧ b = k') by simp)]
    · simp only [scpy_fn (show ¬ ((61 : Nat) = 14 ∧ b = k') by simp)]
    · simp only [scpy_fn (show ¬ ((62 : Nat) = 14 ∧ b = k') by simp)]
    · simp only [scpy_fn (show ¬ ((63 : Nat) = 14 ∧ b = k') by simp)]
    · simp only [scpy_fn (show ¬ ((40 : Nat) = 14 ∧ b = k') by simp)]
    · simp only [scpy_fn (show ¬ ((41 : Nat) = 14 ∧ b = k') by simp)]
    · rfl
end GY
section NE
variable {p : Program} {l : Launch} {e : Env} {R : Room} {s : State} {m : MethodId} {args : Array Value} {below : List Frame} {meth : Method} {c : Code} {H : Heap} {locs : List Loc} {cells slots : Nat} {Q : State → Prop}
variable {cc : ByteArray} {pc : Nat} {ls : Array Slot} {rest : List Value} {z : Zt} {ad : Ad} {G G' X : Gt} {N : Nt} {u u9 : St} {own : String} {idx nL : Nat} {H0 : Heap} {tys : List (ClassId × FieldType)}
theorem nb_oc {o : Option Nat} {f : Nat → Nat} (k1 : o = none → W p l e R s m args below meth c H locs cells slots Q (F0 m pc ls (.null :: rest))) (k2 : ∀ q, o = some q → W p l e R s m args below meth c H locs cells slots Q (F0 m pc ls (.ref (f q) :: rest))) : W p l e R s m args below meth c H locs cells slots Q (F0 m pc ls (va_rf (o.map f) :: rest)) := by
  cases o with
  | none => exact k1 rfl
  | some q => exact k2 q rfl
theorem nb_ocn {o : Option Nat} {f : Nat → Nat} (e9 : o = none) (k1 : W p l e R s m args below meth c H locs cells slots Q (F0 m pc ls (.null :: rest))) : W p l e R s m args below meth c H locs cells slots Q (F0 m pc ls (va_rf (o.map f) :: rest)) := by
  subst e9; exact k1
theorem nb_ocq {o : Option Nat} {f : Nat → Nat} {q : Nat} (e9 : o = some q) (k2 : W p l e R s m args below meth c H locs cells slots Q (F0 m pc ls (.ref (f q) :: rest))) : W p l e R s m args below meth c H locs cells slots Q (F0 m pc ls (va_rf (o.map f) :: rest)) := by
  subst e9; exact k2
theorem ne_iret {v r9 : Int32} (hx : p.tables.exec = Jvm.exec) (hb : c.code = cc) {ty : FieldType} (hr : meth.sig.returnType = some ty) (hn : narrow ty (.int v) = .int v) (hlocks : meth.locks = false) (hW : GW z ad (GC z ad N X u) H) (hS : va_S (zA z) s.heap H locs) (hdg : decode cc pc = .ok (.ireturn, 1)) (h : some (v, u) = some (r9, u9)) : W p l e R s m args below meth c H locs cells slots (MQ below (QI z ad (GC z ad N X u9) r9) args s cells slots (zA z)) (F0 m pc ls [.int v]) := by
  cases h; exact nb_iret hx hb hr hn hlocks hW hS hdg
theorem ne_mret {v r9 : Int32} {P : Ad → Prop} {u9 : St} {GN : Ad → St → Gt} (hx : p.tables.exec = Jvm.exec) (hb : c.code = cc) {ty : FieldType} (hr : meth.sig.returnType = some ty) (hn : narrow ty (.int v) = .int v) (hlocks : meth.locks = false) (hW : GW z ad (GN ad u) H) (hS : va_S (zA z) s.heap H locs) (hdg : decode cc pc = .ok (.ireturn, 1)) (h : some ((.ok v : Except String Int32), u) = some (.ok r9, u9)) (hP : P ad) : W p l e R s m args below meth c H locs cells slots (MQ below (QM z P (fun ad2 => GN ad2 u9) r9) args s cells slots (zA z)) (F0 m pc ls [.int v]) := by
  cases h
  exact W.zret hx hb hr hn (fun t ht _ => ⟨⟨v, ad, rfl, ⟨rfl, hP⟩, by show GW z ad (GN ad u) t.heap; rw [ht]; exact hW⟩, hS.F ht⟩) hS.2.2 hdg hlocks
theorem ne_iretX {v r9 : Int32} (hx : p.tables.exec = Jvm.exec) (hb : c.code = cc) {ty : FieldType} (hr : meth.sig.returnType = some ty) (hn : narrow ty (.int v) = .int v) (hlocks : meth.locks = false) (hW : GW z ad (GC z ad N X u) H) (hS : va_S (zA z) s.heap H locs) (hdg : decode cc pc = .ok (.ireturn, 1)) (h : some ((.ok v : Except String Int32), u) = some (.ok r9, u9)) : W p l e R s m args below meth c H locs cells slots (MQ below (QI z ad (GC z ad N X u9) r9) args s cells slots (zA z)) (F0 m pc ls [.int v]) := by
  cases h; exact nb_iret hx hb hr hn hlocks hW hS hdg
theorem ne_lret {v r9 : Int64} (hx : p.tables.exec = Jvm.exec) (hb : c.code = cc) (hr : meth.sig.returnType = some .long) (hlocks : meth.locks = false) (hW : GW z ad (GC z ad N X u) H) (hS : va_S (zA z) s.heap H locs) (hdg : decode cc pc = .ok (.lreturn, 1)) (h : some (v, u) = some (r9, u9)) : W p l e R s m args below meth c H locs cells slots (MQ below (QL z ad (GC z ad N X u9) r9) args s cells slots (zA z)) (F0 m pc ls [.long v]) := by
  cases h; exact W.lret hx hb hr (fun t ht _ => ⟨⟨v, (), rfl, rfl, by show GW z ad (GC z ad N X u) t.heap; rw [ht]; exact hW⟩, hS.F ht⟩) hS.2.2 hdg hlocks
theorem ne_lretX {v r9 : Int64} (hx : p.tables.exec = Jvm.exec) (hb : c.code = cc) (hr : meth.sig.returnType = some .long) (hlocks : meth.locks = false) (hW : GW z ad (GC z ad N X u) H) (hS : va_S (zA z) s.heap H locs) (hdg : decode cc pc = .ok (.lreturn, 1)) (h : some ((.ok v : Except String Int64), u) = some (.ok r9, u9)) : W p l e R s m args below meth c H locs cells slots (MQ below (QL z ad (GC z ad N X u9) r9) args s cells slots (zA z)) (F0 m pc ls [.long v]) := by
  cases h; exact W.lret hx hb hr (fun t ht _ => ⟨⟨v, (), rfl, rfl, by show GW z ad (GC z ad N X u) t.heap; rw [ht]; exact hW⟩, hS.F ht⟩) hS.2.2 hdg hlocks
theorem ne_dret {v r9 : UInt64} (hx : p.tables.exec = Jvm.exec) (hb : c.code = cc) (hr : meth.sig.returnType = some .double) (hlocks : meth.locks = false) (hW : GW z ad (GC z ad N X u) H) (hS : va_S (zA z) s.heap H locs) (hdg : decode cc pc = .ok (.dreturn, 1)) (h : some (v, u) = some (r9, u9)) : W p l e R s m args below meth c H locs cells slots (MQ below (QD z ad (GC z ad N X u9) r9) args s cells slots (zA z)) (F0 m pc ls [.double v]) := by
  cases h; exact W.dret hx hb hr (fun t ht _ => ⟨⟨v, (), rfl, rfl, by show GW z ad (GC z ad N X u) t.heap; rw [ht]; exact hW⟩, hS.F ht⟩) hS.2.2 hdg hlocks
theorem ne_vret {v r9 : Unit} (hx : p.tables.exec = Jvm.exec) (hb : c.code = cc) (hr : meth.sig.returnType = none) (hlocks : meth.locks = false) (hW : GW z ad (GC z ad N X u) H) (hS : va_S (zA z) s.heap H locs) (hdg : decode cc pc = .ok (.return_, 1)) (h : some (v, u) = some (r9, u9)) : W p l e R s m args below meth c H locs cells slots (MQ below (QV z ad (GC z ad N X u9)) args s cells slots (zA z)) (F0 m pc ls []) := by
  cases h; exact nb_vret hx hb hr hlocks hW hS hdg
theorem ne_vretX {v r9 : Unit} (hx : p.tables.exec = Jvm.exec) (hb : c.code = cc) (hr : meth.sig.returnType = none) (hlocks : meth.locks = false) (hW : GW z ad (GC z ad N X u) H) (hS : va_S (zA z) s.heap H locs) (hdg : decode cc pc = .ok (.return_, 1)) (h : some ((.ok v : Except String Unit), u) = some (.ok r9, u9)) : W p l e R s m args below meth c H locs cells slots (MQ below (QV z ad (GC z ad N X u9)) args s cells slots (zA z)) (F0 m pc ls []) := by
  cases h; exact nb_vret hx hb hr hlocks hW hS hdg
theorem ne_aret {f : Nat → Nat} {o r9 : Option Nat} (hx : p.tables.exec = Jvm.exec) (hb : c.code = cc) {rt : FieldType} (hr : meth.sig.returnType = some rt) (hrt : (∃ n, rt = .object n) ∨ ∃ t, rt = .array t) (hlocks : meth.locks = false) (hW : GW z ad (GC z ad N X u) H) (hS : va_S (zA z) s.heap H locs) (hdg : decode cc pc = .ok (.areturn, 1)) (h : some (o, u) = some (r9, u9)) : W p l e R s m args below meth c H locs cells slots (MQ below (QQ z ad (GC z ad N X u9) (r9.map f)) args s cells slots (zA z)) (F0 m pc ls [va_rf (o.map f)]) := by
  cases h; exact nb_aret hx hb hr hrt hlocks hW hS hdg
theorem nb_mmax (hx : p.tables.exec = Jvm.exec) (hb : c.code = cc) (hml : c.maxLocals = nL) (hsz : ls.size = nL) (hown : s.vm.findClass own = some m.cls) (hT : TB s) (lk : Cond.methodLink own idx Lib.Math.max.name ∈ lw_tbl) (f : MFs Lib.Math.max.name Lib.Math.max.code 2 (some .int) 2) (hR : 1 ≤ R.frames ∧ (rest.map fun v => v.category).sum + 13 ≤ R.locals) (hcs : cells ≤ R.cells ∧ slots ≤ R.slots) {x y : Int32} (hdg : decode cc pc = .ok (.invokestatic idx, 3))
    (kk : W p l e R s m args below meth c H locs cells slots Q (F0 m (pc + 3) ls (.int (mmax x y) :: rest))) : W p l e R s m args below meth c H locs cells slots Q (F0 m pc ls (.int y :: .int x :: rest)) := by
  obtain ⟨f1, f3, f4, -⟩ := f
  exact va_mmax hx hb (hml.trans hsz.symm) hown (hT.use lk rfl) (hT.use f1 rfl) (hT.use f3 rfl) (hT.use f4 rfl) hR.1 hR.2 hcs.1 hcs.2 hdg kk
theorem nb_mmin (hx : p.tables.exec = Jvm.exec) (hb : c.code = cc) (hml : c.maxLocals = nL) (hsz : ls.size = nL) (hown : s.vm.findClass own = some m.cls) (hT : TB s) (lk : Cond.methodLink own idx Lib.Math.min.name ∈ lw_tbl) (f : MFs Lib.Math.min.name Lib.Math.min.code 2 (some .int) 2) (hR : 1 ≤ R.frames ∧ (rest.map fun v => v.category).sum + 13 ≤ R.locals) (hcs : cells ≤ R.cells ∧ slots ≤ R.slots) {x y : Int32} (hdg : decode cc pc = .ok (.invokestatic idx, 3))
    (kk : W p l e R s m args below meth c H locs cells slots Q (F0 m (pc + 3) ls (.int (mmin x y) :: rest))) : W p l e R s m args below meth c H locs cells slots Q (F0 m pc ls (.int y :: .int x :: rest)) := by
  obtain ⟨f1, f3, f4, -⟩ := f
  exact va_mmin hx hb (hml.trans hsz.symm) hown (hT.use lk rfl) (hT.use f1 rfl) (hT.use f3 rfl) (hT.use f4 rfl) hR.1 hR.2 hcs.1 hcs.2 hdg kk
theorem nb_mabs (hx : p.tables.exec = Jvm.exec) (hb : c.code = cc) (hml : c.maxLocals = nL) (hsz : ls.size = nL) (hown : s.vm.findClass own = some m.cls) (hT : TB s) (lk : Cond.methodLink own idx Lib.Math.abs.name ∈ lw_tbl) (f : MFs Lib.Math.abs.name Lib.Math.abs.code 1 (some .int) 1) (hR : 1 ≤ R.frames ∧ (rest.map fun v => v.category).sum + 13 ≤ R.locals) (hcs : cells ≤ R.cells ∧ slots ≤ R.slots) {x : Int32} (hdg : decode cc pc = .ok (.invokestatic idx, 3))
    (kk : W p l e R s m args below meth c H locs cells slots Q (F0 m (pc + 3) ls (.int (mabs x) :: rest))) : W p l e R s m args below meth c H locs cells slots Q (F0 m pc ls (.int x :: rest)) := by
  obtain ⟨f1, f3, f4, -⟩ := f
  exact va_mabs hx hb (hml.trans hsz.symm) hown (hT.use lk rfl) (hT.use f1 rfl) (hT.use f3 rfl) (hT.use f4 rfl) hR.1 hR.2 hcs.1 hcs.2 hdg kk
theorem nb_copy (hx : p.tables.exec = Jvm.exec) (hb : c.code = cc) (hml : c.maxLocals = nL) (hsz : ls.size = nL) (hown : s.vm.findClass own = some m.cls) (hT : TB s) (hK : va_K z.1 kCl tys s) (hW : GW z ad G H) (hS : va_S (zA z) H0 H locs) (t0 : Nat) {cA : ClassId} {n0 n1 kd k kd' k' : Nat} {f g : Nat → Int32} (hk : G kd k = some (.inl (cA, n0, .inl f))) (hk' : G kd' k' = some (.inl (cA, n1, .inl g))) (ht : tys[t0]? = some (cA, .int)) {n : Int32} {N9 : Nat} (h3 : ¬ n < 0) (h4 : n.toNatClampNeg = N9 ∧ N9 ≤ n0) (h5 : N9 ≤ n1)
    (lk : Cond.methodLink own idx arraycopyName ∈ lw_tbl) (f9 : Cond.native arraycopyName ∈ lw_tbl ∧ Cond.static arraycopyName ∈ lw_tbl ∧ Cond.initialized "java/lang/System" ∈ lw_tbl) (hR : 1 ≤ R.frames ∧ (rest.map fun v => v.category).sum + (nativeFrameWords "java/lang/System" "arraycopy" 5 + 11) ≤ R.locals) (he : up2 G kd' k' (.inl (cA, n1, .inl (va_cpy f g 0 0 N9))) = G') (hdg : decode cc pc = .ok (.invokestatic idx, 3))
    (kk : ∀ (H1 : Heap) (locs1 : List Loc), GW z ad G' H1 → va_S (zA z) H0 H1 locs1 → W p l e R s m args below meth c H1 locs1 cells slots Q (F0 m (pc + 3) ls rest)) : W p l e R s m args below meth c H locs cells slots Q (F0 m pc ls (.int n :: .int 0 :: .ref (ad kd' k') :: .int 0 :: .ref (ad kd k) :: rest)) := by
  subst he
  obtain ⟨h4, h6⟩ := h4
  obtain ⟨L, f0, hP, hD, hG, hI⟩ := hW
  obtain ⟨ha, hf⟩ := hG _ _ _ hk
  obtain ⟨ha', hf'⟩ := hG _ _ _ hk'
  obtain ⟨i0, hi⟩ := va_pl_get (X := []) (f := f0) ha
  obtain ⟨i1, hi'⟩ := va_pl_get (X := []) (f := f0) ha'
  refine va_copyi (D := z.1) (c0 := cA) (c1 := cA) (n0 := n0) (n1 := n1) (f := f) (g := g) (ty := .int) hx hb (hml.trans hsz.symm) hown (hT.use lk rfl) (hT.use f9.1 rfl) (hT.use f9.2.1 rfl) (hT.use f9.2.2 rfl) hK hP hD hS i0 i1 t0 t0 (by rw [hi, hf]) (by rw [hi', hf']) ht ht rfl (by decide) (by decide) h3 (by rw [h4]; simpa using h6) (by rw [h4]; simpa using h5) (fun _ _ => rfl) hR.1 hR.2 hdg (fun H1 locs1 hP1 hD1 hS1 => kk H1 locs1 ?_ hS1)
  have e : va_cpy f g (0 : Int32).toNatClampNeg (0 : Int32).toNatClampNeg n.toNatClampNeg = va_cpy f g 0 0 N9 := by rw [h4]; rfl
  rw [e] at hP1
  exact gw_up hD hG hI hk' hi' hP1
end NE
