/-! 07.state: the yard of the class as numbers: s f k i is field f's number at the object k, place i; N kd: how many objects of that kind there are -/
abbrev St : Type := Nat → Nat → Nat → Int32
abbrev Nt : Type := Nat → Nat
def sset (s : St) (f k i : Nat) (v : Int32) : St := fun a b c => if a = f ∧ b = k ∧ c = i then v else s a b c
def nm {α β : Sort _} (e : α) (f : α → β) : β := f e
def gd {α : Type} (c : Prop) [Decidable c] (x : Option α) : Option α := if c then x else none
def bd {α β : Type} (a : Option α) (f : α → Option β) : Option β := match a with
  | none => none
  | some x => f x
theorem gd_s {α : Type} {c : Prop} [Decidable c] {x : Option α} {r : α} (h : gd c x = some r) : c ∧ x = some r := by
  unfold gd at h
  by_cases hc : c
  · rw [if_pos hc] at h; exact ⟨hc, h⟩
  · rw [if_neg hc] at h; cases h
theorem bd_s {α β : Type} {a : Option α} {f : α → Option β} {r : β} (h : bd a f = some r) : ∃ x, a = some x ∧ f x = some r := by
  cases a with
  | none => cases h
  | some x => exact ⟨x, rfl, h⟩
theorem nm_s {α β : Type} {e : α} {f : α → Option β} {r : β} (h : nm e f = some r) : ∃ x, x = e ∧ f x = some r := ⟨e, rfl, h⟩
theorem nm_at {α β : Type} {e x : α} {f : α → Option β} {r : β} (ex : x = e) (h : nm e f = some r) : f x = some r := by subst ex; exact h
theorem ite_t {α : Type} {c : Prop} [Decidable c] {x y : Option α} {r : α} (h : (if c then x else y) = some r) (hc : c) : x = some r := by rw [if_pos hc] at h; exact h
theorem ite_f {α : Type} {c : Prop} [Decidable c] {x y : Option α} {r : α} (h : (if c then x else y) = some r) (hc : ¬ c) : y = some r := by rw [if_neg hc] at h; exact h
/-- a place of a row of n -/
abbrev inb (i : Int32) (n : Nat) : Prop := 0 ≤ i.toInt ∧ i.toInt < n
theorem inb_in {i : Int32} {n : Nat} (h : inb i n) : vp_in i n := vp_in_iff.mpr h
abbrev ix (i : Int32) : Nat := i.toNatClampNeg
abbrev vPan (N : Nt) (k : Nat) : Prop := k < N 12 ∨ k = 6
def ppan (N : Nt) (s : St) (i : Nat) : Option Nat := if 0 ≤ (s 33 i 0).toInt ∧ ix (s 33 i 0) < N 12 then some (ix (s 33 i 0)) else none
def qrow (n : Nat) (ad : Nat → Nat) : Nat → Option Nat := fun i => if i < n then some (ad i) else none
def GC (z : Zt) (ad : Ad) (N : Nt) (X : Gt) (s : St) : Gt := fun kd k => match kd with
  | 0 => if k = 0 then some (.inr (7, [.ref (ad 1 0), .ref (ad 2 0), .ref (ad 3 0), .ref (ad 8 0), .ref (ad 10 0), .ref (ad 5 0), .ref (ad 6 0), .int (s 0 k 0), .int (s 1 k 0), .int (s 2 k 0), .int (s 3 k 0), .int (s 4 k 0), .ref (ad 12 6), .ref (ad 8 1), .ref (ad 10 1), .ref (ad 4 0)])) else none
  | 1 => if k = 0 then some (.inl (z.2.2 2, 6, .inr (.inr (.inr (.inr (qrow (N 12) (ad 12))))))) else none
  | 2 => if k = 0 then some (.inl (z.2.2 3, 8, .inr (.inr (.inr (.inr (qrow (N 14) (ad 14))))))) else none
  | 3 => if k = 0 then some (.inl (z.2.2 4, 8, .inr (.inr (.inr (.inr (qrow (N 15) (ad 15))))))) else none
  | 4 => if k = 0 then some (.inl (z.2.2 0, 8, .inl (s 70 k))) else none
  | 5 => if k = 0 then some (.inr (6, [.ref (ad 7 0), .int (s 51 k 0), .int (s 52 k 0), .int (s 53 k 0)])) else none
  | 6 => if k = 0 then some (.inr (1, [.ref (ad 16 0), .ref (ad 17 0), .ref (ad 18 0), .ref (ad 19 0), .int (s 64 k 0), .int (s 65 k 0), .int (s 66 k 0)])) else none
  | 7 => if k = 0 then some (.inl (z.2.2 0, 4, .inl (s 50 k))) else none
  | 8 => if k < 2 then some (.inr (0, [.ref (ad 9 k), .int (s 43 k 0)])) else none
  | 9 => if k < 2 then some (.inl (z.2.2 0, 10, .inl (s 42 k))) else none
  | 10 => if k < 2 then some (.inr (2, [.ref (ad 11 k), .ref (ad 21 k)])) else none
  | 11 => if k < 2 then some (.inl (z.2.2 1, 8, .inr (.inr (.inr (.inr (qrow 8 (fun i => ad 20 (8 * k + i)))))))) else none
  | 12 => if vPan N k then some (.inr (3, [.int (s 10 k 0), .ref (ad 13 k), .int (s 11 k 0), .int (s 12 k 0), .int (s 13 k 0)])) else none
  | 13 => if vPan N k then some (.inl (z.2.2 0, 8, .inl (s 14 k))) else none
  | 14 => if k < N 14 then some (.inr (4, [.int (s 20 k 0), .int (s 21 k 0), .int (s 22 k 0), .int (s 23 k 0)])) else none
  | 15 => if k < N 15 then some (.inr (5, [.int (s 30 k 0), .int (s 31 k 0), .int (s 32 k 0), va_rf ((ppan N s k).map (ad 12)), .int (s 34 k 0), .int (s 35 k 0)])) else none
  | 16 => if k = 0 then some (.inl (z.2.2 0, 6, .inl (s 60 k))) else none
  | 17 => if k = 0 then some (.inl (z.2.2 0, 3, .inl (s 61 k))) else none
  | 18 => if k = 0 then some (.inl (z.2.2 0, 3, .inl (s 62 k))) else none
  | 19 => if k = 0 then some (.inl (z.2.2 0, 3, .inl (s 63 k))) else none
  | 20 => if k < 16 then some (.inl (z.2.2 0, 8, .inl (s 40 k))) else none
  | 21 => if k < 2 then some (.inl (z.2.2 0, 8, .inl (s 41 k))) else none
  | kd => X kd k
section GCR
variable {z : Zt} {ad : Ad} {N : Nt} {X : Gt} {s : St} {k i : Nat} {v : Int32}
theorem kr_0 : GC z ad N X s 0 0 = some (.inr (7, [.ref (ad 1 0), .ref (ad 2 0), .ref (ad 3 0), .ref (ad 8 0), .ref (ad 10 0), .ref (ad 5 0), .ref (ad 6 0), .int (s 0 0 0), .int (s 1 0 0), .int (s 2 0 0), .int (s 3 0 0), .int (s 4 0 0), .ref (ad 12 6), .ref (ad 8 1), .ref (ad 10 1), .ref (ad 4 0)])) := rfl
theorem kr_1 : GC z ad N X s 1 0 = some (.inl (z.2.2 2, 6, .inr (.inr (.inr (.inr (qrow (N 12) (ad 12))))))) := rfl
theorem kr_2 : GC z ad N X s 2 0 = some (.inl (z.2.2 3, 8, .inr (.inr (.inr (.inr (qrow (N 14) (ad 14))))))) := rfl
theorem kr_3 : GC z ad N X s 3 0 = some (.inl (z.2.2 4, 8, .inr (.inr (.inr (.inr (qrow (N 15) (ad 15))))))) := rfl
theorem kr_4 : GC z ad N X s 4 0 = some (.inl (z.2.2 0, 8, .inl (s 70 0))) := rfl
theorem kr_5 : GC z ad N X s 5 0 = some (.inr (6, [.ref (ad 7 0), .int (s 51 0 0), .int (s 52 0 0), .int (s 53 0 0)])) := rfl
theorem kr_6 : GC z ad N X s 6 0 = some (.inr (1, [.ref (ad 16 0), .ref (ad 17 0), .ref (ad 18 0), .ref (ad 19 0), .int (s 64 0 0), .int (s 65 0 0), .int (s 66 0 0)])) := rfl
theorem kr_7 : GC z ad N X s 7 0 = some (.inl (z.2.2 0, 4, .inl (s 50 0))) := rfl
theorem kr_8 (hk : k < 2) : GC z ad N X s 8 k = some (.inr (0, [.ref (ad 9 k), .int (s 43 k 0)])) := by show (if k < 2 then some _ else none) = _; rw [if_pos hk]
theorem kr_9 (hk : k < 2) : GC z ad N X s 9 k = some (.inl (z.2.2 0, 10, .inl (s 42 k))) := by show (if k < 2 then some _ else none) = _; rw [if_pos hk]
theorem kr_10 (hk : k < 2) : GC z ad N X s 10 k = some (.inr (2, [.ref (ad 11 k), .ref (ad 21 k)])) := by show (if k < 2 then some _ else none) = _; rw [if_pos hk]
theorem kr_11 (hk : k < 2) : GC z ad N X s 11 k = some (.inl (z.2.2 1, 8, .inr (.inr (.inr (.inr (qrow 8 (fun i => ad 20 (8 * k + i)))))))) := by show (if k < 2 then some _ else none) = _; rw [if_pos hk]
theorem kr_12 (hk : vPan N k) : GC z ad N X s 12 k = some (.inr (3, [.int (s 10 k 0), .ref (ad 13 k), .int (s 11 k 0), .int (s 12 k 0), .int (s 13 k 0)])) := by show (if vPan N k then some _ else none) = _; rw [if_pos hk]
theorem kr_13 (hk : vPan N k) : GC z ad N X s 13 k = some (.inl (z.2.2 0, 8, .inl (s 14 k))) := by show (if vPan N k then some _ else none) = _; rw [if_pos hk]
theorem kr_14 (hk : k < N 14) : GC z ad N X s 14 k = some (.inr (4, [.int (s 20 k 0), .int (s 21 k 0), .int (s 22 k 0), .int (s 23 k 0)])) := by show (if k < N 14 then some _ else none) = _; rw [if_pos hk]
theorem kr_15 (hk : k < N 15) : GC z ad N X s 15 k = some (.inr (5, [.int (s 30 k 0), .int (s 31 k 0), .int (s 32 k 0), va_rf ((ppan N s k).map (ad 12)), .int (s 34 k 0), .int (s 35 k 0)])) := by show (if k < N 15 then some _ else none) = _; rw [if_pos hk]
theorem kr_16 : GC z ad N X s 16 0 = some (.inl (z.2.2 0, 6, .inl (s 60 0))) := rfl
theorem kr_17 : GC z ad N X s 17 0 = some (.inl (z.2.2 0, 3, .inl (s 61 0))) := rfl
theorem kr_18 : GC z ad N X s 18 0 = some (.inl (z.2.2 0, 3, .inl (s 62 0))) := rfl
theorem kr_19 : GC z ad N X s 19 0 = some (.inl (z.2.2 0, 3, .inl (s 63 0))) := rfl
theorem kr_20 (hk : k < 16) : GC z ad N X s 20 k = some (.inl (z.2.2 0, 8, .inl (s 40 k))) := by show (if k < 16 then some _ else none) = _; rw [if_pos hk]
theorem kr_21 (hk : k < 2) : GC z ad N X s 21 k = some (.inl (z.2.2 0, 8, .inl (s 41 k))) := by show (if k < 2 then some _ else none) = _; rw [if_pos hk]
theorem gc_same {s' : St} {a b : Nat} (h : ∀ f k i, s' f k i = s f k i ∨ False) : GC z ad N X s' a b = GC z ad N X s a b := by
  have e : s' = s := funext fun f => funext fun k => funext fun i => (h f k i).elim id False.elim
  rw [e]
theorem sset_ne {f k i a b c : Nat} {v : Int32} (h : a ≠ f) : sset s f k i v a b c = s a b c := by simp [sset, h]
theorem sset_nk {f k i a b c : Nat} {v : Int32} (h : b ≠ k) : sset s f k i v a b c = s a b c := by simp [sset, h]
theorem sset_ni {f k i a b c : Nat} {v : Int32} (h : c ≠ i) : sset s f k i v a b c = s a b c := by simp [sset, h]
theorem sset_self {f k i : Nat} {v : Int32} : sset s f k i v f k i = v := by simp [sset]
theorem sset_fn {f k i a b : Nat} {v : Int32} (h : ¬ (a = f ∧ b = k)) : sset s f k i v a b = s a b := funext fun c => by simp only [sset]; rw [if_neg (fun q => h ⟨q.1, q.2.1⟩)]
theorem sset_up {f k i : Nat} {v : Int32} : sset s f k i v f k = upd (s f k) i v := funext fun c => by
  by_cases h : c = i
  · subst h; simp [sset, upd]
  · simp [sset, upd, h]
theorem ppan_ne {f k i b : Nat} {v : Int32} (h : ¬ (33 = f ∧ b = k)) : ppan N (sset s f k i v) b = ppan N s b := by unfold ppan; rw [sset_fn h]
/-- a number of an object changes: no cell but its own does -/
theorem gn_0 {a b : Nat} (h : ¬ (a = 0 ∧ b = 0)) : GC z ad N X (sset s 0 0 i v) a b = GC z ad N X s a b := by
  unfold GC
  split
  · simp only [sset_nk (show b ≠ 0 from fun q => h ⟨rfl, q⟩), sset_ne (show (1 : Nat) ≠ 0 by decide), sset_ne (show (2 : Nat) ≠ 0 by decide), sset_ne (show (3 : Nat) ≠ 0 by decide), sset_ne (show (4 : Nat) ≠ 0 by decide)]
  · rfl
  · rfl
  · rfl
  · simp only [sset_fn (show ¬ ((70 : Nat) = 0 ∧ b = 0) by simp)]
  · simp only [sset_ne (show (51 : Nat) ≠ 0 by decide), sset_ne (show (52 : Nat) ≠ 0 by decide), sset_ne (show (53 : Nat) ≠ 0 by decide)]
  · simp only [sset_ne (show (64 : Nat) ≠ 0 by decide), sset_ne (show (65 : Nat) ≠ 0 by decide), sset_ne (show (66 : Nat) ≠ 0 by decide)]
  · simp only [sset_fn (show ¬ ((50 : Nat) = 0 ∧ b = 0) by simp)]
  · simp only [sset_ne (show (43 : Nat) ≠ 0 by decide)]
  · simp only [sset_fn (show ¬ ((42 : Nat) = 0 ∧ b = 0) by simp)]
  · rfl
  · rfl
  · simp only [sset_ne (show (10 : Nat) ≠ 0 by decide), sset_ne (show (11 : Nat) ≠ 0 by decide), sset_ne (show (12 : Nat) ≠ 0 by decide), sset_ne (show (13 : Nat) ≠ 0 by decide)]
  · simp only [sset_fn (show ¬ ((14 : Nat) = 0 ∧ b = 0) by simp)]
  · simp only [sset_ne (show (20 : Nat) ≠ 0 by decide), sset_ne (show (21 : Nat) ≠ 0 by decide), sset_ne (show (22 : Nat) ≠ 0 by decide), sset_ne (show (23 : Nat) ≠ 0 by decide)]
  · simp only [sset_ne (show (30 : Nat) ≠ 0 by decide), sset_ne (show (31 : Nat) ≠ 0 by decide), sset_ne (show (32 : Nat) ≠ 0 by decide), sset_ne (show (34 : Nat) ≠ 0 by decide), sset_ne (show (35 : Nat) ≠ 0 by decide), ppan_ne (show ¬ (33 = 0 ∧ b = 0) by simp)]
  · simp only [sset_fn (show ¬ ((60 : Nat) = 0 ∧ b = 0) by simp)]
  · simp only [sset_fn (show ¬ ((61 : Nat) = 0 ∧ b = 0) by simp)]
  · simp only [sset_fn (show ¬ ((62 : Nat) = 0 ∧ b = 0) by simp)]
  · simp only [sset_fn (show ¬ ((63 : Nat) = 0 ∧ b = 0) by simp)]
  · simp only [sset_fn (show ¬ ((40 : Nat) = 0 ∧ b = 0) by simp)]
  · simp only [sset_fn (show ¬ ((41 : Nat) = 0 ∧ b = 0) by simp)]
  · rfl
theorem gn_1 {a b : Nat} (h : ¬ (a = 0 ∧ b = 0)) : GC z ad N X (sset s 1 0 i v) a b = GC z ad N X s a b := by
  unfold GC
  split
  · simp only [sset_ne (show (0 : Nat) ≠ 1 by decide), sset_nk (show b ≠ 0 from fun q => h ⟨rfl, q⟩), sset_ne (show (2 : Nat) ≠ 1 by decide), sset_ne (show (3 : Nat) ≠ 1 by decide), sset_ne (show (4 : Nat) ≠ 1 by decide)]
  · rfl
  · rfl
  · rfl
  · simp only [sset_fn (show ¬ ((70 : Nat) = 1 ∧ b = 0) by simp)]
  · simp only [sset_ne (show (51 : Nat) ≠ 1 by decide), sset_ne (show (52 : Nat) ≠ 1 by decide), sset_ne (show (53 : Nat) ≠ 1 by decide)]
  · simp only [sset_ne (show (64 : Nat) ≠ 1 by decide), sset_ne (show (65 : Nat) ≠ 1 by decide), sset_ne (show (66 : Nat) ≠ 1 by decide)]
  · simp only [sset_fn (show ¬ ((50 : Nat) = 1 ∧ b = 0) by simp)]
  · simp only [sset_ne (show (43 : Nat) ≠ 1 by decide)]
  · simp only [sset_fn (show ¬ ((42 : Nat) = 1 ∧ b = 0) by simp)]
  · rfl
  · rfl
  · simp only [sset_ne (show (10 : Nat) ≠ 1 by decide), sset_ne (show (11 : Nat) ≠ 1 by decide), sset_ne (show (12 : Nat) ≠ 1 by decide), sset_ne (show (13 : Nat) ≠ 1 by decide)]
  · simp only [sset_fn (show ¬ ((14 : Nat) = 1 ∧ b = 0) by simp)]
  · simp only [sset_ne (show (20 : Nat) ≠ 1 by decide), sset_ne (show (21 : Nat) ≠ 1 by decide), sset_ne (show (22 : Nat) ≠ 1 by decide), sset_ne (show (23 : Nat) ≠ 1 by decide)]
  · simp only [sset_ne (show (30 : Nat) ≠ 1 by decide), sset_ne (show (31 : Nat) ≠ 1 by decide), sset_ne (show (32 : Nat) ≠ 1 by decide), sset_ne (show (34 : Nat) ≠ 1 by decide), sset_ne (show (35 : Nat) ≠ 1 by decide), ppan_ne (show ¬ (33 = 1 ∧ b = 0) by simp)]
  · simp only [sset_fn (show ¬ ((60 : Nat) = 1 ∧ b = 0) by simp)]
  · simp only [sset_fn (show ¬ ((61 : Nat) = 1 ∧ b = 0) by simp)]
  · simp only [sset_fn (show ¬ ((62 : Nat) = 1 ∧ b = 0) by simp)]
  · simp only [sset_fn (show ¬ ((63 : Nat) = 1 ∧ b = 0) by simp)]
  · simp only [sset_fn (show ¬ ((40 : Nat) = 1 ∧ b = 0) by simp)]
  · simp only [sset_fn (show ¬ ((41 : Nat) = 1 ∧ b = 0) by simp)]
  · rfl
theorem gn_2 {a b : Nat} (h : ¬ (a = 0 ∧ b = 0)) : GC z ad N X (sset s 2 0 i v) a b = GC z ad N X s a b := by
  unfold GC
  split
  · simp only [sset_ne (show (0 : Nat) ≠ 2 by decide), sset_ne (show (1 : Nat) ≠ 2 by decide), sset_nk (show b ≠ 0 from fun q => h ⟨rfl, q⟩), sset_ne (show (3 : Nat) ≠ 2 by decide), sset_ne (show (4 : Nat) ≠ 2 by decide)]
  · rfl
  · rfl
  · rfl
  · simp only [sset_fn (show ¬ ((70 : Nat) = 2 ∧ b = 0) by simp)]
  · simp only [sset_ne (show (51 : Nat) ≠ 2 by decide), sset_ne (show (52 : Nat) ≠ 2 by decide), sset_ne (show (53 : Nat) ≠ 2 by decide)]
  · simp only [sset_ne (show (64 : Nat) ≠ 2 by decide), sset_ne (show (65 : Nat) ≠ 2 by decide), sset_ne (show (66 : Nat) ≠ 2 by decide)]
  · simp only [sset_fn (show ¬ ((50 : Nat) = 2 ∧ b = 0) by simp)]
  · simp only [sset_ne (show (43 : Nat) ≠ 2 by decide)]
  · simp only [sset_fn (show ¬ ((42 : Nat) = 2 ∧ b = 0) by simp)]
  · rfl
  · rfl
  · simp only [sset_ne (show (10 : Nat) ≠ 2 by decide), sset_ne (show (11 : Nat) ≠ 2 by decide), sset_ne (show (12 : Nat) ≠ 2 by decide), sset_ne (show (13 : Nat) ≠ 2 by decide)]
  · simp only [sset_fn (show ¬ ((14 : Nat) = 2 ∧ b = 0) by simp)]
  · simp only [sset_ne (show (20 : Nat) ≠ 2 by decide), sset_ne (show (21 : Nat) ≠ 2 by decide), sset_ne (show (22 : Nat) ≠ 2 by decide), sset_ne (show (23 : Nat) ≠ 2 by decide)]
  · simp only [sset_ne (show (30 : Nat) ≠ 2 by decide), sset_ne (show (31 : Nat) ≠ 2 by decide), sset_ne (show (32 : Nat) ≠ 2 by decide), sset_ne (show (34 : Nat) ≠ 2 by decide), sset_ne (show (35 : Nat) ≠ 2 by decide), ppan_ne (show ¬ (33 = 2 ∧ b = 0) by simp)]
  · simp only [sset_fn (show ¬ ((60 : Nat) = 2 ∧ b = 0) by simp)]
  · simp only [sset_fn (show ¬ ((61 : Nat) = 2 ∧ b = 0) by simp)]
  · simp only [sset_fn (show ¬ ((62 : Nat) = 2 ∧ b = 0) by simp)]
  · simp only [sset_fn (show ¬ ((63 : Nat) = 2 ∧ b = 0) by simp)]
  · simp only [sset_fn (show ¬ ((40 : Nat) = 2 ∧ b = 0) by simp)]
  · simp only [sset_fn (show ¬ ((41 : Nat) = 2 ∧ b = 0) by simp)]
  · rfl
theorem gn_3 {a b : Nat} (h : ¬ (a = 0 ∧ b = 0)) : GC z ad N X (sset s 3 0 i v) a b = GC z ad N X s a b := by
  unfold GC
  split
  · simp only [sset_ne (show (0 : Nat) ≠ 3 by decide), sset_ne (show (1 : Nat) ≠ 3 by decide), sset_ne (show (2 : Nat) ≠ 3 by decide), sset_nk (show b ≠ 0 from fun q => h ⟨rfl, q⟩), sset_ne (show (4 : Nat) ≠ 3 by decide)]
  · rfl
  · rfl
  · rfl
  · simp only [sset_fn (show ¬ ((70 : Nat) = 3 ∧ b = 0) by simp)]
  · simp only [sset_ne (show (51 : Nat) ≠ 3 by decide), sset_ne (show (52 : Nat) ≠ 3 by decide), sset_ne (show (53 : Nat) ≠ 3 by decide)]
  · simp only [sset_ne (show (64 : Nat) ≠ 3 by decide), sset_ne (show (65 : Nat) ≠ 3 by decide), sset_ne (show (66 : Nat) ≠ 3 by decide)]
  · simp only [sset_fn (show ¬ ((50 : Nat) = 3 ∧ b = 0) by simp)]
  · simp only [sset_ne (show (43 : Nat) ≠ 3 by decide)]
  · simp only [sset_fn (show ¬ ((42 : Nat) = 3 ∧ b = 0) by simp)]
  · rfl
  · rfl
  · simp only [sset_ne (show (10 : Nat) ≠ 3 by decide), sset_ne (show (11 : Nat) ≠ 3 by decide), sset_ne (show (12 : Nat) ≠ 3 by decide), sset_ne (show (13 : Nat) ≠ 3 by decide)]
  · simp only [sset_fn (show ¬ ((14 : Nat) = 3 ∧ b = 0) by simp)]
  · simp only [sset_ne (show (20 : Nat) ≠ 3 by decide), sset_ne (show (21 : Nat) ≠ 3 by decide), sset_ne (show (22 : Nat) ≠ 3 by decide), sset_ne (show (23 : Nat) ≠ 3 by decide)]
  · simp only [sset_ne (show (30 : Nat) ≠ 3 by decide), sset_ne (show (31 : Nat) ≠ 3 by decide), sset_ne (show (32 : Nat) ≠ 3 by decide), sset_ne (show (34 : Nat) ≠ 3 by decide), sset_ne (show (35 : Nat) ≠ 3 by decide), ppan_ne (show ¬ (33 = 3 ∧ b = 0) by simp)]
  · simp only [sset_fn (show ¬ ((60 : Nat) = 3 ∧ b = 0) by simp)]
  · simp only [sset_fn (show ¬ ((61 : Nat) = 3 ∧ b = 0) by simp)]
  · simp only [sset_fn (show ¬ ((62 : Nat) = 3 ∧ b = 0) by simp)]
  · simp only [sset_fn (show ¬ ((63 : Nat) = 3 ∧ b = 0) by simp)]
  · simp only [sset_fn (show ¬ ((40 : Nat) = 3 ∧ b = 0) by simp)]
  · simp only [sset_fn (show ¬ ((41 : Nat) = 3 ∧ b = 0) by simp)]
  · rfl
theorem gn_4 {a b : Nat} (h : ¬ (a = 0 ∧ b = 0)) : GC z ad N X (sset s 4 0 i v) a b = GC z ad N X s a b := by
  unfold GC
  split
  · simp only [sset_ne (show (0 : Nat) ≠ 4 by decide), sset_ne (show (1 : Nat) ≠ 4 by decide), sset_ne (show (2 : Nat) ≠ 4 by decide), sset_ne (show (3 : Nat) ≠ 4 by decide), sset_nk (show b ≠ 0 from fun q => h ⟨rfl, q⟩)]
  · rfl
  · rfl
  · rfl
  · simp only [sset_fn (show ¬ ((70 : Nat) = 4 ∧ b = 0) by simp)]
  · simp only [sset_ne (show (51 : Nat) ≠ 4 by decide), sset_ne (show (52 : Nat) ≠ 4 by decide), sset_ne (show (53 : Nat) ≠ 4 by decide)]
  · simp only [sset_ne (show (64 : Nat) ≠ 4 by decide), sset_ne (show (65 : Nat) ≠ 4 by decide), sset_ne (show (66 : Nat) ≠ 4 by decide)]
  · simp only [sset_fn (show ¬ ((50 : Nat) = 4 ∧ b = 0) by simp)]
  · simp only [sset_ne (show (43 : Nat) ≠ 4 by decide)]
  · simp only [sset_fn (show ¬ ((42 : Nat) = 4 ∧ b = 0) by simp)]
  · rfl
  · rfl
  · simp only [sset_ne (show (10 : Nat) ≠ 4 by decide), sset_ne (show (11 : Nat) ≠ 4 by decide), sset_ne (show (12 : Nat) ≠ 4 by decide), sset_ne (show (13 : Nat) ≠ 4 by decide)]
  · simp only [sset_fn (show ¬ ((14 : Nat) = 4 ∧ b = 0) by simp)]
  · simp only [sset_ne (show (20 : Nat) ≠ 4 by decide), sset_ne (show (21 : Nat) ≠ 4 by decide), sset_ne (show (22 : Nat) ≠ 4 by decide), sset_ne (show (23 : Nat) ≠ 4 by decide)]
  · simp only [sset_ne (show (30 : Nat) ≠ 4 by decide), sset_ne (show (31 : Nat) ≠ 4 by decide), sset_ne (show (32 : Nat) ≠ 4 by decide), sset_ne (show (34 : Nat) ≠ 4 by decide), sset_ne (show (35 : Nat) ≠ 4 by decide), ppan_ne (show ¬ (33 = 4 ∧ b = 0) by simp)]
  · simp only [sset_fn (show ¬ ((60 : Nat) = 4 ∧ b = 0) by simp)]
  · simp only [sset_fn (show ¬ ((61 : Nat) = 4 ∧ b = 0) by simp)]
  · simp only [sset_fn (show ¬ ((62 : Nat) = 4 ∧ b = 0) by simp)]
  · simp only [sset_fn (show ¬ ((63 : Nat) = 4 ∧ b = 0) by simp)]
  · simp only [sset_fn (show ¬ ((40 : Nat) = 4 ∧ b = 0) by simp)]
  · simp only [sset_fn (show ¬ ((41 : Nat) = 4 ∧ b = 0) by simp)]
  · rfl
theorem gn_10 {a b : Nat} (h : ¬ (a = 12 ∧ b = k)) : GC z ad N X (sset s 10 k i v) a b = GC z ad N X s a b := by
  unfold GC
  split
  · simp only [sset_ne (show (0 : Nat) ≠ 10 by decide), sset_ne (show (1 : Nat) ≠ 10 by decide), sset_ne (show (2 : Nat) ≠ 10 by decide), sset_ne (show (3 : Nat) ≠ 10 by decide), sset_ne (show (4 : Nat) ≠ 10 by decide)]
  · rfl
  · rfl
  · rfl
  · simp only [sset_fn (show ¬ ((70 : Nat) = 10 ∧ b = k) by simp)]
  · simp only [sset_ne (show (51 : Nat) ≠ 10 by decide), sset_ne (show (52 : Nat) ≠ 10 by decide), sset_ne (show (53 : Nat) ≠ 10 by decide)]
  · simp only [sset_ne (show (64 : Nat) ≠ 10 by decide), sset_ne (show (65 : Nat) ≠ 10 by decide), sset_ne (show (66 : Nat) ≠ 10 by decide)]
  · simp only [sset_fn (show ¬ ((50 : Nat) = 10 ∧ b = k) by simp)]
  · simp only [sset_ne (show (43 : Nat) ≠ 10 by decide)]
  · simp only [sset_fn (show ¬ ((42 : Nat) = 10 ∧ b = k) by simp)]
  · rfl
  · rfl
  · simp only [sset_nk (show b ≠ k from fun q => h ⟨rfl, q⟩), sset_ne (show (11 : Nat) ≠ 10 by decide), sset_ne (show (12 : Nat) ≠ 10 by decide), sset_ne (show (13 : Nat) ≠ 10 by decide)]
  · simp only [sset_fn (show ¬ ((14 : Nat) = 10 ∧ b = k) by simp)]
  · simp only [sset_ne (show (20 : Nat) ≠ 10 by decide), sset_ne (show (21 : Nat) ≠ 10 by decide), sset_ne (show (22 : Nat) ≠ 10 by decide), sset_ne (show (23 : Nat) ≠ 10 by decide)]
  · simp only [sset_ne (show (30 : Nat) ≠ 10 by decide), sset_ne (show (31 : Nat) ≠ 10 by decide), sset_ne (show (32 : Nat) ≠ 10 by decide), sset_ne (show (34 : Nat) ≠ 10 by decide), sset_ne (show (35 : Nat) ≠ 10 by decide), ppan_ne (show ¬ (33 = 10 ∧ b = k) by simp)]
  · simp only [sset_fn (show ¬ ((60 : Nat) = 10 ∧ b = k) by simp)]
  · simp only [sset_fn (show ¬ ((61 : Nat) = 10 ∧ b = k) by simp)]
  · simp only [sset_fn (show ¬ ((62 : Nat) = 10 ∧ b = k) by simp)]
  · simp only [sset_fn (show ¬ ((63 : Nat) = 10 ∧ b = k) by simp)]
  · simp only [sset_fn (show ¬ ((40 : Nat) = 10 ∧ b = k) by simp)]
  · simp only [sset_fn (show ¬ ((41 : Nat) = 10 ∧ b = k) by simp)]
  · rfl
theorem gn_11 {a b : Nat} (h : ¬ (a = 12 ∧ b = k)) : GC z ad N X (sset s 11 k i v) a b = GC z ad N X s a b := by
  unfold GC
  split
  · simp only [sset_ne (show (0 : Nat) ≠ 11 by decide), sset_ne (show (1 : Nat) ≠ 11 by decide), sset_ne (show (2 : Nat) ≠ 11 by decide), sset_ne (show (3 : Nat) ≠ 11 by decide), sset_ne (show (4 : Nat) ≠ 11 by decide)]
  · rfl
  · rfl
  · rfl
  · simp only [sset_fn (show ¬ ((70 : Nat) = 11 ∧ b = k) by simp)]
  · simp only [sset_ne (show (51 : Nat) ≠ 11 by decide), sset_ne (show (52 : Nat) ≠ 11 by decide), sset_ne (show (53 : Nat) ≠ 11 by decide)]
  · simp only [sset_ne (show (64 : Nat) ≠ 11 by decide), sset_ne (show (65 : Nat) ≠ 11 by decide), sset_ne (show (66 : Nat) ≠ 11 by decide)]
  · simp only [sset_fn (show ¬ ((50 : Nat) = 11 ∧ b = k) by simp)]
  · simp only [sset_ne (show (43 : Nat) ≠ 11 by decide)]
  · simp only [sset_fn (show ¬ ((42 : Nat) = 11 ∧ b = k) by simp)]
  · rfl
  · rfl
  · simp only [sset_ne (show (10 : Nat) ≠ 11 by decide), sset_nk (show b ≠ k from fun q => h ⟨rfl, q⟩), sset_ne (show (12 : Nat) ≠ 11 by decide), sset_ne (show (13 : Nat) ≠ 11 by decide)]
  · simp only [sset_fn (show ¬ ((14 : Nat) = 11 ∧ b = k) by simp)]
  · simp only [sset_ne (show (20 : Nat) ≠ 11 by decide), sset_ne (show (21 : Nat) ≠ 11 by decide), sset_ne (show (22 : Nat) ≠ 11 by decide), sset_ne (show (23 : Nat) ≠ 11 by decide)]
  · simp only [sset_ne (show (30 : Nat) ≠ 11 by decide), sset_ne (show (31 : Nat) ≠ 11 by decide), sset_ne (show (32 : Nat) ≠ 11 by decide), sset_ne (show (34 : Nat) ≠ 11 by decide), sset_ne (show (35 : Nat) ≠ 11 by decide), ppan_ne (show ¬ (33 = 11 ∧ b = k) by simp)]
  · simp only [sset_fn (show ¬ ((60 : Nat) = 11 ∧ b = k) by simp)]
  · simp only [sset_fn (show ¬ ((61 : Nat) = 11 ∧ b = k) by simp)]
  · simp only [sset_fn (show ¬ ((62 : Nat) = 11 ∧ b = k) by simp)]
  · simp only [sset_fn (show ¬ ((63 : Nat) = 11 ∧ b = k) by simp)]
  · simp only [sset_fn (show ¬ ((40 : Nat) = 11 ∧ b = k) by simp)]
  · simp only [sset_fn (show ¬ ((41 : Nat) = 11 ∧ b = k) by simp)]
  · rfl
theorem gn_12 {a b : Nat} (h : ¬ (a = 12 ∧ b = k)) : GC z ad N X (sset s 12 k i v) a b = GC z ad N X s a b := by
  unfold GC
  split
  · simp only [sset_ne (show (0 : Nat) ≠ 12 by decide), sset_ne (show (1 : Nat) ≠ 12 by decide), sset_ne (show (2 : Nat) ≠ 12 by decide), sset_ne (show (3 : Nat) ≠ 12 by decide), sset_ne (show (4 : Nat) ≠ 12 by decide)]
  · rfl
  · rfl
  · rfl
  · simp only [sset_fn (show ¬ ((70 : Nat) = 12 ∧ b = k) by simp)]
  · simp only [sset_ne (show (51 : Nat) ≠ 12 by decide), sset_ne (show (52 : Nat) ≠ 12 by decide), sset_ne (show (53 : Nat) ≠ 12 by decide)]
  · simp only [sset_ne (show (64 : Nat) ≠ 12 by decide), sset_ne (show (65 : Nat) ≠ 12 by decide), sset_ne (show (66 : Nat) ≠ 12 by decide)]
  · simp only [sset_fn (show ¬ ((50 : Nat) = 12 ∧ b = k) by simp)]
  · simp only [sset_ne (show (43 : Nat) ≠ 12 by decide)]
  · simp only [sset_fn (show ¬ ((42 : Nat) = 12 ∧ b = k) by simp)]
  · rfl
  · rfl
  · simp only [sset_ne (show (10 : Nat) ≠ 12 by decide), sset_ne (show (11 : Nat) ≠ 12 by decide), sset_nk (show b ≠ k from fun q => h ⟨rfl, q⟩), sset_ne (show (13 : Nat) ≠ 12 by decide)]
  · simp only [sset_fn (show ¬ ((14 : Nat) = 12 ∧ b = k) by simp)]
  · simp only [sset_ne (show (20 : Nat) ≠ 12 by decide), sset_ne (show (21 : Nat) ≠ 12 by decide), sset_ne (show (22 : Nat) ≠ 12 by decide), sset_ne (show (23 : Nat) ≠ 12 by decide)]
  · simp only [sset_ne (show (30 : Nat) ≠ 12 by decide), sset_ne (show (31 : Nat) ≠ 12 by decide), sset_ne (show (32 : Nat) ≠ 12 by decide), sset_ne (show (34 : Nat) ≠ 12 by decide), sset_ne (show (35 : Nat) ≠ 12 by decide), ppan_ne (show ¬ (33 = 12 ∧ b = k) by simp)]
  · simp only [sset_fn (show ¬ ((60 : Nat) = 12 ∧ b = k) by simp)]
  · simp only [sset_fn (show ¬ ((61 : Nat) = 12 ∧ b = k) by simp)]
  · simp only [sset_fn (show ¬ ((62 : Nat) = 12 ∧ b = k) by simp)]
  · simp only [sset_fn (show ¬ ((63 : Nat) = 12 ∧ b = k) by simp)]
  · simp only [sset_fn (show ¬ ((40 : Nat) = 12 ∧ b = k) by simp)]
  · simp only [sset_fn (show ¬ ((41 : Nat) = 12 ∧ b = k) by simp)]
  · rfl
theorem gn_13 {a b : Nat} (h : ¬ (a = 12 ∧ b = k)) : GC z ad N X (sset s 13 k i v) a b = GC z ad N X s a b := by
  unfold GC
  split
  · simp only [sset_ne (show (0 : Nat) ≠ 13 by decide), sset_ne (show (1 : Nat) ≠ 13 by decide), sset_ne (show (2 : Nat) ≠ 13 by decide), sset_ne (show (3 : Nat) ≠ 13 by decide), sset_ne (show (4 : Nat) ≠ 13 by decide)]
  · rfl
  · rfl
  · rfl
  · simp only [sset_fn (show ¬ ((70 : Nat) = 13 ∧ b = k) by simp)]
  · simp only [sset_ne (show (51 : Nat) ≠ 13 by decide), sset_ne (show (52 : Nat) ≠ 13 by decide), sset_ne (show (53 : Nat) ≠ 13 by decide)]
  · simp only [sset_ne (show (64 : Nat) ≠ 13 by decide), sset_ne (show (65 : Nat) ≠ 13 by decide), sset_ne (show (66 : Nat) ≠ 13 by decide)]
  · simp only [sset_fn (show ¬ ((50 : Nat) = 13 ∧ b = k) by simp)]
  · simp only [sset_ne (show (43 : Nat) ≠ 13 by decide)]
  · simp only [sset_fn (show ¬ ((42 : Nat) = 13 ∧ b = k) by simp)]
  · rfl
  · rfl
  · simp only [sset_ne (show (10 : Nat) ≠ 13 by decide), sset_ne (show (11 : Nat) ≠ 13 by decide), sset_ne (show (12 : Nat) ≠ 13 by decide), sset_nk (show b ≠ k from fun q => h ⟨rfl, q⟩)]
  · simp only [sset_fn (show ¬ ((14 : Nat) = 13 ∧ b = k) by simp)]
  · simp only [sset_ne (show (20 : Nat) ≠ 13 by decide), sset_ne (show (21 : Nat) ≠ 13 by decide), sset_ne (show (22 : Nat) ≠ 13 by decide), sset_ne (show (23 : Nat) ≠ 13 by decide)]
  · simp only [sset_ne (show (30 : Nat) ≠ 13 by decide), sset_ne (show (31 : Nat) ≠ 13 by decide), sset_ne (show (32 : Nat) ≠ 13 by decide), sset_ne (show (34 : Nat) ≠ 13 by decide), sset_ne (show (35 : Nat) ≠ 13 by decide), ppan_ne (show ¬ (33 = 13 ∧ b = k) by simp)]
  · simp only [sset_fn (show ¬ ((60 : Nat) = 13 ∧ b = k) by simp)]
  · simp only [sset_fn (show ¬ ((61 : Nat) = 13 ∧ b = k) by simp)]
  · simp only [sset_fn (show ¬ ((62 : Nat) = 13 ∧ b = k) by simp)]
  · simp only [sset_fn (show ¬ ((63 : Nat) = 13 ∧ b = k) by simp)]
  · simp only [sset_fn (show ¬ ((40 : Nat) = 13 ∧ b = k) by simp)]
  · simp only [sset_fn (show ¬ ((41 : Nat) = 13 ∧ b = k) by simp)]
  · rfl
theorem gn_14 {a b : Nat} (h : ¬ (a = 13 ∧ b = k)) : GC z ad N X (sset s 14 k i v) a b = GC z ad N X s a b := by
  unfold GC
  split
  · simp only [sset_ne (show (0 : Nat) ≠ 14 by decide), sset_ne (show (1 : Nat) ≠ 14 by decide), sset_ne (show (2 : Nat) ≠ 14 by decide), sset_ne (show (3 : Nat) ≠ 14 by decide), sset_ne (show (4 : Nat) ≠ 14 by decide)]
  · rfl
  · rfl
  · rfl
  · simp only [sset_fn (show ¬ ((70 : Nat) = 14 ∧ b = k) by simp)]
  · simp only [sset_ne (show (51 : Nat) ≠ 14 by decide), sset_ne (show (52 : Nat) ≠ 14 by decide), sset_ne (show (53 : Nat) ≠ 14 by decide)]
  · simp only [sset_ne (show (64 : Nat) ≠ 14 by decide), sset_ne (show (65 : Nat) ≠ 14 by decide), sset_ne (show (66 : Nat) ≠ 14 by decide)]
  · simp only [sset_fn (show ¬ ((50 : Nat) = 14 ∧ b = k) by simp)]
  · simp only [sset_ne (show (43 : Nat) ≠ 14 by decide)]
  · simp only [sset_fn (show ¬ ((42 : Nat) = 14 ∧ b = k) by simp)]
  · rfl
  · rfl
  · simp only [sset_ne (show (10 : Nat) ≠ 14 by decide), sset_ne (show (11 : Nat) ≠ 14 by decide), sset_ne (show (12 : Nat) ≠ 14 by decide), sset_ne (show (13 : Nat) ≠ 14 by decide)]
  · simp only [sset_fn (show ¬ (14 = 14 ∧ b = k) from fun q => h ⟨rfl, q.2⟩)]
  · simp only [sset_ne (show (20 : Nat) ≠ 14 by decide), sset_ne (show (21 : Nat) ≠ 14 by decide), sset_ne (show (22 : Nat) ≠ 14 by decide), sset_ne (show (23 : Nat) ≠ 14 by decide)]
  · simp only [sset_ne (show (30 : Nat) ≠ 14 by decide), sset_ne (show (31 : Nat) ≠ 14 by decide), sset_ne (show (32 : Nat) ≠ 14 by decide), sset_ne (show (34 : Nat) ≠ 14 by decide), sset_ne (show (35 : Nat) ≠ 14 by decide), ppan_ne (show ¬ (33 = 14 ∧ b = k) by simp)]
  · simp only [sset_fn (show ¬ ((60 : Nat) = 14 ∧ b = k) by simp)]
  · simp only [sset_fn (show ¬ ((61 : Nat) = 14 ∧ b = k) by simp)]
  · simp only [sset_fn (show ¬ ((62 : Nat) = 14 ∧ b = k) by simp)]
  · simp only [sset_fn (show ¬ ((63 : Nat) = 14 ∧ b = k) by simp)]
  · simp only [sset_fn (show ¬ ((40 : Nat) = 14 ∧ b = k) by simp)]
  · simp only [sset_fn (show ¬ ((41 : Nat) = 14 ∧ b = k) by simp)]
  · rfl
theorem gn_20 {a b : Nat} (h : ¬ (a = 14 ∧ b = k)) : GC z ad N X (sset s 20 k i v) a b = GC z ad N X s a b := by
  unfold GC
  split
  · simp only [sset_ne (show (0 : Nat) ≠ 20 by decide), sset_ne (show (1 : Nat) ≠ 20 by decide), sset_ne (show (2 : Nat) ≠ 20 by decide), sset_ne (show (3 : Nat) ≠ 20 by decide), sset_ne (show (4 : Nat) ≠ 20 by decide)]
  · rfl
  · rfl
  · rfl
  · simp only [sset_fn (show ¬ ((70 : Nat) = 20 ∧ b = k) by simp)]
  · simp only [sset_ne (show (51 : Nat) ≠ 20 by decide), sset_ne (show (52 : Nat) ≠ 20 by decide), sset_ne (show (53 : Nat) ≠ 20 by decide)]
  · simp only [sset_ne (show (64 : Nat) ≠ 20 by decide), sset_ne (show (65 : Nat) ≠ 20 by decide), sset_ne (show (66 : Nat) ≠ 20 by decide)]
  · simp only [sset_fn (show ¬ ((50 : Nat) = 20 ∧ b = k) by simp)]
  · simp only [sset_ne (show (43 : Nat) ≠ 20 by decide)]
  · simp only [sset_fn (show ¬ ((42 : Nat) = 20 ∧ b = k) by simp)]
  · rfl
  · rfl
  · simp only [sset_ne (show (10 : Nat) ≠ 20 by decide), sset_ne (show (11 : Nat) ≠ 20 by decide), sset_ne (show (12 : Nat) ≠ 20 by decide), sset_ne (show (13 : Nat) ≠ 20 by decide)]
  · simp only [sset_fn (show ¬ ((14 : Nat) = 20 ∧ b = k) by simp)]
  · simp only [sset_nk (show b ≠ k from fun q => h ⟨rfl, q⟩), sset_ne (show (21 : Nat) ≠ 20 by decide), sset_ne (show (22 : Nat) ≠ 20 by decide), sset_ne (show (23 : Nat) ≠ 20 by decide)]
  · simp only [sset_ne (show (30 : Nat) ≠ 20 by decide), sset_ne (show (31 : Nat) ≠ 20 by decide), sset_ne (show (32 : Nat) ≠ 20 by decide), sset_ne (show (34 : Nat) ≠ 20 by decide), sset_ne (show (35 : Nat) ≠ 20 by decide), ppan_ne (show ¬ (33 = 20 ∧ b = k) by simp)]
  · simp only [sset_fn (show ¬ ((60 : Nat) = 20 ∧ b = k) by simp)]
  · simp only [sset_fn (show ¬ ((61 : Nat) = 20 ∧ b = k) by simp)]
  · simp only [sset_fn (show ¬ ((62 : Nat) = 20 ∧ b = k) by simp)]
  · simp only [sset_fn (show ¬ ((63 : Nat) = 20 ∧ b = k) by simp)]
  · simp only [sset_fn (show ¬ ((40 : Nat) = 20 ∧ b = k) by simp)]
  · simp only [sset_fn (show ¬ ((41 : Nat) = 20 ∧ b = k) by simp)]
  · rfl
theorem gn_21 {a b : Nat} (h : ¬ (a = 14 ∧ b = k)) : GC z ad N X (sset s 21 k i v) a b = GC z ad N X s a b := by
  unfold GC
  split
  · simp only [sset_ne (show (0 : Nat) ≠ 21 by decide), sset_ne (show (1 : Nat) ≠ 21 by decide), sset_ne (show (2 : Nat) ≠ 21 by decide), sset_ne (show (3 : Nat) ≠ 21 by decide), sset_ne (show (4 : Nat) ≠ 21 by decide)]
  · rfl
  · rfl
  · rfl
  · simp only [sset_fn (show ¬ ((70 : Nat) = 21 ∧ b = k) by simp)]
  · simp only [sset_ne (show (51 : Nat) ≠ 21 by decide), sset_ne (show (52 : Nat) ≠ 21 by decide), sset_ne (show (53 : Nat) ≠ 21 by decide)]
  · simp only [sset_ne (show (64 : Nat) ≠ 21 by decide), sset_ne (show (65 : Nat) ≠ 21 by decide), sset_ne (show (66 : Nat) ≠ 21 by decide)]
  · simp only [sset_fn (show ¬ ((50 : Nat) = 21 ∧ b = k) by simp)]
  · simp only [sset_ne (show (43 : Nat) ≠ 21 by decide)]
  · simp only [sset_fn (show ¬ ((42 : Nat) = 21 ∧ b = k) by simp)]
  · rfl
  · rfl
  · simp only [sset_ne (show (10 : Nat) ≠ 21 by decide), sset_ne (show (11 : Nat) ≠ 21 by decide), sset_ne (show (12 : Nat) ≠ 21 by decide), sset_ne (show (13 : Nat) ≠ 21 by decide)]
  · simp only [sset_fn (show ¬ ((14 : Nat) = 21 ∧ b = k) by simp)]
  · simp only [sset_ne (show (20 : Nat) ≠ 21 by decide), sset_nk (show b ≠ k from fun q => h ⟨rfl, q⟩), sset_ne (show (22 : Nat) ≠ 21 by decide), sset_ne (show (23 : Nat) ≠ 21 by decide)]
  · simp only [sset_ne (show (30 : Nat) ≠ 21 by decide), sset_ne (show (31 : Nat) ≠ 21 by decide), sset_ne (show (32 : Nat) ≠ 21 by decide), sset_ne (show (34 : Nat) ≠ 21 by decide), sset_ne (show (35 : Nat) ≠ 21 by decide), ppan_ne (show ¬ (33 = 21 ∧ b = k) by simp)]
  · simp only [sset_fn (show ¬ ((60 : Nat) = 21 ∧ b = k) by simp)]
  · simp only [sset_fn (show ¬ ((61 : Nat) = 21 ∧ b = k) by simp)]
  · simp only [sset_fn (show ¬ ((62 : Nat) = 21 ∧ b = k) by simp)]
  · simp only [sset_fn (show ¬ ((63 : Nat) = 21 ∧ b = k) by simp)]
  · simp only [sset_fn (show ¬ ((40 : Nat) = 21 ∧ b = k) by simp)]
  · simp only [sset_fn (show ¬ ((41 : Nat) = 21 ∧ b = k) by simp)]
  · rfl
theorem gn_22 {a b : Nat} (h : ¬ (a = 14 ∧ b = k)) : GC z ad N X (sset s 22 k i v) a b = GC z ad N X s a b := by
  unfold GC
  split
  · simp only [sset_ne (show (0 : Nat) ≠ 22 by decide), sset_ne (show (1 : Nat) ≠ 22 by decide), sset_ne (show (2 : Nat) ≠ 22 by decide), sset_ne (show (3 : Nat) ≠ 22 by decide), sset_ne (show (4 : Nat) ≠ 22 by decide)]
  · rfl
  · rfl
  · rfl
  · simp only [sset_fn (show ¬ ((70 : Nat) = 22 ∧ b = k) by simp)]
  · simp only [sset_ne (show (51 : Nat) ≠ 22 by decide), sset_ne (show (52 : Nat) ≠ 22 by decide), sset_ne (show (53 : Nat) ≠ 22 by decide)]
  · simp only [sset_ne (show (64 : Nat) ≠ 22 by decide), sset_ne (show (65 : Nat) ≠ 22 by decide), sset_ne (show (66 : Nat) ≠ 22 by decide)]
  · simp only [sset_fn (show ¬ ((50 : Nat) = 22 ∧ b = k) by simp)]
  · simp only [sset_ne (show (43 : Nat) ≠ 22 by decide)]
  · simp only [sset_fn (show ¬ ((42 : Nat) = 22 ∧ b = k) by simp)]
  · rfl
  · rfl
  · simp only [sset_ne (show (10 : Nat) ≠ 22 by decide), sset_ne (show (11 : Nat) ≠ 22 by decide), sset_ne (show (12 : Nat) ≠ 22 by decide), sset_ne (show (13 : Nat) ≠ 22 by decide)]
  · simp only [sset_fn (show ¬ ((14 : Nat) = 22 ∧ b = k) by simp)]
  · simp only [sset_ne (show (20 : Nat) ≠ 22 by decide), sset_ne (show (21 : Nat) ≠ 22 by decide), sset_nk (show b ≠ k from fun q => h ⟨rfl, q⟩), sset_ne (show (23 : Nat) ≠ 22 by decide)]
  · simp only [sset_ne (show (30 : Nat) ≠ 22 by decide), sset_ne (show (31 : Nat) ≠ 22 by decide), sset_ne (show (32 : Nat) ≠ 22 by decide), sset_ne (show (34 : Nat) ≠ 22 by decide), sset_ne (show (35 : Nat) ≠ 22 by decide), ppan_ne (show ¬ (33 = 22 ∧ b = k) by simp)]
  · simp only [sset_fn (show ¬ ((60 : Nat) = 22 ∧ b = k) by simp)]
  · simp only [sset_fn (show ¬ ((61 : Nat) = 22 ∧ b = k) by simp)]
  · simp only [sset_fn (show ¬ ((62 : Nat) = 22 ∧ b = k) by simp)]
  · simp only [sset_fn (show ¬ ((63 : Nat) = 22 ∧ b = k) by simp)]
  · simp only [sset_fn (show ¬ ((40 : Nat) = 22 ∧ b = k) by simp)]
  · simp only [sset_fn (show ¬ ((41 : Nat) = 22 ∧ b = k) by simp)]
  · rfl
theorem gn_23 {a b : Nat} (h : ¬ (a = 14 ∧ b = k)) : GC z ad N X (sset s 23 k i v) a b = GC z ad N X s a b := by
  unfold GC
  split
  · simp only [sset_ne (show (0 : Nat) ≠ 23 by decide), sset_ne (show (1 : Nat) ≠ 23 by decide), sset_ne (show (2 : Nat) ≠ 23 by decide), sset_ne (show (3 : Nat) ≠ 23 by decide), sset_ne (show (4 : Nat) ≠ 23 by decide)]
  · rfl
  · rfl
  · rfl
  · simp only [sset_fn (show ¬ ((70 : Nat) = 23 ∧ b = k) by simp)]
  · simp only [sset_ne (show (51 : Nat) ≠ 23 by decide), sset_ne (show (52 : Nat) ≠ 23 by decide), sset_ne (show (53 : Nat) ≠ 23 by decide)]
  · simp only [sset_ne (show (64 : Nat) ≠ 23 by decide), sset_ne (show (65 : Nat) ≠ 23 by decide), sset_ne (show (66 : Nat) ≠ 23 by decide)]
  · simp only [sset_fn (show ¬ ((50 : Nat) = 23 ∧ b = k) by simp)]
  · simp only [sset_ne (show (43 : Nat) ≠ 23 by decide)]
  · simp only [sset_fn (show ¬ ((42 : Nat) = 23 ∧ b = k) by simp)]
  · rfl
  · rfl
  · simp only [sset_ne (show (10 : Nat) ≠ 23 by decide), sset_ne (show (11 : Nat) ≠ 23 by decide), sset_ne (show (12 : Nat) ≠ 23 by decide), sset_ne (show (13 : Nat) ≠ 23 by decide)]
  · simp only [sset_fn (show ¬ ((14 : Nat) = 23 ∧ b = k) by simp)]
  · simp only [sset_ne (show (20 : Nat) ≠ 23 by decide), sset_ne (show (21 : Nat) ≠ 23 by decide), sset_ne (show (22 : Nat) ≠ 23 by decide), sset_nk (show b ≠ k from fun q => h ⟨rfl, q⟩)]
  · simp only [sset_ne (show (30 : Nat) ≠ 23 by decide), sset_ne (show (31 : Nat) ≠ 23 by decide), sset_ne (show (32 : Nat) ≠ 23 by decide), sset_ne (show (34 : Nat) ≠ 23 by decide), sset_ne (show (35 : Nat) ≠ 23 by decide), ppan_ne (show ¬ (33 = 23 ∧ b = k) by simp)]
  · simp only [sset_fn (show ¬ ((60 : Nat) = 23 ∧ b = k) by simp)]
  · simp only [sset_fn (show ¬ ((61 : Nat) = 23 ∧ b = k) by simp)]
  · simp only [sset_fn (show ¬ ((62 : Nat) = 23 ∧ b = k) by simp)]
  · simp only [sset_fn (show ¬ ((63 : Nat) = 23 ∧ b = k) by simp)]
  · simp only [sset_fn (show ¬ ((40 : Nat) = 23 ∧ b = k) by simp)]
  · simp only [sset_fn (show ¬ ((41 : Nat) = 23 ∧ b = k) by simp)]
  · rfl
theorem gn_30 {a b : Nat} (h : ¬ (a = 15 ∧ b = k)) : GC z ad N X (sset s 30 k i v) a b = GC z ad N X s a b := by
  unfold GC
  split
  · simp only [sset_ne (show (0 : Nat) ≠ 30 by decide), sset_ne (show (1 : Nat) ≠ 30 by decide), sset_ne (show (2 : Nat) ≠ 30 by decide), sset_ne (show (3 : Nat) ≠ 30 by decide), sset_ne (show (4 : Nat) ≠ 30 by decide)]
  · rfl
  · rfl
  · rfl
  · simp only [sset_fn (show ¬ ((70 : Nat) = 30 ∧ b = k) by simp)]
  · simp only [sset_ne (show (51 : Nat) ≠ 30 by decide), sset_ne (show (52 : Nat) ≠ 30 by decide), sset_ne (show (53 : Nat) ≠ 30 by decide)]
  · simp only [sset_ne (show (64 : Nat) ≠ 30 by decide), sset_ne (show (65 : Nat) ≠ 30 by decide), sset_ne (show (66 : Nat) ≠ 30 by decide)]
  · simp only [sset_fn (show ¬ ((50 : Nat) = 30 ∧ b = k) by simp)]
  · simp only [sset_ne (show (43 : Nat) ≠ 30 by decide)]
  · simp only [sset_fn (show ¬ ((42 : Nat) = 30 ∧ b = k) by simp)]
  · rfl
  · rfl
  · simp only [sset_ne (show (10 : Nat) ≠ 30 by decide), sset_ne (show (11 : Nat) ≠ 30 by decide), sset_ne (show (12 : Nat) ≠ 30 by decide), sset_ne (show (13 : Nat) ≠ 30 by decide)]
  · simp only [sset_fn (show ¬ ((14 : Nat) = 30 ∧ b = k) by simp)]
  · simp only [sset_ne (show (20 : Nat) ≠ 30 by decide), sset_ne (show (21 : Nat) ≠ 30 by decide), sset_ne (show (22 : Nat) ≠ 30 by decide), sset_ne (show (23 : Nat) ≠ 30 by decide)]
  · simp only [sset_nk (show b ≠ k from fun q => h ⟨rfl, q⟩), sset_ne (show (31 : Nat) ≠ 30 by decide), sset_ne (show (32 : Nat) ≠ 30 by decide), sset_ne (show (34 : Nat) ≠ 30 by decide), sset_ne (show (35 : Nat) ≠ 30 by decide), ppan_ne (show ¬ (33 = 30 ∧ b = k) by simp)]
  · simp only [sset_fn (show ¬ ((60 : Nat) = 30 ∧ b = k) by simp)]
  · simp only [sset_fn (show ¬ ((61 : Nat) = 30 ∧ b = k) by simp)]
  · simp only [sset_fn (show ¬ ((62 : Nat) = 30 ∧ b = k) by simp)]
  · simp only [sset_fn (show ¬ ((63 : Nat) = 30 ∧ b = k) by simp)]
  · simp only [sset_fn (show ¬ ((40 : Nat) = 30 ∧ b = k) by simp)]
  · simp only [sset_fn (show ¬ ((41 : Nat) = 30 ∧ b = k) by simp)]
  · rfl
theorem gn_31 {a b : Nat} (h : ¬ (a = 15 ∧ b = k)) : GC z ad N X (sset s 31 k i v) a b = GC z ad N X s a b := by
  unfold GC
  split
  · simp only [sset_ne (show (0 : Nat) ≠ 31 by decide), sset_ne (show (1 : Nat) ≠ 31 by decide), sset_ne (show (2 : Nat) ≠ 31 by decide), sset_ne (show (3 : Nat) ≠ 31 by decide), sset_ne (show (4 : Nat) ≠ 31 by decide)]
  · rfl
  · rfl
  · rfl
  · simp only [sset_fn (show ¬ ((70 : Nat) = 31 ∧ b = k) by simp)]
  · simp only [sset_ne (show (51 : Nat) ≠ 31 by decide), sset_ne (show (52 : Nat) ≠ 31 by decide), sset_ne (show (53 : Nat) ≠ 31 by decide)]
  · simp only [sset_ne (show (64 : Nat) ≠ 31 by decide), sset_ne (show (65 : Nat) ≠ 31 by decide), sset_ne (show (66 : Nat) ≠ 31 by decide)]
  · simp only [sset_fn (show ¬ ((50 : Nat) = 31 ∧ b = k) by simp)]
  · simp only [sset_ne (show (43 : Nat) ≠ 31 by decide)]
  · simp only [sset_fn (show ¬ ((42 : Nat) = 31 ∧ b = k) by simp)]
  · rfl
  · rfl
  · simp only [sset_ne (show (10 : Nat) ≠ 31 by decide), sset_ne (show (11 : Nat) ≠ 31 by decide), sset_ne (show (12 : Nat) ≠ 31 by decide), sset_ne (show (13 : Nat) ≠ 31 by decide)]
  · simp only [sset_fn (show ¬ ((14 : Nat) = 31 ∧ b = k) by simp)]
  · simp only [sset_ne (show (20 : Nat) ≠ 31 by decide), sset_ne (show (21 : Nat) ≠ 31 by decide), sset_ne (show (22 : Nat) ≠ 31 by decide), sset_ne (show (23 : Nat) ≠ 31 by decide)]
  · simp only [sset_ne (show (30 : Nat) ≠ 31 by decide), sset_nk (show b ≠ k from fun q => h ⟨rfl, q⟩), sset_ne (show (32 : Nat) ≠ 31 by decide), sset_ne (show (34 : Nat) ≠ 31 by decide), sset_ne (show (35 : Nat) ≠ 31 by decide), ppan_ne (show ¬ (33 = 31 ∧ b = k) by simp)]
  · simp only [sset_fn (show ¬ ((60 : Nat) = 31 ∧ b = k) by simp)]
  · simp only [sset_fn (show ¬ ((61 : Nat) = 31 ∧ b = k) by simp)]
  · simp only [sset_fn (show ¬ ((62 : Nat) = 31 ∧ b = k) by simp)]
  · simp only [sset_fn (show ¬ ((63 : Nat) = 31 ∧ b = k) by simp)]
  · simp only [sset_fn (show ¬ ((40 : Nat) = 31 ∧ b = k) by simp)]
  · simp only [sset_fn (show ¬ ((41 : Nat) = 31 ∧ b = k) by simp)]
  · rfl
theorem gn_32 {a b : Nat} (h : ¬ (a = 15 ∧ b = k)) : GC z ad N X (sset s 32 k i v) a b = GC z ad N X s a b := by
  unfold GC
  split
  · simp only [sset_ne (show (0 : Nat) ≠ 32 by decide), sset_ne (show (1 : Nat) ≠ 32 by decide), sset_ne (show (2 : Nat) ≠ 32 by decide), sset_ne (show (3 : Nat) ≠ 32 by decide), sset_ne (show (4 : Nat) ≠ 32 by decide)]
  · rfl
  · rfl
  · rfl
  · simp only [sset_fn (show ¬ ((70 : Nat) = 32 ∧ b = k) by simp)]
  · simp only [sset_ne (show (51 : Nat) ≠ 32 by decide), sset_ne (show (52 : Nat) ≠ 32 by decide), sset_ne (show (53 : Nat) ≠ 32 by decide)]
  · simp only [sset_ne (show (64 : Nat) ≠ 32 by decide), sset_ne (show (65 : Nat) ≠ 32 by decide), sset_ne (show (66 : Nat) ≠ 32 by decide)]
  · simp only [sset_fn (show ¬ ((50 : Nat) = 32 ∧ b = k) by simp)]
  · simp only [sset_ne (show (43 : Nat) ≠ 32 by decide)]
  · simp only [sset_fn (show ¬ ((42 : Nat) = 32 ∧ b = k) by simp)]
  · rfl
  · rfl
  · simp only [sset_ne (show (10 : Nat) ≠ 32 by decide), sset_ne (show (11 : Nat) ≠ 32 by decide), sset_ne (show (12 : Nat) ≠ 32 by decide), sset_ne (show (13 : Nat) ≠ 32 by decide)]
  · simp only [sset_fn (show ¬ ((14 : Nat) = 32 ∧ b = k) by simp)]
  · simp only [sset_ne (show (20 : Nat) ≠ 32 by decide), sset_ne (show (21 : Nat) ≠ 32 by decide), sset_ne (show (22 : Nat) ≠ 32 by decide), sset_ne (show (23 : Nat) ≠ 32 by decide)]
  · simp only [sset_ne (show (30 : Nat) ≠ 32 by decide), sset_ne (show (31 : Nat) ≠ 32 by decide), sset_nk (show b ≠ k from fun q => h ⟨rfl, q⟩), sset_ne (show (34 : Nat) ≠ 32 by decide), sset_ne (show (35 : Nat) ≠ 32 by decide), ppan_ne (show ¬ (33 = 32 ∧ b = k) by simp)]
  · simp only [sset_fn (show ¬ ((60 : Nat) = 32 ∧ b = k) by simp)]
  · simp only [sset_fn (show ¬ ((61 : Nat) = 32 ∧ b = k) by simp)]
  · simp only [sset_fn (show ¬ ((62 : Nat) = 32 ∧ b = k) by simp)]
  · simp only [sset_fn (show ¬ ((63 : Nat) = 32 ∧ b = k) by simp)]
  · simp only [sset_fn (show ¬ ((40 : Nat) = 32 ∧ b = k) by simp)]
  · simp only [sset_fn (show ¬ ((41 : Nat) = 32 ∧ b = k) by simp)]
  · rfl
theorem gn_34 {a b : Nat} (h : ¬ (a = 15 ∧ b = k)) : GC z ad N X (sset s 34 k i v) a b = GC z ad N X s a b := by
  unfold GC
  split
  · simp only [sset_ne (show (0 : Nat) ≠ 34 by decide), sset_ne (show (1 : Nat) ≠ 34 by decide), sset_ne (show (2 : Nat) ≠ 34 by decide), sset_ne (show (3 : Nat) ≠ 34 by decide), sset_ne (show (4 : Nat) ≠ 34 by decide)]
  · rfl
  · rfl
  · rfl
  · simp only [sset_fn (show ¬ ((70 : Nat) = 34 ∧ b = k) by simp)]
  · simp only [sset_ne (show (51 : Nat) ≠ 34 by decide), sset_ne (show (52 : Nat) ≠ 34 by decide), sset_ne (show (53 : Nat) ≠ 34 by decide)]
  · simp only [sset_ne (show (64 : Nat) ≠ 34 by decide), sset_ne (show (65 : Nat) ≠ 34 by decide), sset_ne (show (66 : Nat) ≠ 34 by decide)]
  · simp only [sset_fn (show ¬ ((50 : Nat) = 34 ∧ b = k) by simp)]
  · simp only [sset_ne (show (43 : Nat) ≠ 34 by decide)]
  · simp only [sset_fn (show ¬ ((42 : Nat) = 34 ∧ b = k) by simp)]
  · rfl
  · rfl
  · simp only [sset_ne (show (10 : Nat) ≠ 34 by decide), sset_ne (show (11 : Nat) ≠ 34 by decide), sset_ne (show (12 : Nat) ≠ 34 by decide), sset_ne (show (13 : Nat) ≠ 34 by decide)]
  · simp only [sset_fn (show ¬ ((14 : Nat) = 34 ∧ b = k) by simp)]
  · simp only [sset_ne (show (20 : Nat) ≠ 34 by decide), sset_ne (show (21 : Nat) ≠ 34 by decide), sset_ne (show (22 : Nat) ≠ 34 by decide), sset_ne (show (23 : Nat) ≠ 34 by decide)]
  · simp only [sset_ne (show (30 : Nat) ≠ 34 by decide), sset_ne (show (31 : Nat) ≠ 34 by decide), sset_ne (show (32 : Nat) ≠ 34 by decide), sset_nk (show b ≠ k from fun q => h ⟨rfl, q⟩), sset_ne (show (35 : Nat) ≠ 34 by decide), ppan_ne (show ¬ (33 = 34 ∧ b = k) by simp)]
  · simp only [sset_fn (show ¬ ((60 : Nat) = 34 ∧ b = k) by simp)]
  · simp only [sset_fn (show ¬ ((61 : Nat) = 34 ∧ b = k) by simp)]
  · simp only [sset_fn (show ¬ ((62 : Nat) = 34 ∧ b = k) by simp)]
  · simp only [sset_fn (show ¬ ((63 : Nat) = 34 ∧ b = k) by simp)]
  · simp only [sset_fn (show ¬ ((40 : Nat) = 34 ∧ b = k) by simp)]
  · simp only [sset_fn (show ¬ ((41 : Nat) = 34 ∧ b = k) by simp)]
  · rfl
theorem gn_35 {a b : Nat} (h : ¬ (a = 15 ∧ b = k)) : GC z ad N X (sset s 35 k i v) a b = GC z ad N X s a b := by
  unfold GC
  split
  · simp only [sset_ne (show (0 : Nat) ≠ 35 by decide), sset_ne (show (1 : Nat) ≠ 35 by decide), sset_ne (show (2 : Nat) ≠ 35 by decide), sset_ne (show (3 : Nat) ≠ 35 by decide), sset_ne (show (4 : Nat) ≠ 35 by decide)]
  · rfl
  · rfl
  · rfl
  · simp only [sset_fn (show ¬ ((70 : Nat) = 35 ∧ b = k) by simp)]
  · simp only [sset_ne (show (51 : Nat) ≠ 35 by decide), sset_ne (show (52 : Nat) ≠ 35 by decide), sset_ne (show (53 : Nat) ≠ 35 by decide)]
  · simp only [sset_ne (show (64 : Nat) ≠ 35 by decide), sset_ne (show (65 : Nat) ≠ 35 by decide), sset_ne (show (66 : Nat) ≠ 35 by decide)]
  · simp only [sset_fn (show ¬ ((50 : Nat) = 35 ∧ b = k) by simp)]
  · simp only [sset_ne (show (43 : Nat) ≠ 35 by decide)]
  · simp only [sset_fn (show ¬ ((42 : Nat) = 35 ∧ b = k) by simp)]
  · rfl
  · rfl
  · simp only [sset_ne (show (10 : Nat) ≠ 35 by decide), sset_ne (show (11 : Nat) ≠ 35 by decide), sset_ne (show (12 : Nat) ≠ 35 by decide), sset_ne (show (13 : Nat) ≠ 35 by decide)]
  · simp only [sset_fn (show ¬ ((14 : Nat) = 35 ∧ b = k) by simp)]
  · simp only [sset_ne (show (20 : Nat) ≠ 35 by decide), sset_ne (show (21 : Nat) ≠ 35 by decide), sset_ne (show (22 : Nat) ≠ 35 by decide), sset_ne (show (23 : Nat) ≠ 35 by decide)]
  · simp only [sset_ne (show (30 : Nat) ≠ 35 by decide), sset_ne (show (31 : Nat) ≠ 35 by decide), sset_ne (show (32 : Nat) ≠ 35 by decide), sset_ne (show (34 : Nat) ≠ 35 by decide), sset_nk (show b ≠ k from fun q => h ⟨rfl, q⟩), ppan_ne (show ¬ (33 = 35 ∧ b = k) by simp)]
  · simp only [sset_fn (show ¬ ((60 : Nat) = 35 ∧ b = k) by simp)]
  · simp only [sset_fn (show ¬ ((61 : Nat) = 35 ∧ b = k) by simp)]
  · simp only [sset_fn (show ¬ ((62 : Nat) = 35 ∧ b = k) by simp)]
  · simp only [sset_fn (show ¬ ((63 : Nat) = 35 ∧ b = k) by simp)]
  · simp only [sset_fn (show ¬ ((40 : Nat) = 35 ∧ b = k) by simp)]
  · simp only [sset_fn (show ¬ ((41 : Nat) = 35 ∧ b = k) by simp)]
  · rfl
theorem gn_40 {a b : Nat} (h : ¬ (a = 20 ∧ b = k)) : GC z ad N X (sset s 40 k i v) a b = GC z ad N X s a b := by
  unfold GC
  split
  · simp only [sset_ne (show (0 : Nat) ≠ 40 by decide), sset_ne (show (1 : Nat) ≠ 40 by decide), sset_ne (show (2 : Nat) ≠ 40 by decide), sset_ne (show (3 : Nat) ≠ 40 by decide), sset_ne (show (4 : Nat) ≠ 40 by decide)]
  · rfl
  · rfl
  · rfl
  · simp only [sset_fn (show ¬ ((70 : Nat) = 40 ∧ b = k) by simp)]
  · simp only [sset_ne (show (51 : Nat) ≠ 40 by decide), sset_ne (show (52 : Nat) ≠ 40 by decide), sset_ne (show (53 : Nat) ≠ 40 by decide)]
  · simp only [sset_ne (show (64 : Nat) ≠ 40 by decide), sset_ne (show (65 : Nat) ≠ 40 by decide), sset_ne (show (66 : Nat) ≠ 40 by decide)]
  · simp only [sset_fn (show ¬ ((50 : Nat) = 40 ∧ b = k) by simp)]
  · simp only [sset_ne (show (43 : Nat) ≠ 40 by decide)]
  · simp only [sset_fn (show ¬ ((42 : Nat) = 40 ∧ b = k) by simp)]
  · rfl
  · rfl
  · simp only [sset_ne (show (10 : Nat) ≠ 40 by decide), sset_ne (show (11 : Nat) ≠ 40 by decide), sset_ne (show (12 : Nat) ≠ 40 by decide), sset_ne (show (13 : Nat) ≠ 40 by decide)]
  · simp only [sset_fn (show ¬ ((14 : Nat) = 40 ∧ b = k) by simp)]
  · simp only [sset_ne (show (20 : Nat) ≠ 40 by decide), sset_ne (show (21 : Nat) ≠ 40 by decide), sset_ne (show (22 : Nat) ≠ 40 by decide), sset_ne (show (23 : Nat) ≠ 40 by decide)]
  · simp only [sset_ne (show (30 : Nat) ≠ 40 by decide), sset_ne (show (31 : Nat) ≠ 40 by decide), sset_ne (show (32 : Nat) ≠ 40 by decide), sset_ne (show (34 : Nat) ≠ 40 by decide), sset_ne (show (35 : Nat) ≠ 40 by decide), ppan_ne (show ¬ (33 = 40 ∧ b = k) by simp)]
  · simp only [sset_fn (show ¬ ((60 : Nat) = 40 ∧ b = k) by simp)]
  · simp only [sset_fn (show ¬ ((61 : Nat) = 40 ∧ b = k) by simp)]
  · simp only [sset_fn (show ¬ ((62 : Nat) = 40 ∧ b = k) by simp)]
  · simp only [sset_fn (show ¬ ((63 : Nat) = 40 ∧ b = k) by simp)]
  · simp only [sset_fn (show ¬ (40 = 40 ∧ b = k) from fun q => h ⟨rfl, q.2⟩)]
  · simp only [sset_fn (show ¬ ((41 : Nat) = 40 ∧ b = k) by simp)]
  · rfl
theorem gn_41 {a b : Nat} (h : ¬ (a = 21 ∧ b = k)) : GC z ad N X (sset s 41 k i v) a b = GC z ad N X s a b := by
  unfold GC
  split
  · simp only [sset_ne (show (0 : Nat) ≠ 41 by decide), sset_ne (show (1 : Nat) ≠ 41 by decide), sset_ne (show (2 : Nat) ≠ 41 by decide), sset_ne (show (3 : Nat) ≠ 41 by decide), sset_ne (show (4 : Nat) ≠ 41 by decide)]
  · rfl
  · rfl
  · rfl
  · simp only [sset_fn (show ¬ ((70 : Nat) = 41 ∧ b = k) by simp)]
  · simp only [sset_ne (show (51 : Nat) ≠ 41 by decide), sset_ne (show (52 : Nat) ≠ 41 by decide), sset_ne (show (53 : Nat) ≠ 41 by decide)]
  · simp only [sset_ne (show (64 : Nat) ≠ 41 by decide), sset_ne (show (65 : Nat) ≠ 41 by decide), sset_ne (show (66 : Nat) ≠ 41 by decide)]
  · simp only [sset_fn (show ¬ ((50 : Nat) = 41 ∧ b = k) by simp)]
  · simp only [sset_ne (show (43 : Nat) ≠ 41 by decide)]
  · simp only [sset_fn (show ¬ ((42 : Nat) = 41 ∧ b = k) by simp)]
  · rfl
  · rfl
  · simp only [sset_ne (show (10 : Nat) ≠ 41 by decide), sset_ne (show (11 : Nat) ≠ 41 by decide), sset_ne (show (12 : Nat) ≠ 41 by decide), sset_ne (show (13 : Nat) ≠ 41 by decide)]
  · simp only [sset_fn (show ¬ ((14 : Nat) = 41 ∧ b = k) by simp)]
  · simp only [sset_ne (show (20 : Nat) ≠ 41 by decide), sset_ne (show (21 : Nat) ≠ 41 by decide), sset_ne (show (22 : Nat) ≠ 41 by decide), sset_ne (show (23 : Nat) ≠ 41 by decide)]
  · simp only [sset_ne (show (30 : Nat) ≠ 41 by decide), sset_ne (show (31 : Nat) ≠ 41 by decide), sset_ne (show (32 : Nat) ≠ 41 by decide), sset_ne (show (34 : Nat) ≠ 41 by decide), sset_ne (show (35 : Nat) ≠ 41 by decide), ppan_ne (show ¬ (33 = 41 ∧ b = k) by simp)]
  · simp only [sset_fn (show ¬ ((60 : Nat) = 41 ∧ b = k) by simp)]
  · simp only [sset_fn (show ¬ ((61 : Nat) = 41 ∧ b = k) by simp)]
  · simp only [sset_fn (show ¬ ((62 : Nat) = 41 ∧ b = k) by simp)]
  · simp only [sset_fn (show ¬ ((63 : Nat) = 41 ∧ b = k) by simp)]
  · simp only [sset_fn (show ¬ ((40 : Nat) = 41 ∧ b = k) by simp)]
  · simp only [sset_fn (show ¬ (41 = 41 ∧ b = k) from fun q => h ⟨rfl, q.2⟩)]
  · rfl
theorem gn_42 {a b : Nat} (h : ¬ (a = 9 ∧ b = k)) : GC z ad N X (sset s 42 k i v) a b = GC z ad N X s a b := by
  unfold GC
  split
  · simp only [sset_ne (show (0 : Nat) ≠ 42 by decide), sset_ne (show (1 : Nat) ≠ 42 by decide), sset_ne (show (2 : Nat) ≠ 42 by decide), sset_ne (show (3 : Nat) ≠ 42 by decide), sset_ne (show (4 : Nat) ≠ 42 by decide)]
  · rfl
  · rfl
  · rfl
  · simp only [sset_fn (show ¬ ((70 : Nat) = 42 ∧ b = k) by simp)]
  · simp only [sset_ne (show (51 : Nat) ≠ 42 by decide), sset_ne (show (52 : Nat) ≠ 42 by decide), sset_ne (show (53 : Nat) ≠ 42 by decide)]
  · simp only [sset_ne (show (64 : Nat) ≠ 42 by decide), sset_ne (show (65 : Nat) ≠ 42 by decide), sset_ne (show (66 : Nat) ≠ 42 by decide)]
  · simp only [sset_fn (show ¬ ((50 : Nat) = 42 ∧ b = k) by simp)]
  · simp only [sset_ne (show (43 : Nat) ≠ 42 by decide)]
  · simp only [sset_fn (show ¬ (42 = 42 ∧ b = k) from fun q => h ⟨rfl, q.2⟩)]
  · rfl
  · rfl
  · simp only [sset_ne (show (10 : Nat) ≠ 42 by decide), sset_ne (show (11 : Nat) ≠ 42 by decide), sset_ne (show (12 : Nat) ≠ 42 by decide), sset_ne (show (13 : Nat) ≠ 42 by decide)]
  · simp only [sset_fn (show ¬ ((14 : Nat) = 42 ∧ b = k) by simp)]
  · simp only [sset_ne (show (20 : Nat) ≠ 42 by decide), sset_ne (show (21 : Nat) ≠ 42 by decide), sset_ne (show (22 : Nat) ≠ 42 by decide), sset_ne (show (23 : Nat) ≠ 42 by decide)]
  · simp only [sset_ne (show (30 : Nat) ≠ 42 by decide), sset_ne (show (31 : Nat) ≠ 42 by decide), sset_ne (show (32 : Nat) ≠ 42 by decide), sset_ne (show (34 : Nat) ≠ 42 by decide), sset_ne (show (35 : Nat) ≠ 42 by decide), ppan_ne (show ¬ (33 = 42 ∧ b = k) by simp)]
  · simp only [sset_fn (show ¬ ((60 : Nat) = 42 ∧ b = k) by simp)]
  · simp only [sset_fn (show ¬ ((61 : Nat) = 42 ∧ b = k) by simp)]
  · simp only [sset_fn (show ¬ ((62 : Nat) = 42 ∧ b = k) by simp)]
  · simp only [sset_fn (show ¬ ((63 : Nat) = 42 ∧ b = k) by simp)]
  · simp only [sset_fn (show ¬ ((40 : Nat) = 42 ∧ b = k) by simp)]
  · simp only [sset_fn (show ¬ ((41 : Nat) = 42 ∧ b = k) by simp)]
  · rfl
theorem gn_43 {a b : Nat} (h : ¬ (a = 8 ∧ b = k)) : GC z ad N X (sset s 43 k i v) a b = GC z ad N X s a b := by
  unfold GC
  split
  · simp only [sset_ne (show (0 : Nat) ≠ 43 by decide), sset_ne (show (1 : Nat) ≠ 43 by decide), sset_ne (show (2 : Nat) ≠ 43 by decide), sset_ne (show (3 : Nat) ≠ 43 by decide), sset_ne (show (4 : Nat) ≠ 43 by decide)]
  · rfl
  · rfl
  · rfl
  · simp only [sset_fn (show ¬ ((70 : Nat) = 43 ∧ b = k) by simp)]
  · simp only [sset_ne (show (51 : Nat) ≠ 43 by decide), sset_ne (show (52 : Nat) ≠ 43 by decide), sset_ne (show (53 : Nat) ≠ 43 by decide)]
  · simp only [sset_ne (show (64 : Nat) ≠ 43 by decide), sset_ne (show (65 : Nat) ≠ 43 by decide), sset_ne (show (66 : Nat) ≠ 43 by decide)]
  · simp only [sset_fn (show ¬ ((50 : Nat) = 43 ∧ b = k) by simp)]
  · simp only [sset_nk (show b ≠ k from fun q => h ⟨rfl, q⟩)]
  · simp only [sset_fn (show ¬ ((42 : Nat) = 43 ∧ b = k) by simp)]
  · rfl
  · rfl
  · simp only [sset_ne (show (10 : Nat) ≠ 43 by decide), sset_ne (show (11 : Nat) ≠ 43 by decide), sset_ne (show (12 : Nat) ≠ 43 by decide), sset_ne (show (13 : Nat) ≠ 43 by decide)]
  · simp only [sset_fn (show ¬ ((14 : Nat) = 43 ∧ b = k) by simp)]
  · simp only [sset_ne (show (20 : Nat) ≠ 43 by decide), sset_ne (show (21 : Nat) ≠ 43 by decide), sset_ne (show (22 : Nat) ≠ 43 by decide), sset_ne (show (23 : Nat) ≠ 43 by decide)]
  · simp only [sset_ne (show (30 : Nat) ≠ 43 by decide), sset_ne (show (31 : Nat) ≠ 43 by decide), sset_ne (show (32 : Nat) ≠ 43 by decide), sset_ne (show (34 : Nat) ≠ 43 by decide), sset_ne (show (35 : Nat) ≠ 43 by decide), ppan_ne (show ¬ (33 = 43 ∧ b = k) by simp)]
  · simp only [sset_fn (show ¬ ((60 : Nat) = 43 ∧ b = k) by simp)]
  · simp only [sset_fn (show ¬ ((61 : Nat) = 43 ∧ b = k) by simp)]
  · simp only [sset_fn (show ¬ ((62 : Nat) = 43 ∧ b = k) by simp)]
  · simp only [sset_fn (show ¬ ((63 : Nat) = 43 ∧ b = k) by simp)]
  · simp only [sset_fn (show ¬ ((40 : Nat) = 43 ∧ b = k) by simp)]
  · simp only [sset_fn (show ¬ ((41 : Nat) = 43 ∧ b = k) by simp)]
  · rfl
theorem gn_50 {a b : Nat} (h : ¬ (a = 7 ∧ b = 0)) : GC z ad N X (sset s 50 0 i v) a b = GC z ad N X s a b := by
  unfold GC
  split
  · simp only [sset_ne (show (0 : Nat) ≠ 50 by decide), sset_ne (show (1 : Nat) ≠ 50 by decide), sset_ne (show (2 : Nat) ≠ 50 by decide), sset_ne (show (3 : Nat) ≠ 50 by decide), sset_ne (show (4 : Nat) ≠ 50 by decide)]
  · rfl
  · rfl
  · rfl
  · simp only [sset_fn (show ¬ ((70 : Nat) = 50 ∧ b = 0) by simp)]
  · simp only [sset_ne (show (51 : Nat) ≠ 50 by decide), sset_ne (show (52 : Nat) ≠ 50 by decide), sset_ne (show (53 : Nat) ≠ 50 by decide)]
  · simp only [sset_ne (show (64 : Nat) ≠ 50 by decide), sset_ne (show (65 : Nat) ≠ 50 by decide), sset_ne (show (66 : Nat) ≠ 50 by decide)]
  · simp only [sset_fn (show ¬ (50 = 50 ∧ b = 0) from fun q => h ⟨rfl, q.2⟩)]
  · simp only [sset_ne (show (43 : Nat) ≠ 50 by decide)]
  · simp only [sset_fn (show ¬ ((42 : Nat) = 50 ∧ b = 0) by simp)]
  · rfl
  · rfl
  · simp only [sset_ne (show (10 : Nat) ≠ 50 by decide), sset_ne (show (11 : Nat) ≠ 50 by decide), sset_ne (show (12 : Nat) ≠ 50 by decide), sset_ne (show (13 : Nat) ≠ 50 by decide)]
  · simp only [sset_fn (show ¬ ((14 : Nat) = 50 ∧ b = 0) by simp)]
  · simp only [sset_ne (show (20 : Nat) ≠ 50 by decide), sset_ne (show (21 : Nat) ≠ 50 by decide), sset_ne (show (22 : Nat) ≠ 50 by decide), sset_ne (show (23 : Nat) ≠ 50 by decide)]
  · simp only [sset_ne (show (30 : Nat) ≠ 50 by decide), sset_ne (show (31 : Nat) ≠ 50 by decide), sset_ne (show (32 : Nat) ≠ 50 by decide), sset_ne (show (34 : Nat) ≠ 50 by decide), sset_ne (show (35 : Nat) ≠ 50 by decide), ppan_ne (show ¬ (33 = 50 ∧ b = 0) by simp)]
  · simp only [sset_fn (show ¬ ((60 : Nat) = 50 ∧ b = 0) by simp)]
  · simp only [sset_fn (show ¬ ((61 : Nat) = 50 ∧ b = 0) by simp)]
  · simp only [sset_fn (show ¬ ((62 : Nat) = 50 ∧ b = 0) by simp)]
  · simp only [sset_fn (show ¬ ((63 : Nat) = 50 ∧ b = 0) by simp)]
  · simp only [sset_fn (show ¬ ((40 : Nat) = 50 ∧ b = 0) by simp)]
  · simp only [sset_fn (show ¬ ((41 : Nat) = 50 ∧ b = 0) by simp)]
  · rfl
theorem gn_51 {a b : Nat} (h : ¬ (a = 5 ∧ b = 0)) : GC z ad N X (sset s 51 0 i v) a b = GC z ad N X s a b := by
  unfold GC
  split
  · simp only [sset_ne (show (0 : Nat) ≠ 51 by decide), sset_ne (show (1 : Nat) ≠ 51 by decide), sset_ne (show (2 : Nat) ≠ 51 by decide), sset_ne (show (3 : Nat) ≠ 51 by decide), sset_ne (show (4 : Nat) ≠ 51 by decide)]
  · rfl
  · rfl
  · rfl
  · simp only [sset_fn (show ¬ ((70 : Nat) = 51 ∧ b = 0) by simp)]
  · simp only [sset_nk (show b ≠ 0 from fun q => h ⟨rfl, q⟩), sset_ne (show (52 : Nat) ≠ 51 by decide), sset_ne (show (53 : Nat) ≠ 51 by decide)]
  · simp only [sset_ne (show (64 : Nat) ≠ 51 by decide), sset_ne (show (65 : Nat) ≠ 51 by decide), sset_ne (show (66 : Nat) ≠ 51 by decide)]
  · simp only [sset_fn (show ¬ ((50 : Nat) = 51 ∧ b = 0) by simp)]
  · simp only [sset_ne (show (43 : Nat) ≠ 51 by decide)]
  · simp only [sset_fn (show ¬ ((42 : Nat) = 51 ∧ b = 0) by simp)]
  · rfl
  · rfl
  · simp only [sset_ne (show (10 : Nat) ≠ 51 by decide), sset_ne (show (11 : Nat) ≠ 51 by decide), sset_ne (show (12 : Nat) ≠ 51 by decide), sset_ne (show (13 : Nat) ≠ 51 by decide)]
  · simp only [sset_fn (show ¬ ((14 : Nat) = 51 ∧ b = 0) by simp)]
  · simp only [sset_ne (show (20 : Nat) ≠ 51 by decide), sset_ne (show (21 : Nat) ≠ 51 by decide), sset_ne (show (22 : Nat) ≠ 51 by decide), sset_ne (show (23 : Nat) ≠ 51 by decide)]
  · simp only [sset_ne (show (30 : Nat) ≠ 51 by decide), sset_ne (show (31 : Nat) ≠ 51 by decide), sset_ne (show (32 : Nat) ≠ 51 by decide), sset_ne (show (34 : Nat) ≠ 51 by decide), sset_ne (show (35 : Nat) ≠ 51 by decide), ppan_ne (show ¬ (33 = 51 ∧ b = 0) by simp)]
  · simp only [sset_fn (show ¬ ((60 : Nat) = 51 ∧ b = 0) by simp)]
  · simp only [sset_fn (show ¬ ((61 : Nat) = 51 ∧ b = 0) by simp)]
  · simp only [sset_fn (show ¬ ((62 : Nat) = 51 ∧ b = 0) by simp)]
  · simp only [sset_fn (show ¬ ((63 : Nat) = 51 ∧ b = 0) by simp)]
  · simp only [sset_fn (show ¬ ((40 : Nat) = 51 ∧ b = 0) by simp)]
  · simp only [sset_fn (show ¬ ((41 : Nat) = 51 ∧ b = 0) by simp)]
  · rfl
theorem gn_52 {a b : Nat} (h : ¬ (a = 5 ∧ b = 0)) : GC z ad N X (sset s 52 0 i v) a b = GC z ad N X s a b := by
  unfold GC
  split
  · simp only [sset_ne (show (0 : Nat) ≠ 52 by decide), sset_ne (show (1 : Nat) ≠ 52 by decide), sset_ne (show (2 : Nat) ≠ 52 by decide), sset_ne (show (3 : Nat) ≠ 52 by decide), sset_ne (show (4 : Nat) ≠ 52 by decide)]
  · rfl
  · rfl
  · rfl
  · simp only [sset_fn (show ¬ ((70 : Nat) = 52 ∧ b = 0) by simp)]
  · simp only [sset_ne (show (51 : Nat) ≠ 52 by decide), sset_nk (show b ≠ 0 from fun q => h ⟨rfl, q⟩), sset_ne (show (53 : Nat) ≠ 52 by decide)]
  · simp only [sset_ne (show (64 : Nat) ≠ 52 by decide), sset_ne (show (65 : Nat) ≠ 52 by decide), sset_ne (show (66 : Nat) ≠ 52 by decide)]
  · simp only [sset_fn (show ¬ ((50 : Nat) = 52 ∧ b = 0) by simp)]
  · simp only [sset_ne (show (43 : Nat) ≠ 52 by decide)]
  · simp only [sset_fn (show ¬ ((42 : Nat) = 52 ∧ b = 0) by simp)]
  · rfl
  · rfl
  · simp only [sset_ne (show (10 : Nat) ≠ 52 by decide), sset_ne (show (11 : Nat) ≠ 52 by decide), sset_ne (show (12 : Nat) ≠ 52 by decide), sset_ne (show (13 : Nat) ≠ 52 by decide)]
  · simp only [sset_fn (show ¬ ((14 : Nat) = 52 ∧ b = 0) by simp)]
  · simp only [sset_ne (show (20 : Nat) ≠ 52 by decide), sset_ne (show (21 : Nat) ≠ 52 by decide), sset_ne (show (22 : Nat) ≠ 52 by decide), sset_ne (show (23 : Nat) ≠ 52 by decide)]
  · simp only [sset_ne (show (30 : Nat) ≠ 52 by decide), sset_ne (show (31 : Nat) ≠ 52 by decide), sset_ne (show (32 : Nat) ≠ 52 by decide), sset_ne (show (34 : Nat) ≠ 52 by decide), sset_ne (show (35 : Nat) ≠ 52 by decide), ppan_ne (show ¬ (33 = 52 ∧ b = 0) by simp)]
  · simp only [sset_fn (show ¬ ((60 : Nat) = 52 ∧ b = 0) by simp)]
  · simp only [sset_fn (show ¬ ((61 : Nat) = 52 ∧ b = 0) by simp)]
  · simp only [sset_fn (show ¬ ((62 : Nat) = 52 ∧ b = 0) by simp)]
  · simp only [sset_fn (show ¬ ((63 : Nat) = 52 ∧ b = 0) by simp)]
  · simp only [sset_fn (show ¬ ((40 : Nat) = 52 ∧ b = 0) by simp)]
  · simp only [sset_fn (show ¬ ((41 : Nat) = 52 ∧ b = 0) by simp)]
  · rfl
theorem gn_53 {a b : Nat} (h : ¬ (a = 5 ∧ b = 0)) : GC z ad N X (sset s 53 0 i v) a b = GC z ad N X s a b := by
  unfold GC
  split
  · simp only [sset_ne (show (0 : Nat) ≠ 53 by decide), sset_ne (show (1 : Nat) ≠ 53 by decide), sset_ne (show (2 : Nat) ≠ 53 by decide), sset_ne (show (3 : Nat) ≠ 53 by decide), sset_ne (show (4 : Nat) ≠ 53 by decide)]
  · rfl
  · rfl
  · rfl
  · simp only [sset_fn (show ¬ ((70 : Nat) = 53 ∧ b = 0) by simp)]
  · simp only [sset_ne (show (51 : Nat) ≠ 53 by decide), sset_ne (show (52 : Nat) ≠ 53 by decide), sset_nk (show b ≠ 0 from fun q => h ⟨rfl, q⟩)]
  · simp only [sset_ne (show (64 : Nat) ≠ 53 by decide), sset_ne (show (65 : Nat) ≠ 53 by decide), sset_ne (show (66 : Nat) ≠ 53 by decide)]
  · simp only [sset_fn (show ¬ ((50 : Nat) = 53 ∧ b = 0) by simp)]
  · simp only [sset_ne (show (43 : Nat) ≠ 53 by decide)]
  · simp only [sset_fn (show ¬ ((42 : Nat) = 53 ∧ b = 0) by simp)]
  · rfl
  · rfl
  · simp only [sset_ne (show (10 : Nat) ≠ 53 by decide), sset_ne (show (11 : Nat) ≠ 53 by decide), sset_ne (show (12 : Nat) ≠ 53 by decide), sset_ne (show (13 : Nat) ≠ 53 by decide)]
  · simp only [sset_fn (show ¬ ((14 : Nat) = 53 ∧ b = 0) by simp)]
  · simp only [sset_ne (show (20 : Nat) ≠ 53 by decide), sset_ne (show (21 : Nat) ≠ 53 by decide), sset_ne (show (22 : Nat) ≠ 53 by decide), sset_ne (show (23 : Nat) ≠ 53 by decide)]
  · simp only [sset_ne (show (30 : Nat) ≠ 53 by decide), sset_ne (show (31 : Nat) ≠ 53 by decide), sset_ne (show (32 : Nat) ≠ 53 by decide), sset_ne (show (34 : Nat) ≠ 53 by decide), sset_ne (show (35 : Nat) ≠ 53 by decide), ppan_ne (show ¬ (33 = 53 ∧ b = 0) by simp)]
  · simp only [sset_fn (show ¬ ((60 : Nat) = 53 ∧ b = 0) by simp)]
  · simp only [sset_fn (show ¬ ((61 : Nat) = 53 ∧ b = 0) by simp)]
  · simp only [sset_fn (show ¬ ((62 : Nat) = 53 ∧ b = 0) by simp)]
  · simp only [sset_fn (show ¬ ((63 : Nat) = 53 ∧ b = 0) by simp)]
  · simp only [sset_fn (show ¬ ((40 : Nat) = 53 ∧ b = 0) by simp)]
  · simp only [sset_fn (show ¬ ((41 : Nat) = 53 ∧ b = 0) by simp)]
  · rfl
theorem gn_60 {a b : Nat} (h : ¬ (a = 16 ∧ b = 0)) : GC z ad N X (sset s 60 0 i v) a b = GC z ad N X s a b := by
  unfold GC
  split
  · simp only [sset_ne (show (0 : Nat) ≠ 60 by decide), sset_ne (show (1 : Nat) ≠ 60 by decide), sset_ne (show (2 : Nat) ≠ 60 by decide), sset_ne (show (3 : Nat) ≠ 60 by decide), sset_ne (show (4 : Nat) ≠ 60 by decide)]
  · rfl
  · rfl
  · rfl
  · simp only [sset_fn (show ¬ ((70 : Nat) = 60 ∧ b = 0) by simp)]
  · simp only [sset_ne (show (51 : Nat) ≠ 60 by decide), sset_ne (show (52 : Nat) ≠ 60 by decide), sset_ne (show (53 : Nat) ≠ 60 by decide)]
  · simp only [sset_ne (show (64 : Nat) ≠ 60 by decide), sset_ne (show (65 : Nat) ≠ 60 by decide), sset_ne (show (66 : Nat) ≠ 60 by decide)]
  · simp only [sset_fn (show ¬ ((50 : Nat) = 60 ∧ b = 0) by simp)]
  · simp only [sset_ne (show (43 : Nat) ≠ 60 by decide)]
  · simp only [sset_fn (show ¬ ((42 : Nat) = 60 ∧ b = 0) by simp)]
  · rfl
  · rfl
  · simp only [sset_ne (show (10 : Nat) ≠ 60 by decide), sset_ne (show (11 : Nat) ≠ 60 by decide), sset_ne (show (12 : Nat) ≠ 60 by decide), sset_ne (show (13 : Nat) ≠ 60 by decide)]
  · simp only [sset_fn (show ¬ ((14 : Nat) = 60 ∧ b = 0) by simp)]
  · simp only [sset_ne (show (20 : Nat) ≠ 60 by decide), sset_ne (show (21 : Nat) ≠ 60 by decide), sset_ne (show (22 : Nat) ≠ 60 by decide), sset_ne (show (23 : Nat) ≠ 60 by decide)]
  · simp only [sset_ne (show (30 : Nat) ≠ 60 by decide), sset_ne (show (31 : Nat) ≠ 60 by decide), sset_ne (show (32 : Nat) ≠ 60 by decide), sset_ne (show (34 : Nat) ≠ 60 by decide), sset_ne (show (35 : Nat) ≠ 60 by decide), ppan_ne (show ¬ (33 = 60 ∧ b = 0) by simp)]
  · simp only [sset_fn (show ¬ (60 = 60 ∧ b = 0) from fun q => h ⟨rfl, q.2⟩)]
  · simp only [sset_fn (show ¬ ((61 : Nat) = 60 ∧ b = 0) by simp)]
  · simp only [sset_fn (show ¬ ((62 : Nat) = 60 ∧ b = 0) by simp)]
  · simp only [sset_fn (show ¬ ((63 : Nat) = 60 ∧ b = 0) by simp)]
  · simp only [sset_fn (show ¬ ((40 : Nat) = 60 ∧ b = 0) by simp)]
  · simp only [sset_fn (show ¬ ((41 : Nat) = 60 ∧ b = 0) by simp)]
  · rfl
theorem gn_61 {a b : Nat} (h : ¬ (a = 17 ∧ b = 0)) : GC z ad N X (sset s 61 0 i v) a b = GC z ad N X s a b := by
  unfold GC
  split
  · simp only [sset_ne (show (0 : Nat) ≠ 61 by decide), sset_ne (show (1 : Nat) ≠ 61 by decide), sset_ne (show (2 : Nat) ≠ 61 by decide), sset_ne (show (3 : Nat) ≠ 61 by decide), sset_ne (show (4 : Nat) ≠ 61 by decide)]
  · rfl
  · rfl
  · rfl
  · simp only [sset_fn (show ¬ ((70 : Nat) = 61 ∧ b = 0) by simp)]
  · simp only [sset_ne (show (51 : Nat) ≠ 61 by decide), sset_ne (show (52 : Nat) ≠ 61 by decide), sset_ne (show (53 : Nat) ≠ 61 by decide)]
  · simp only [sset_ne (show (64 : Nat) ≠ 61 by decide), sset_ne (show (65 : Nat) ≠ 61 by decide), sset_ne (show (66 : Nat) ≠ 61 by decide)]
  · simp only [sset_fn (show ¬ ((50 : Nat) = 61 ∧ b = 0) by simp)]
  · simp only [sset_ne (show (43 : Nat) ≠ 61 by decide)]
  · simp only [sset_fn (show ¬ ((42 : Nat) = 61 ∧ b = 0) by simp)]
  · rfl
  · rfl
  · simp only [sset_ne (show (10 : Nat) ≠ 61 by decide), sset_ne (show (11 : Nat) ≠ 61 by decide), sset_ne (show (12 : Nat) ≠ 61 by decide), sset_ne (show (13 : Nat) ≠ 61 by decide)]
  · simp only [sset_fn (show ¬ ((14 : Nat) = 61 ∧ b = 0) by simp)]
  · simp only [sset_ne (show (20 : Nat) ≠ 61 by decide), sset_ne (show (21 : Nat) ≠ 61 by decide), sset_ne (show (22 : Nat) ≠ 61 by decide), sset_ne (show (23 : Nat) ≠ 61 by decide)]
  · simp only [sset_ne (show (30 : Nat) ≠ 61 by decide), sset_ne (show (31 : Nat) ≠ 61 by decide), sset_ne (show (32 : Nat) ≠ 61 by decide), sset_ne (show (34 : Nat) ≠ 61 by decide), sset_ne (show (35 : Nat) ≠ 61 by decide), ppan_ne (show ¬ (33 = 61 ∧ b = 0) by simp)]
  · simp only [sset_fn (show ¬ ((60 : Nat) = 61 ∧ b = 0) by simp)]
  · simp only [sset_fn (show ¬ (61 = 61 ∧ b = 0) from fun q => h ⟨rfl, q.2⟩)]
  · simp only [sset_fn (show ¬ ((62 : Nat) = 61 ∧ b = 0) by simp)]
  · simp only [sset_fn (show ¬ ((63 : Nat) = 61 ∧ b = 0) by simp)]
  · simp only [sset_fn (show ¬ ((40 : Nat) = 61 ∧ b = 0) by simp)]
  · simp only [sset_fn (show ¬ ((41 : Nat) = 61 ∧ b = 0) by simp)]
  · rfl
theorem gn_62 {a b : Nat} (h : ¬ (a = 18 ∧ b = 0)) : GC z ad N X (sset s 62 0 i v) a b = GC z ad N X s a b := by
  unfold GC
  split
  · simp only [sset_ne (show (0 : Nat) ≠ 62 by decide), sset_ne (show (1 : Nat) ≠ 62 by decide), sset_ne (show (2 : Nat) ≠ 62 by decide), sset_ne (show (3 : Nat) ≠ 62 by decide), sset_ne (show (4 : Nat) ≠ 62 by decide)]
  · rfl
  · rfl
  · rfl
  · simp only [sset_fn (show ¬ ((70 : Nat) = 62 ∧ b = 0) by simp)]
  · simp only [sset_ne (show (51 : Nat) ≠ 62 by decide), sset_ne (show (52 : Nat) ≠ 62 by decide), sset_ne (show (53 : Nat) ≠ 62 by decide)]
  · simp only [sset_ne (show (64 : Nat) ≠ 62 by decide), sset_ne (show (65 : Nat) ≠ 62 by decide), sset_ne (show (66 : Nat) ≠ 62 by decide)]
  · simp only [sset_fn (show ¬ ((50 : Nat) = 62 ∧ b = 0) by simp)]
  · simp only [sset_ne (show (43 : Nat) ≠ 62 by decide)]
  · simp only [sset_fn (show ¬ ((42 : Nat) = 62 ∧ b = 0) by simp)]
  · rfl
  · rfl
  · simp only [sset_ne (show (10 : Nat) ≠ 62 by decide), sset_ne (show (11 : Nat) ≠ 62 by decide), sset_ne (show (12 : Nat) ≠ 62 by decide), sset_ne (show (13 : Nat) ≠ 62 by decide)]
  · simp only [sset_fn (show ¬ ((14 : Nat) = 62 ∧ b = 0) by simp)]
  · simp only [sset_ne (show (20 : Nat) ≠ 62 by decide), sset_ne (show (21 : Nat) ≠ 62 by decide), sset_ne (show (22 : Nat) ≠ 62 by decide), sset_ne (show (23 : Nat) ≠ 62 by decide)]
  · simp only [sset_ne (show (30 : Nat) ≠ 62 by decide), sset_ne (show (31 : Nat) ≠ 62 by decide), sset_ne (show (32 : Nat) ≠ 62 by decide), sset_ne (show (34 : Nat) ≠ 62 by decide), sset_ne (show (35 : Nat) ≠ 62 by decide), ppan_ne (show ¬ (33 = 62 ∧ b = 0) by simp)]
  · simp only [sset_fn (show ¬ ((60 : Nat) = 62 ∧ b = 0) by simp)]
  · simp only [sset_fn (show ¬ ((61 : Nat) = 62 ∧ b = 0) by simp)]
  · simp only [sset_fn (show ¬ (62 = 62 ∧ b = 0) from fun q => h ⟨rfl, q.2⟩)]
  · simp only [sset_fn (show ¬ ((63 : Nat) = 62 ∧ b = 0) by simp)]
  · simp only [sset_fn (show ¬ ((40 : Nat) = 62 ∧ b = 0) by simp)]
  · simp only [sset_fn (show ¬ ((41 : Nat) = 62 ∧ b = 0) by simp)]
  · rfl
theorem gn_63 {a b : Nat} (h : ¬ (a = 19 ∧ b = 0)) : GC z ad N X (sset s 63 0 i v) a b = GC z ad N X s a b := by
  unfold GC
  split
  · simp only [sset_ne (show (0 : Nat) ≠ 63 by decide), sset_ne (show (1 : Nat) ≠ 63 by decide), sset_ne (show (2 : Nat) ≠ 63 by decide), sset_ne (show (3 : Nat) ≠ 63 by decide), sset_ne (show (4 : Nat) ≠ 63 by decide)]
  · rfl
  · rfl
  · rfl
  · simp only [sset_fn (show ¬ ((70 : Nat) = 63 ∧ b = 0) by simp)]
  · simp only [sset_ne (show (51 : Nat) ≠ 63 by decide), sset_ne (show (52 : Nat) ≠ 63 by decide), sset_ne (show (53 : Nat) ≠ 63 by decide)]
  · simp only [sset_ne (show (64 : Nat) ≠ 63 by decide), sset_ne (show (65 : Nat) ≠ 63 by decide), sset_ne (show (66 : Nat) ≠ 63 by decide)]
  · simp only [sset_fn (show ¬ ((50 : Nat) = 63 ∧ b = 0) by simp)]
  · simp only [sset_ne (show (43 : Nat) ≠ 63 by decide)]
  · simp only [sset_fn (show ¬ ((42 : Nat) = 63 ∧ b = 0) by simp)]
  · rfl
  · rfl
  · simp only [sset_ne (show (10 : Nat) ≠ 63 by decide), sset_ne (show (11 : Nat) ≠ 63 by decide), sset_ne (show (12 : Nat) ≠ 63 by decide), sset_ne (show (13 : Nat) ≠ 63 by decide)]
  · simp only [sset_fn (show ¬ ((14 : Nat) = 63 ∧ b = 0) by simp)]
  · simp only [sset_ne (show (20 : Nat) ≠ 63 by decide), sset_ne (show (21 : Nat) ≠ 63 by decide), sset_ne (show (22 : Nat) ≠ 63 by decide), sset_ne (show (23 : Nat) ≠ 63 by decide)]
  · simp only [sset_ne (show (30 : Nat) ≠ 63 by decide), sset_ne (show (31 : Nat) ≠ 63 by decide), sset_ne (show (32 : Nat) ≠ 63 by decide), sset_ne (show (34 : Nat) ≠ 63 by decide), sset_ne (show (35 : Nat) ≠ 63 by decide), ppan_ne (show ¬ (33 = 63 ∧ b = 0) by simp)]
  · simp only [sset_fn (show ¬ ((60 : Nat) = 63 ∧ b = 0) by simp)]
  · simp only [sset_fn (show ¬ ((61 : Nat) = 63 ∧ b = 0) by simp)]
  · simp only [sset_fn (show ¬ ((62 : Nat) = 63 ∧ b = 0) by simp)]
  · simp only [sset_fn (show ¬ (63 = 63 ∧ b = 0) from fun q => h ⟨rfl, q.2⟩)]
  · simp only [sset_fn (show ¬ ((40 : Nat) = 63 ∧ b = 0) by simp)]
  · simp only [sset_fn (show ¬ ((41 : Nat) = 63 ∧ b = 0) by simp)]
  · rfl
theorem gn_64 {a b : Nat} (h : ¬ (a = 6 ∧ b = 0)) : GC z ad N X (sset s 64 0 i v) a b = GC z ad N X s a b := by
  unfold GC
  split
  · simp only [sset_ne (show (0 : Nat) ≠ 64 by decide), sset_ne (show (1 : Nat) ≠ 64 by decide), sset_ne (show (2 : Nat) ≠ 64 by decide), sset_ne (show (3 : Nat) ≠ 64 by decide), sset_ne (show (4 : Nat) ≠ 64 by decide)]
  · rfl
  · rfl
  · rfl
  · simp only [sset_fn (show ¬ ((70 : Nat) = 64 ∧ b = 0) by simp)]
  · simp only [sset_ne (show (51 : Nat) ≠ 64 by decide), sset_ne (show (52 : Nat) ≠ 64 by decide), sset_ne (show (53 : Nat) ≠ 64 by decide)]
  · simp only [sset_nk (show b ≠ 0 from fun q => h ⟨rfl, q⟩), sset_ne (show (65 : Nat) ≠ 64 by decide), sset_ne (show (66 : Nat) ≠ 64 by decide)]
  · simp only [sset_fn (show ¬ ((50 : Nat) = 64 ∧ b = 0) by simp)]
  · simp only [sset_ne (show (43 : Nat) ≠ 64 by decide)]
  · simp only [sset_fn (show ¬ ((42 : Nat) = 64 ∧ b = 0) by simp)]
  · rfl
  · rfl
  · simp only [sset_ne (show (10 : Nat) ≠ 64 by decide), sset_ne (show (11 : Nat) ≠ 64 by decide), sset_ne (show (12 : Nat) ≠ 64 by decide), sset_ne (show (13 : Nat) ≠ 64 by decide)]
  · simp only [sset_fn (show ¬ ((14 : Nat) = 64 ∧ b = 0) by simp)]
  · simp only [sset_ne (show (20 : Nat) ≠ 64 by decide), sset_ne (show (21 : Nat) ≠ 64 by decide), sset_ne (show (22 : Nat) ≠ 64 by decide), sset_ne (show (23 : Nat) ≠ 64 by decide)]
  · simp only [sset_ne (show (30 : Nat) ≠ 64 by decide), sset_ne (show (31 : Nat) ≠ 64 by decide), sset_ne (show (32 : Nat) ≠ 64 by decide), sset_ne (show (34 : Nat) ≠ 64 by decide), sset_ne (show (35 : Nat) ≠ 64 by decide), ppan_ne (show ¬ (33 = 64 ∧ b = 0) by simp)]
  · simp only [sset_fn (show ¬ ((60 : Nat) = 64 ∧ b = 0) by simp)]
  · simp only [sset_fn (show ¬ ((61 : Nat) = 64 ∧ b = 0) by simp)]
  · simp only [sset_fn (show ¬ ((62 : Nat) = 64 ∧ b = 0) by simp)]
  · simp only [sset_fn (show ¬ ((63 : Nat) = 64 ∧ b = 0) by simp)]
  · simp only [sset_fn (show ¬ ((40 : Nat) = 64 ∧ b = 0) by simp)]
  · simp only [sset_fn (show ¬ ((41 : Nat) = 64 ∧ b = 0) by simp)]
  · rfl
theorem gn_65 {a b : Nat} (h : ¬ (a = 6 ∧ b = 0)) : GC z ad N X (sset s 65 0 i v) a b = GC z ad N X s a b := by
  unfold GC
  split
  · simp only [sset_ne (show (0 : Nat) ≠ 65 by decide), sset_ne (show (1 : Nat) ≠ 65 by decide), sset_ne (show (2 : Nat) ≠ 65 by decide), sset_ne (show (3 : Nat) ≠ 65 by decide), sset_ne (show (4 : Nat) ≠ 65 by decide)]
  · rfl
  · rfl
  · rfl
  · simp only [sset_fn (show ¬ ((70 : Nat) = 65 ∧ b = 0) by simp)]
  · simp only [sset_ne (show (51 : Nat) ≠ 65 by decide), sset_ne (show (52 : Nat) ≠ 65 by decide), sset_ne (show (53 : Nat) ≠ 65 by decide)]
  · simp only [sset_ne (show (64 : Nat) ≠ 65 by decide), sset_nk (show b ≠ 0 from fun q => h ⟨rfl, q⟩), sset_ne (show (66 : Nat) ≠ 65 by decide)]
  · simp only [sset_fn (show ¬ ((50 : Nat) = 65 ∧ b = 0) by simp)]
  · simp only [sset_ne (show (43 : Nat) ≠ 65 by decide)]
  · simp only [sset_fn (show ¬ ((42 : Nat) = 65 ∧ b = 0) by simp)]
  · rfl
  · rfl
  · simp only [sset_ne (show (10 : Nat) ≠ 65 by decide), sset_ne (show (11 : Nat) ≠ 65 by decide), sset_ne (show (12 : Nat) ≠ 65 by decide), sset_ne (show (13 : Nat) ≠ 65 by decide)]
  · simp only [sset_fn (show ¬ ((14 : Nat) = 65 ∧ b = 0) by simp)]
  · simp only [sset_ne (show (20 : Nat) ≠ 65 by decide), sset_ne (show (21 : Nat) ≠ 65 by decide), sset_ne (show (22 : Nat) ≠ 65 by decide), sset_ne (show (23 : Nat) ≠ 65 by decide)]
  · simp only [sset_ne (show (30 : Nat) ≠ 65 by decide), sset_ne (show (31 : Nat) ≠ 65 by decide), sset_ne (show (32 : Nat) ≠ 65 by decide), sset_ne (show (34 : Nat) ≠ 65 by decide), sset_ne (show (35 : Nat) ≠ 65 by decide), ppan_ne (show ¬ (33 = 65 ∧ b = 0) by simp)]
  · simp only [sset_fn (show ¬ ((60 : Nat) = 65 ∧ b = 0) by simp)]
  · simp only [sset_fn (show ¬ ((61 : Nat) = 65 ∧ b = 0) by simp)]
  · simp only [sset_fn (show ¬ ((62 : Nat) = 65 ∧ b = 0) by simp)]
  · simp only [sset_fn (show ¬ ((63 : Nat) = 65 ∧ b = 0) by simp)]
  · simp only [sset_fn (show ¬ ((40 : Nat) = 65 ∧ b = 0) by simp)]
  · simp only [sset_fn (show ¬ ((41 : Nat) = 65 ∧ b = 0) by simp)]
  · rfl
theorem gn_66 {a b : Nat} (h : ¬ (a = 6 ∧ b = 0)) : GC z ad N X (sset s 66 0 i v) a b = GC z ad N X s a b := by
  unfold GC
  split
  · simp only [sset_ne (show (0 : Nat) ≠ 66 by decide), sset_ne (show (1 : Nat) ≠ 66 by decide), sset_ne (show (2 : Nat) ≠ 66 by decide), sset_ne (show (3 : Nat) ≠ 66 by decide), sset_ne (show (4 : Nat) ≠ 66 by decide)]
  · rfl
  · rfl
  · rfl
  · simp only [sset_fn (show ¬ ((70 : Nat) = 66 ∧ b = 0) by simp)]
  · simp only [sset_ne (show (51 : Nat) ≠ 66 by decide), sset_ne (show (52 : Nat) ≠ 66 by decide), sset_ne (show (53 : Nat) ≠ 66 by decide)]
  · simp only [sset_ne (show (64 : Nat) ≠ 66 by decide), sset_ne (show (65 : Nat) ≠ 66 by decide), sset_nk (show b ≠ 0 from fun q => h ⟨rfl, q⟩)]
  · simp only [sset_fn (show ¬ ((50 : Nat) = 66 ∧ b = 0) by simp)]
  · simp only [sset_ne (show (43 : Nat) ≠ 66 by decide)]
  · simp only [sset_fn (show ¬ ((42 : Nat) = 66 ∧ b = 0) by simp)]
  · rfl
  · rfl
  · simp only [sset_ne (show (10 : Nat) ≠ 66 by decide), sset_ne (show (11 : Nat) ≠ 66 by decide), sset_ne (show (12 : Nat) ≠ 66 by decide), sset_ne (show (13 : Nat) ≠ 66 by decide)]
  · simp only [sset_fn (show ¬ ((14 : Nat) = 66 ∧ b = 0) by simp)]
  · simp only [sset_ne (show (20 : Nat) ≠ 66 by decide), sset_ne (show (21 : Nat) ≠ 66 by decide), sset_ne (show (22 : Nat) ≠ 66 by decide), sset_ne (show (23 : Nat) ≠ 66 by decide)]
  · simp only [sset_ne (show (30 : Nat) ≠ 66 by decide), sset_ne (show (31 : Nat) ≠ 66 by decide), sset_ne (show (32 : Nat) ≠ 66 by decide), sset_ne (show (34 : Nat) ≠ 66 by decide), sset_ne (show (35 : Nat) ≠ 66 by decide), ppan_ne (show ¬ (33 = 66 ∧ b = 0) by simp)]
  · simp only [sset_fn (show ¬ ((60 : Nat) = 66 ∧ b = 0) by simp)]
  · simp only [sset_fn (show ¬ ((61 : Nat) = 66 ∧ b = 0) by simp)]
  · simp only [sset_fn (show ¬ ((62 : Nat) = 66 ∧ b = 0) by simp)]
  · simp only [sset_fn (show ¬ ((63 : Nat) = 66 ∧ b = 0) by simp)]
  · simp only [sset_fn (show ¬ ((40 : Nat) = 66 ∧ b = 0) by simp)]
  · simp only [sset_fn (show ¬ ((41 : Nat) = 66 ∧ b = 0) by simp)]
  · rfl
theorem gn_70 {a b : Nat} (h : ¬ (a = 4 ∧ b = 0)) : GC z ad N X (sset s 70 0 i v) a b = GC z ad N X s a b := by
  unfold GC
  split
  · simp only [sset_ne (show (0 : Nat) ≠ 70 by decide), sset_ne (show (1 : Nat) ≠ 70 by decide), sset_ne (show (2 : Nat) ≠ 70 by decide), sset_ne (show (3 : Nat) ≠ 70 by decide), sset_ne (show (4 : Nat) ≠ 70 by decide)]
  · rfl
  · rfl
  · rfl
  · simp only [sset_fn (show ¬ (70 = 70 ∧ b = 0) from fun q => h ⟨rfl, q.2⟩)]
  · simp only [sset_ne (show (51 : Nat) ≠ 70 by decide), sset_ne (show (52 : Nat) ≠ 70 by decide), sset_ne (show (53 : Nat) ≠ 70 by decide)]
  · simp only [sset_ne (show (64 : Nat) ≠ 70 by decide), sset_ne (show (65 : Nat) ≠ 70 by decide), sset_ne (show (66 : Nat) ≠ 70 by decide)]
  · simp only [sset_fn (show ¬ ((50 : Nat) = 70 ∧ b = 0) by simp)]
  · simp only [sset_ne (show (43 : Nat) ≠ 70 by decide)]
  · simp only [sset_fn (show ¬ ((42 : Nat) = 70 ∧ b = 0) by simp)]
  · rfl
  · rfl
  · simp only [sset_ne (show (10 : Nat) ≠ 70 by decide), sset_ne (show (11 : Nat) ≠ 70 by decide), sset_ne (show (12 : Nat) ≠ 70 by decide), sset_ne (show (13 : Nat) ≠ 70 by decide)]
  · simp only [sset_fn (show ¬ ((14 : Nat) = 70 ∧ b = 0) by simp)]
  · simp only [sset_ne (show (20 : Nat) ≠ 70 by decide), sset_ne (show (21 : Nat) ≠ 70 by decide), sset_ne (show (22 : Nat) ≠ 70 by decide), sset_ne (show (23 : Nat) ≠ 70 by decide)]
  · simp only [sset_ne (show (30 : Nat) ≠ 70 by decide), sset_ne (show (31 : Nat) ≠ 70 by decide), sset_ne (show (32 : Nat) ≠ 70 by decide), sset_ne (show (34 : Nat) ≠ 70 by decide), sset_ne (show (35 : Nat) ≠ 70 by decide), ppan_ne (show ¬ (33 = 70 ∧ b = 0) by simp)]
  · simp only [sset_fn (show ¬ ((60 : Nat) = 70 ∧ b = 0) by simp)]
  · simp only [sset_fn (show ¬ ((61 : Nat) = 70 ∧ b = 0) by simp)]
  · simp only [sset_fn (show ¬ ((62 : Nat) = 70 ∧ b = 0) by simp)]
  · simp only [sset_fn (show ¬ ((63 : Nat) = 70 ∧ b = 0) by simp)]
  · simp only [sset_fn (show ¬ ((40 : Nat) = 70 ∧ b = 0) by simp)]
  · simp only [sset_fn (show ¬ ((41 : Nat) = 70 ∧ b = 0) by simp)]
  · rfl
theorem gp_0 : up2 (GC z ad N X s) 0 0 (.inr (7, [.ref (ad 1 0), .ref (ad 2 0), .ref (ad 3 0), .ref (ad 8 0), .ref (ad 10 0), .ref (ad 5 0), .ref (ad 6 0), .int v, .int (s 1 0 0), .int (s 2 0 0), .int (s 3 0 0), .int (s 4 0 0), .ref (ad 12 6), .ref (ad 8 1), .ref (ad 10 1), .ref (ad 4 0)])) = GC z ad N X (sset s 0 0 0 v) := by
  funext a b
  by_cases h : a = 0 ∧ b = 0
  · obtain ⟨rfl, rfl⟩ := h
    rw [up2_self, kr_0]
    simp only [sset_self, sset_ne (show (1 : Nat) ≠ 0 by decide), sset_ne (show (2 : Nat) ≠ 0 by decide), sset_ne (show (3 : Nat) ≠ 0 by decide), sset_ne (show (4 : Nat) ≠ 0 by decide)]
  · rw [up2_ne h, gn_0 h]
theorem gp_1 : up2 (GC z ad N X s) 0 0 (.inr (7, [.ref (ad 1 0), .ref (ad 2 0), .ref (ad 3 0), .ref (ad 8 0), .ref (ad 10 0), .ref (ad 5 0), .ref (ad 6 0), .int (s 0 0 0), .int v, .int (s 2 0 0), .int (s 3 0 0), .int (s 4 0 0), .ref (ad 12 6), .ref (ad 8 1), .ref (ad 10 1), .ref (ad 4 0)])) = GC z ad N X (sset s 1 0 0 v) := by
  funext a b
  by_cases h : a = 0 ∧ b = 0
  · obtain ⟨rfl, rfl⟩ := h
    rw [up2_self, kr_0]
    simp only [sset_self, sset_ne (show (0 : Nat) ≠ 1 by decide), sset_ne (show (2 : Nat) ≠ 1 by decide), sset_ne (show (3 : Nat) ≠ 1 by decide), sset_ne (show (4 : Nat) ≠ 1 by decide)]
  · rw [up2_ne h, gn_1 h]
theorem gp_2 : up2 (GC z ad N X s) 0 0 (.inr (7, [.ref (ad 1 0), .ref (ad 2 0), .ref (ad 3 0), .ref (ad 8 0), .ref (ad 10 0), .ref (ad 5 0), .ref (ad 6 0), .int (s 0 0 0), .int (s 1 0 0), .int v, .int (s 3 0 0), .int (s 4 0 0), .ref (ad 12 6), .ref (ad 8 1), .ref (ad 10 1), .ref (ad 4 0)])) = GC z ad N X (sset s 2 0 0 v) := by
  funext a b
  by_cases h : a = 0 ∧ b = 0
  · obtain ⟨rfl, rfl⟩ := h
    rw [up2_self, kr_0]
    simp only [sset_self, sset_ne (show (0 : Nat) ≠ 2 by decide), sset_ne (show (1 : Nat) ≠ 2 by decide), sset_ne (show (3 : Nat) ≠ 2 by decide), sset_ne (show (4 : Nat) ≠ 2 by decide)]
  · rw [up2_ne h, gn_2 h]
theorem gp_3 : up2 (GC z ad N X s) 0 0 (.inr (7, [.ref (ad 1 0), .ref (ad 2 0), .ref (ad 3 0), .ref (ad 8 0), .ref (ad 10 0), .ref (ad 5 0), .ref (ad 6 0), .int (s 0 0 0), .int (s 1 0 0), .int (s 2 0 0), .int v, .int (s 4 0 0), .ref (ad 12 6), .ref (ad 8 1), .ref (ad 10 1), .ref (ad 4 0)])) = GC z ad N X (sset s 3 0 0 v) := by
  funext a b
  by_cases h : a = 0 ∧ b = 0
  · obtain ⟨rfl, rfl⟩ := h
    rw [up2_self, kr_0]
    simp only [sset_self, sset_ne (show (0 : Nat) ≠ 3 by decide), sset_ne (show (1 : Nat) ≠ 3 by decide), sset_ne (show (2 : Nat) ≠ 3 by decide), sset_ne (show (4 : Nat) ≠ 3 by decide)]
  · rw [up2_ne h, gn_3 h]
theorem gp_4 : up2 (GC z ad N X s) 0 0 (.inr (7, [.ref (ad 1 0), .ref (ad 2 0), .ref (ad 3 0), .ref (ad 8 0), .ref (ad 10 0), .ref (ad 5 0), .ref (ad 6 0), .int (s 0 0 0), .int (s 1 0 0), .int (s 2 0 0), .int (s 3 0 0), .int v, .ref (ad 12 6), .ref (ad 8 1), .ref (ad 10 1), .ref (ad 4 0)])) = GC z ad N X (sset s 4 0 0 v) := by
  funext a b
  by_cases h : a = 0 ∧ b = 0
  · obtain ⟨rfl, rfl⟩ := h
    rw [up2_self, kr_0]
    simp only [sset_self, sset_ne (show (0 : Nat) ≠ 4 by decide), sset_ne (show (1 : Nat) ≠ 4 by decide), sset_ne (show (2 : Nat) ≠ 4 by decide), sset_ne (show (3 : Nat) ≠ 4 by decide)]
  · rw [up2_ne h, gn_4 h]
theorem gp_10 (hk : vPan N k) : up2 (GC z ad N X s) 12 k (.inr (3, [.int v, .ref (ad 13 k), .int (s 11 k 0), .int (s 12 k 0), .int (s 13 k 0)])) = GC z ad N X (sset s 10 k 0 v) := by
  funext a b
  by_cases h : a = 12 ∧ b = k
  · obtain ⟨rfl, rfl⟩ := h
    rw [up2_self, kr_12 hk]
    simp only [sset_self, sset_ne (show (11 : Nat) ≠ 10 by decide), sset_ne (show (12 : Nat) ≠ 10 by decide), sset_ne (show (13 : Nat) ≠ 10 by decide)]
  · rw [up2_ne h, gn_10 h]
theorem gp_11 (hk : vPan N k) : up2 (GC z ad N X s) 12 k (.inr (3, [.int (s 10 k 0), .ref (ad 13 k), .int v, .int (s 12 k 0), .int (s 13 k 0)])) = GC z ad N X (sset s 11 k 0 v) := by
  funext a b
  by_cases h : a = 12 ∧ b = k
  · obtain ⟨rfl, rfl⟩ := h
    rw [up2_self, kr_12 hk]
    simp only [sset_self, sset_ne (show (10 : Nat) ≠ 11 by decide), sset_ne (show (12 : Nat) ≠ 11 by decide), sset_ne (show (13 : Nat) ≠ 11 by decide)]
  · rw [up2_ne h, gn_11 h]
theorem gp_12 (hk : vPan N k) : up2 (GC z ad N X s) 12 k (.inr (3, [.int (s 10 k 0), .ref (ad 13 k), .int (s 11 k 0), .int v, .int (s 13 k 0)])) = GC z ad N X (sset s 12 k 0 v) := by
  funext a b
  by_cases h : a = 12 ∧ b = k
  · obtain ⟨rfl, rfl⟩ := h
    rw [up2_self, kr_12 hk]
    simp only [sset_self, sset_ne (show (10 : Nat) ≠ 12 by decide), sset_ne (show (11 : Nat) ≠ 12 by decide), sset_ne (show (13 : Nat) ≠ 12 by decide)]
  · rw [up2_ne h, gn_12 h]
theorem gp_13 (hk : vPan N k) : up2 (GC z ad N X s) 12 k (.inr (3, [.int (s 10 k 0), .ref (ad 13 k), .int (s 11 k 0), .int (s 12 k 0), .int v])) = GC z ad N X (sset s 13 k 0 v) := by
  funext a b
  by_cases h : a = 12 ∧ b = k
  · obtain ⟨rfl, rfl⟩ := h
    rw [up2_self, kr_12 hk]
    simp only [sset_self, sset_ne (show (10 : Nat) ≠ 13 by decide), sset_ne (show (11 : Nat) ≠ 13 by decide), sset_ne (show (12 : Nat) ≠ 13 by decide)]
  · rw [up2_ne h, gn_13 h]
theorem gp_14 (hk : vPan N k) : up2 (GC z ad N X s) 13 k (.inl (z.2.2 0, 8, .inl (upd (s 14 k) i v))) = GC z ad N X (sset s 14 k i v) := by
  funext a b
  by_cases h : a = 13 ∧ b = k
  · obtain ⟨rfl, rfl⟩ := h
    rw [up2_self, kr_13 hk, sset_up]
  · rw [up2_ne h, gn_14 h]
theorem gp_20 (hk : k < N 14) : up2 (GC z ad N X s) 14 k (.inr (4, [.int v, .int (s 21 k 0), .int (s 22 k 0), .int (s 23 k 0)])) = GC z ad N X (sset s 20 k 0 v) := by
  funext a b
  by_cases h : a = 14 ∧ b = k
  · obtain ⟨rfl, rfl⟩ := h
    rw [up2_self, kr_14 hk]
    simp only [sset_self, sset_ne (show (21 : Nat) ≠ 20 by decide), sset_ne (show (22 : Nat) ≠ 20 by decide), sset_ne (show (23 : Nat) ≠ 20 by decide)]
  · rw [up2_ne h, gn_20 h]
theorem gp_21 (hk : k < N 14) : up2 (GC z ad N X s) 14 k (.inr (4, [.int (s 20 k 0), .int v, .int (s 22 k 0), .int (s 23 k 0)])) = GC z ad N X (sset s 21 k 0 v) := by
  funext a b
  by_cases h : a = 14 ∧ b = k
  · obtain ⟨rfl, rfl⟩ := h
    rw [up2_self, kr_14 hk]
    simp only [sset_self, sset_ne (show (20 : Nat) ≠ 21 by decide), sset_ne (show (22 : Nat) ≠ 21 by decide), sset_ne (show (23 : Nat) ≠ 21 by decide)]
  · rw [up2_ne h, gn_21 h]
theorem gp_22 (hk : k < N 14) : up2 (GC z ad N X s) 14 k (.inr (4, [.int (s 20 k 0), .int (s 21 k 0), .int v, .int (s 23 k 0)])) = GC z ad N X (sset s 22 k 0 v) := by
  funext a b
  by_cases h : a = 14 ∧ b = k
  · obtain ⟨rfl, rfl⟩ := h
    rw [up2_self, kr_14 hk]
    simp only [sset_self, sset_ne (show (20 : Nat) ≠ 22 by decide), sset_ne (show (21 : Nat) ≠ 22 by decide), sset_ne (show (23 : Nat) ≠ 22 by decide)]
  · rw [up2_ne h, gn_22 h]
theorem gp_23 (hk : k < N 14) : up2 (GC z ad N X s) 14 k (.inr (4, [.int (s 20 k 0), .int (s 21 k 0), .int (s 22 k 0), .int v])) = GC z ad N X (sset s 23 k 0 v) := by
  funext a b
  by_cases h : a = 14 ∧ b = k
  · obtain ⟨rfl, rfl⟩ := h
    rw [up2_self, kr_14 hk]
    simp only [sset_self, sset_ne (show (20 : Nat) ≠ 23 by decide), sset_ne (show (21 : Nat) ≠ 23 by decide), sset_ne (show (22 : Nat) ≠ 23 by decide)]
  · rw [up2_ne h, gn_23 h]
theorem gp_30 (hk : k < N 15) : up2 (GC z ad N X s) 15 k (.inr (5, [.int v, .int (s 31 k 0), .int (s 32 k 0), va_rf ((ppan N s k).map (ad 12)), .int (s 34 k 0), .int (s 35 k 0)])) = GC z ad N X (sset s 30 k 0 v) := by
  funext a b
  by_cases h : a = 15 ∧ b = k
  · obtain ⟨rfl, rfl⟩ := h
    rw [up2_self, kr_15 hk]
    simp only [sset_self, sset_ne (show (31 : Nat) ≠ 30 by decide), sset_ne (show (32 : Nat) ≠ 30 by decide), sset_ne (show (34 : Nat) ≠ 30 by decide), sset_ne (show (35 : Nat) ≠ 30 by decide), ppan_ne (show ¬ (33 = 30 ∧ b = b) by simp)]
  · rw [up2_ne h, gn_30 h]
theorem gp_31 (hk : k < N 15) : up2 (GC z ad N X s) 15 k (.inr (5, [.int (s 30 k 0), .int v, .int (s 32 k 0), va_rf ((ppan N s k).map (ad 12)), .int (s 34 k 0), .int (s 35 k 0)])) = GC z ad N X (sset s 31 k 0 v) := by
  funext a b
  by_cases h : a = 15 ∧ b = k
  · obtain ⟨rfl, rfl⟩ := h
    rw [up2_self, kr_15 hk]
    simp only [sset_self, sset_ne (show (30 : Nat) ≠ 31 by decide), sset_ne (show (32 : Nat) ≠ 31 by decide), sset_ne (show (34 : Nat) ≠ 31 by decide), sset_ne (show (35 : Nat) ≠ 31 by decide), ppan_ne (show ¬ (33 = 31 ∧ b = b) by simp)]
  · rw [up2_ne h, gn_31 h]
theorem gp_32 (hk : k < N 15) : up2 (GC z ad N X s) 15 k (.inr (5, [.int (s 30 k 0), .int (s 31 k 0), .int v, va_rf ((ppan N s k).map (ad 12)), .int (s 34 k 0), .int (s 35 k 0)])) = GC z ad N X (sset s 32 k 0 v) := by
  funext a b
  by_cases h : a = 15 ∧ b = k
  · obtain ⟨rfl, rfl⟩ := h
    rw [up2_self, kr_15 hk]
    simp only [sset_self, sset_ne (show (30 : Nat) ≠ 32 by decide), sset_ne (show (31 : Nat) ≠ 32 by decide), sset_ne (show (34 : Nat) ≠ 32 by decide), sset_ne (show (35 : Nat) ≠ 32 by decide), ppan_ne (show ¬ (33 = 32 ∧ b = b) by simp)]
  · rw [up2_ne h, gn_32 h]
theorem gp_34 (hk : k < N 15) : up2 (GC z ad N X s) 15 k (.inr (5, [.int (s 30 k 0), .int (s 31 k 0), .int (s 32 k 0), va_rf ((ppan N s k).map (ad 12)), .int v, .int (s 35 k 0)])) = GC z ad N X (sset s 34 k 0 v) := by
  funext a b
  by_cases h : a = 15 ∧ b = k
  · obtain ⟨rfl, rfl⟩ := h
    rw [up2_self, kr_15 hk]
    simp only [sset_self, sset_ne (show (30 : Nat) ≠ 34 by decide), sset_ne (show (31 : Nat) ≠ 34 by decide), sset_ne (show (32 : Nat) ≠ 34 by decide), sset_ne (show (35 : Nat) ≠ 34 by decide), ppan_ne (show ¬ (33 = 34 ∧ b = b) by simp)]
  · rw [up2_ne h, gn_34 h]
theorem gp_35 (hk : k < N 15) : up2 (GC z ad N X s) 15 k (.inr (5, [.int (s 30 k 0), .int (s 31 k 0), .int (s 32 k 0), va_rf ((ppan N s k).map (ad 12)), .int (s 34 k 0), .int v])) = GC z ad N X (sset s 35 k 0 v) := by
  funext a b
  by_cases h : a = 15 ∧ b = k
  · obtain ⟨rfl, rfl⟩ := h
    rw [up2_self, kr_15 hk]
    simp only [sset_self, sset_ne (show (30 : Nat) ≠ 35 by decide), sset_ne (show (31 : Nat) ≠ 35 by decide), sset_ne (show (32 : Nat) ≠ 35 by decide), sset_ne (show (34 : Nat) ≠ 35 by decide), ppan_ne (show ¬ (33 = 35 ∧ b = b) by simp)]
  · rw [up2_ne h, gn_35 h]
theorem gp_40 (hk : k < 16) : up2 (GC z ad N X s) 20 k (.inl (z.2.2 0, 8, .inl (upd (s 40 k) i v))) = GC z ad N X (sset s 40 k i v) := by
  funext a b
  by_cases h : a = 20 ∧ b = k
  · obtain ⟨rfl, rfl⟩ := h
    rw [up2_self, kr_20 hk, sset_up]
  · rw [up2_ne h, gn_40 h]
theorem gp_41 (hk : k < 2) : up2 (GC z ad N X s) 21 k (.inl (z.2.2 0, 8, .inl (upd (s 41 k) i v))) = GC z ad N X (sset s 41 k i v) := by
  funext a b
  by_cases h : a = 21 ∧ b = k
  · obtain ⟨rfl, rfl⟩ := h
    rw [up2_self, kr_21 hk, sset_up]
  · rw [up2_ne h, gn_41 h]
theorem gp_42 (hk : k < 2) : up2 (GC z ad N X s) 9 k (.inl (z.2.2 0, 10, .inl (upd (s 42 k) i v))) = GC z ad N X (sset s 42 k i v) := by
  funext a b
  by_cases h : a = 9 ∧ b = k
  · obtain ⟨rfl, rfl⟩ := h
    rw [up2_self, kr_9 hk, sset_up]
  · rw [up2_ne h, gn_42 h]
theorem gp_43 (hk : k < 2) : up2 (GC z ad N X s) 8 k (.inr (0, [.ref (ad 9 k), .int v])) = GC z ad N X (sset s 43 k 0 v) := by
  funext a b
  by_cases h : a = 8 ∧ b = k
  · obtain ⟨rfl, rfl⟩ := h
    rw [up2_self, kr_8 hk]
    simp only [sset_self, ]
  · rw [up2_ne h, gn_43 h]
theorem gp_50 : up2 (GC z ad N X s) 7 0 (.inl (z.2.2 0, 4, .inl (upd (s 50 0) i v))) = GC z ad N X (sset s 50 0 i v) := by
  funext a b
  by_cases h : a = 7 ∧ b = 0
  · obtain ⟨rfl, rfl⟩ := h
    rw [up2_self, kr_7, sset_up]
  · rw [up2_ne h, gn_50 h]
theorem gp_51 : up2 (GC z ad N X s) 5 0 (.inr (6, [.ref (ad 7 0), .int v, .int (s 52 0 0), .int (s 53 0 0)])) = GC z ad N X (sset s 51 0 0 v) := by
  funext a b
  by_cases h : a = 5 ∧ b = 0
  · obtain ⟨rfl, rfl⟩ := h
    rw [up2_self, kr_5]
    simp only [sset_self, sset_ne (show (52 : Nat) ≠ 51 by decide), sset_ne (show (53 : Nat) ≠ 51 by decide)]
  · rw [up2_ne h, gn_51 h]
theorem gp_52 : up2 (GC z ad N X s) 5 0 (.inr (6, [.ref (ad 7 0), .int (s 51 0 0), .int v, .int (s 53 0 0)])) = GC z ad N X (sset s 52 0 0 v) := by
  funext a b
  by_cases h : a = 5 ∧ b = 0
  · obtain ⟨rfl, rfl⟩ := h
    rw [up2_self, kr_5]
    simp only [sset_self, sset_ne (show (51 : Nat) ≠ 52 by decide), sset_ne (show (53 : Nat) ≠ 52 by decide)]
  · rw [up2_ne h, gn_52 h]
theorem gp_53 : up2 (GC z ad N X s) 5 0 (.inr (6, [.ref (ad 7 0), .int (s 51 0 0), .int (s 52 0 0), .int v])) = GC z ad N X (sset s 53 0 0 v) := by
  funext a b
  by_cases h : a = 5 ∧ b = 0
  · obtain ⟨rfl, rfl⟩ := h
    rw [up2_self, kr_5]
    simp only [sset_self, sset_ne (show (51 : Nat) ≠ 53 by decide), sset_ne (show (52 : Nat) ≠ 53 by decide)]
  · rw [up2_ne h, gn_53 h]
theorem gp_60 : up2 (GC z ad N X s) 16 0 (.inl (z.2.2 0, 6, .inl (upd (s 60 0) i v))) = GC z ad N X (sset s 60 0 i v) := by
  funext a b
  by_cases h : a = 16 ∧ b = 0
  · obtain ⟨rfl, rfl⟩ := h
    rw [up2_self, kr_16, sset_up]
  · rw [up2_ne h, gn_60 h]
theorem gp_61 : up2 (GC z ad N X s) 17 0 (.inl (z.2.2 0, 3, .inl (upd (s 61 0) i v))) = GC z ad N X (sset s 61 0 i v) := by
  funext a b
  by_cases h : a = 17 ∧ b = 0
  · obtain ⟨rfl, rfl⟩ := h
    rw [up2_self, kr_17, sset_up]
  · rw [up2_ne h, gn_61 h]
theorem gp_62 : up2 (GC z ad N X s) 18 0 (.inl (z.2.2 0, 3, .inl (upd (s 62 0) i v))) = GC z ad N X (sset s 62 0 i v) := by
  funext a b
  by_cases h : a = 18 ∧ b = 0
  · obtain ⟨rfl, rfl⟩ := h
    rw [up2_self, kr_18, sset_up]
  · rw [up2_ne h, gn_62 h]
theorem gp_63 : up2 (GC z ad N X s) 19 0 (.inl (z.2.2 0, 3, .inl (upd (s 63 0) i v))) = GC z ad N X (sset s 63 0 i v) := by
  funext a b
  by_cases h : a = 19 ∧ b = 0
  · obtain ⟨rfl, rfl⟩ := h
    rw [up2_self, kr_19, sset_up]
  · rw [up2_ne h, gn_63 h]
theorem gp_64 : up2 (GC z ad N X s) 6 0 (.inr (1, [.ref (ad 16 0), .ref (ad 17 0), .ref (ad 18 0), .ref (ad 19 0), .int v, .int (s 65 0 0), .int (s 66 0 0)])) = GC z ad N X (sset s 64 0 0 v) := by
  funext a b
  by_cases h : a = 6 ∧ b = 0
  · obtain ⟨rfl, rfl⟩ := h
    rw [up2_self, kr_6]
    simp only [sset_self, sset_ne (show (65 : Nat) ≠ 64 by decide), sset_ne (show (66 : Nat) ≠ 64 by decide)]
  · rw [up2_ne h, gn_64 h]
theorem gp_65 : up2 (GC z ad N X s) 6 0 (.inr (1, [.ref (ad 16 0), .ref (ad 17 0), .ref (ad 18 0), .ref (ad 19 0), .int (s 64 0 0), .int v, .int (s 66 0 0)])) = GC z ad N X (sset s 65 0 0 v) := by
  funext a b
  by_cases h : a = 6 ∧ b = 0
  · obtain ⟨rfl, rfl⟩ := h
    rw [up2_self, kr_6]
    simp only [sset_self, sset_ne (show (64 : Nat) ≠ 65 by decide), sset_ne (show (66 : Nat) ≠ 65 by decide)]
  · rw [up2_ne h, gn_65 h]
theorem gp_66 : up2 (GC z ad N X s) 6 0 (.inr (1, [.ref (ad 16 0), .ref (ad 17 0), .ref (ad 18 0), .ref (ad 19 0), .int (s 64 0 0), .int (s 65 0 0), .int v])) = GC z ad N X (sset s 66 0 0 v) := by
  funext a b
  by_cases h : a = 6 ∧ b = 0
  · obtain ⟨rfl, rfl⟩ := h
    rw [up2_self, kr_6]
    simp only [sset_self, sset_ne (show (64 : Nat) ≠ 66 by decide), sset_ne (show (65 : Nat) ≠ 66 by decide)]
  · rw [up2_ne h, gn_66 h]
theorem gp_70 : up2 (GC z ad N X s) 4 0 (.inl (z.2.2 0, 8, .inl (upd (s 70 0) i v))) = GC z ad N X (sset s 70 0 i v) := by
  funext a b
  by_cases h : a = 4 ∧ b = 0
  · obtain ⟨rfl, rfl⟩ := h
    rw [up2_self, kr_4, sset_up]
  · rw [up2_ne h, gn_70 h]
theorem gn_33 {a b : Nat} (h : ¬ (a = 15 ∧ b = k)) : GC z ad N X (sset s 33 k i v) a b = GC z ad N X s a b := by
  unfold GC
  split
  · simp only [sset_ne (show (0 : Nat) ≠ 33 by decide), sset_ne (show (1 : Nat) ≠ 33 by decide), sset_ne (show (2 : Nat) ≠ 33 by decide), sset_ne (show (3 : Nat) ≠ 33 by decide), sset_ne (show (4 : Nat) ≠ 33 by decide)]
  · rfl
  · rfl
  · rfl
  · simp only [sset_fn (show ¬ ((70 : Nat) = 33 ∧ b = k) by simp)]
  · simp only [sset_ne (show (51 : Nat) ≠ 33 by decide), sset_ne (show (52 : Nat) ≠ 33 by decide), sset_ne (show (53 : Nat) ≠ 33 by decide)]
  · simp only [sset_ne (show (64 : Nat) ≠ 33 by decide), sset_ne (show (65 : Nat) ≠ 33 by decide), sset_ne (show (66 : Nat) ≠ 33 by decide)]
  · simp only [sset_fn (show ¬ ((50 : Nat) = 33 ∧ b = k) by simp)]
  · simp only [sset_ne (show (43 : Nat) ≠ 33 by decide)]
  · simp only [sset_fn (show ¬ ((42 : Nat) = 33 ∧ b = k) by simp)]
  · rfl
  · rfl
  · simp only [sset_ne (show (10 : Nat) ≠ 33 by decide), sset_ne (show (11 : Nat) ≠ 33 by decide), sset_ne (show (12 : Nat) ≠ 33 by decide), sset_ne (show (13 : Nat) ≠ 33 by decide)]
  · simp only [sset_fn (show ¬ ((14 : Nat) = 33 ∧ b = k) by simp)]
  · simp only [sset_ne (show (20 : Nat) ≠ 33 by decide), sset_ne (show (21 : Nat) ≠ 33 by decide), sset_ne (show (22 : Nat) ≠ 33 by decide), sset_ne (show (23 : Nat) ≠ 33 by decide)]
  · simp only [sset_ne (show (30 : Nat) ≠ 33 by decide), sset_ne (show (31 : Nat) ≠ 33 by decide), sset_ne (show (32 : Nat) ≠ 33 by decide), sset_ne (show (34 : Nat) ≠ 33 by decide), sset_ne (show (35 : Nat) ≠ 33 by decide), ppan_ne (show ¬ (33 = 33 ∧ b = k) from fun q => h ⟨rfl, q.2⟩)]
  · simp only [sset_fn (show ¬ ((60 : Nat) = 33 ∧ b = k) by simp)]
  · simp only [sset_fn (show ¬ ((61 : Nat) = 33 ∧ b = k) by simp)]
  · simp only [sset_fn (show ¬ ((62 : Nat) = 33 ∧ b = k) by simp)]
  · simp only [sset_fn (show ¬ ((63 : Nat) = 33 ∧ b = k) by simp)]
  · simp only [sset_fn (show ¬ ((40 : Nat) = 33 ∧ b = k) by simp)]
  · simp only [sset_fn (show ¬ ((41 : Nat) = 33 ∧ b = k) by simp)]
  · rfl
def penc (r : Option Nat) : Int32 := match r with
  | none => -1
  | some q => nI q
theorem ppan_enc {r : Option Nat} (hr : ∀ q, r = some q → q < N 12 ∧ q < 2 ^ 31) : ppan N (sset s 33 k 0 (penc r)) k = r := by
  unfold ppan
  rw [sset_self]
  cases r with
  | none => exact if_neg (fun q => absurd q.1 (by decide))
  | some q =>
    obtain ⟨h1, h2⟩ := hr q rfl
    have e : ix (nI q) = q := nI_clamp h2
    show (if 0 ≤ (nI q).toInt ∧ ix (nI q) < N 12 then some (ix (nI q)) else none) = some q
    rw [e, nI_toInt h2, if_pos ⟨Int.natCast_nonneg q, h1⟩]
theorem gp_33 {r : Option Nat} (hk : k < N 15) (hr : ∀ q, r = some q → q < N 12 ∧ q < 2 ^ 31) : up2 (GC z ad N X s) 15 k (.inr (5, [.int (s 30 k 0), .int (s 31 k 0), .int (s 32 k 0), va_rf (r.map (ad 12)), .int (s 34 k 0), .int (s 35 k 0)])) = GC z ad N X (sset s 33 k 0 (penc r)) := by
  funext a b
  by_cases h : a = 15 ∧ b = k
  · obtain ⟨rfl, rfl⟩ := h
    rw [up2_self, kr_15 hk, ppan_enc hr]
    simp only [sset_ne (show (30 : Nat) ≠ 33 by decide), sset_ne (show (31 : Nat) ≠ 33 by decide), sset_ne (show (32 : Nat) ≠ 33 by decide), sset_ne (show (34 : Nat) ≠ 33 by decide), sset_ne (show (35 : Nat) ≠ 33 by decide)]
  · rw [up2_ne h, gn_33 h]
end GCR
