/-! 60: the law's loops -/
section LOOPS
variable {p : Program} {l : Launch} {e : Env} {s : State} {m : MethodId} {below : List Frame} {meth : Method} {c : Code} {b L : Nat} {xs : Nat → Int32} {z : Zt} {ad0 : Ad} {X : Gt} {Q : State → Prop}
theorem LX.to {ad ad1 : Ad} (h : LX p l e s m meth c z ad) (hA : Raw ad1) : LX p l e s m meth c z ad1 := ⟨h.1, h.2.1, h.2.2.1, h.2.2.2.1, h.2.2.2.2.1, h.2.2.2.2.2.1, hA⟩
theorem nI_s {i : Nat} : nI i + Int32.ofInt 1 = nI (i + 1) := (nI_1 i)
theorem nI_nl2 {n i : Nat} (hn : n < 1000) (h : i < n) : ¬ nI n ≤ nI i := fun q => by
  rw [Int32.le_iff_toInt_le, nI_toInt (by omega), nI_toInt (by omega)] at q
  omega

theorem lo_pan (hLX : LX p l e s m meth c z ad0) (hX : va_X b L xs s s.heap) (hbl : b < s.heap.size) (hbA : ¬ zA z b) (hL9 : L ≤ 260) : ∀ (d i : Nat), i + d = 4 → ∀ (ad : Ad) (N : Nt) (u : St) (H : Heap) (locs : List Loc) (ls : Array Slot), Raw ad → YS i 0 0 0 N u → GW z ad (GC z ad N X u) H → va_S (zA z) s.heap H locs → lv_has ls 13 [(0, .ref b), (1, .ref (ad 0 0)), (2, .int (nI i))] → (∀ (ad1 : Ad) (N1 : Nt) (u1 : St) (H1 : Heap) (locs1 : List Loc) (ls1 : Array Slot), Raw ad1 → YS 4 0 0 0 N1 u1 → GW z ad1 (GC z ad1 N1 X u1) H1 → va_S (zA z) s.heap H1 locs1 → lv_has ls1 13 [(0, .ref b), (1, .ref (ad1 0 0))] → W p l e room_1 s m #[Value.ref b] below meth c H1 locs1 2000 20000 Q (F0 m 40 ls1 [])) → W p l e room_1 s m #[Value.ref b] below meth c H locs (1000 + 18 * i) (10000 + 100 * i) Q (F0 m 10 ls []) := by
  obtain ⟨hx, hb, hml, hown, hSW, hfl, -⟩ := id hLX
  intro d
  induction d with
  | zero =>
    intro i hi ad N u H locs ls hA hY hW hS hl kk
    obtain rfl : i = 4 := by omega
    refine lv_iload_n hx hb dL_law_10 rfl (lv_at hl 2 rfl) ?_
    refine lv_iconst (v := 4) hx hb dL_law_11 (by decide) ?_
    refine lv_icmp_ge (tgt := 40) hx hb dL_law_12 (by decide) (fun _ => ?_) (fun hc => absurd (by decide) hc)
    refine W.widen (k := 2000) (n := 20000) (Nat.le_of_ble_eq_true rfl) (Nat.le_of_ble_eq_true rfl) ?_
    exact kk ad N u H locs ls hA hY hW hS (lv_sub hl [0, 1] rfl)
  | succ d ih =>
    intro i hi ad N u H locs ls hA hY hW hS hl kk
    refine lv_iload_n hx hb dL_law_10 rfl (lv_at hl 2 rfl) ?_
    refine lv_iconst (v := 4) hx hb dL_law_11 (by decide) ?_
    refine lv_icmp_ge (tgt := 40) hx hb dL_law_12 (by decide) (fun hc => absurd hc (nI_nl2 (n := 4) (by decide) (by omega))) (fun _ => ?_)
    obtain ⟨u9, hf, hY9⟩ := ys_pan (cl := lcell L xs) hY (by omega)
    refine seg_span hX hbl hbA hL9 (nI i) (hLX.to hA) ⟨by omega, by omega⟩ (lv_sub hl [2, 0, 1] rfl) hW hS hf (fun ad1 H1 locs1 ls1 hA1 hS1 hW1 hl1 => ?_)
    refine W.widen (k := 1000 + 18 * (i + 1)) (n := 10000 + 100 * (i + 1)) (by omega) (by omega) ?_
    refine lv_iinc (v := nI (i + 1)) (lv' := [(2, .int (nI (i + 1))), (0, .ref b), (1, .ref (ad1 0 0))]) hx hb dL_law_34 hl1 (k := 2) rfl nI_s (by decide) rfl (fun ls hl => ?_)
    refine lv_goto (tgt := 10) hx hb dL_law_37 (by decide) ?_
    exact ih (i + 1) (by omega) ad1 _ u9 H1 locs1 ls hA1 hY9 hW1 hS1 (lv_sub hl [1, 2, 0] rfl) kk
theorem lo_phrase (hLX : LX p l e s m meth c z ad0) (hX : va_X b L xs s s.heap) (hbl : b < s.heap.size) (hbA : ¬ zA z b) (hL9 : L ≤ 260) : ∀ (d i : Nat), i + d = 6 → ∀ (ad : Ad) (N : Nt) (u : St) (H : Heap) (locs : List Loc) (ls : Array Slot), Raw ad → YS 4 i 0 0 N u → GW z ad (GC z ad N X u) H → va_S (zA z) s.heap H locs → lv_has ls 13 [(0, .ref b), (1, .ref (ad 0 0)), (2, .int (nI i))] → (∀ (ad1 : Ad) (N1 : Nt) (u1 : St) (H1 : Heap) (locs1 : List Loc) (ls1 : Array Slot), Raw ad1 → YS 4 6 0 0 N1 u1 → GW z ad1 (GC z ad1 N1 X u1) H1 → va_S (zA z) s.heap H1 locs1 → lv_has ls1 13 [(0, .ref b), (1, .ref (ad1 0 0))] → W p l e room_1 s m #[Value.ref b] below meth c H1 locs1 3000 30000 Q (F0 m 111 ls1 [])) → W p l e room_1 s m #[Value.ref b] below meth c H locs (2000 + 18 * i) (20000 + 100 * i) Q (F0 m 42 ls []) := by
  obtain ⟨hx, hb, hml, hown, hSW, hfl, -⟩ := id hLX
  intro d
  induction d with
  | zero =>
    intro i hi ad N u H locs ls hA hY hW hS hl kk
    obtain rfl : i = 6 := by omega
    refine lv_iload_n hx hb dL_law_42 rfl (lv_at hl 2 rfl) ?_
    refine lv_bipush (v := 6) hx hb dL_law_43 (by decide) ?_
    refine lv_icmp_ge (tgt := 111) hx hb dL_law_45 (by decide) (fun _ => ?_) (fun hc => absurd (by decide) hc)
    refine W.widen (k := 3000) (n := 30000) (Nat.le_of_ble_eq_true rfl) (Nat.le_of_ble_eq_true rfl) ?_
    exact kk ad N u H locs ls hA hY hW hS (lv_sub hl [0, 1] rfl)
  | succ d ih =>
    intro i hi ad N u H locs ls hA hY hW hS hl kk
    refine lv_iload_n hx hb dL_law_42 rfl (lv_at hl 2 rfl) ?_
    refine lv_bipush (v := 6) hx hb dL_law_43 (by decide) ?_
    refine lv_icmp_ge (tgt := 111) hx hb dL_law_45 (by decide) (fun hc => absurd hc (nI_nl2 (n := 6) (by decide) (by omega))) (fun _ => ?_)
    obtain ⟨u9, hf, hY9⟩ := ys_phrase (cl := lcell L xs) hY (by omega)
    refine seg_sphrase hX hbl hbA hL9 (nI i) (hLX.to hA) ⟨by omega, by omega⟩ (lv_sub hl [2, 0, 1] rfl) hW hS hf (fun ad1 H1 locs1 ls1 hA1 hS1 hW1 hl1 => ?_)
    refine W.widen (k := 2000 + 18 * (i + 1)) (n := 20000 + 100 * (i + 1)) (by omega) (by omega) ?_
    refine lv_iinc (v := nI (i + 1)) (lv' := [(2, .int (nI (i + 1))), (0, .ref b), (1, .ref (ad1 0 0))]) hx hb dL_law_105 hl1 (k := 2) rfl nI_s (by decide) rfl (fun ls hl => ?_)
    refine lv_goto (tgt := 42) hx hb dL_law_108 (by decide) ?_
    exact ih (i + 1) (by omega) ad1 _ u9 H1 locs1 ls hA1 hY9 hW1 hS1 (lv_sub hl [1, 2, 0] rfl) kk
theorem lo_player (hLX : LX p l e s m meth c z ad0) (hX : va_X b L xs s s.heap) (hbl : b < s.heap.size) (hbA : ¬ zA z b) (hL9 : L ≤ 260) : ∀ (d i : Nat), i + d = 6 → ∀ (ad : Ad) (N : Nt) (u : St) (H : Heap) (locs : List Loc) (ls : Array Slot), Raw ad → YS 4 6 i 0 N u → GW z ad (GC z ad N X u) H → va_S (zA z) s.heap H locs → lv_has ls 13 [(0, .ref b), (1, .ref (ad 0 0)), (2, .int (nI i))] → (∀ (ad1 : Ad) (N1 : Nt) (u1 : St) (H1 : Heap) (locs1 : List Loc) (ls1 : Array Slot), Raw ad1 → YS 4 6 6 0 N1 u1 → GW z ad1 (GC z ad1 N1 X u1) H1 → va_S (zA z) s.heap H1 locs1 → lv_has ls1 13 [(0, .ref b), (1, .ref (ad1 0 0))] → W p l e room_1 s m #[Value.ref b] below meth c H1 locs1 4000 40000 Q (F0 m 185 ls1 [])) → W p l e room_1 s m #[Value.ref b] below meth c H locs (3000 + 18 * i) (30000 + 100 * i) Q (F0 m 113 ls []) := by
  obtain ⟨hx, hb, hml, hown, hSW, hfl, -⟩ := id hLX
  intro d
  induction d with
  | zero =>
    intro i hi ad N u H locs ls hA hY hW hS hl kk
    obtain rfl : i = 6 := by omega
    refine lv_iload_n hx hb dL_law_113 rfl (lv_at hl 2 rfl) ?_
    refine lv_bipush (v := 6) hx hb dL_law_114 (by decide) ?_
    refine lv_icmp_ge (tgt := 185) hx hb dL_law_116 (by decide) (fun _ => ?_) (fun hc => absurd (by decide) hc)
    refine W.widen (k := 4000) (n := 40000) (Nat.le_of_ble_eq_true rfl) (Nat.le_of_ble_eq_true rfl) ?_
    exact kk ad N u H locs ls hA hY hW hS (lv_sub hl [0, 1] rfl)
  | succ d ih =>
    intro i hi ad N u H locs ls hA hY hW hS hl kk
    refine lv_iload_n hx hb dL_law_113 rfl (lv_at hl 2 rfl) ?_
    refine lv_bipush (v := 6) hx hb dL_law_114 (by decide) ?_
    refine lv_icmp_ge (tgt := 185) hx hb dL_law_116 (by decide) (fun hc => absurd hc (nI_nl2 (n := 6) (by decide) (by omega))) (fun _ => ?_)
    obtain ⟨u9, hf, hY9⟩ := ys_player (cl := lcell L xs) hY (by omega)
    refine seg_splayer hX hbl hbA hL9 (nI i) (hLX.to hA) ⟨by omega, by omega⟩ (lv_sub hl [2, 0, 1] rfl) hW hS hf (fun ad1 H1 locs1 ls1 hA1 hS1 hW1 hl1 => ?_)
    refine W.widen (k := 3000 + 18 * (i + 1)) (n := 30000 + 100 * (i + 1)) (by omega) (by omega) ?_
    refine lv_iinc (v := nI (i + 1)) (lv' := [(2, .int (nI (i + 1))), (0, .ref b), (1, .ref (ad1 0 0))]) hx hb dL_law_179 hl1 (k := 2) rfl nI_s (by decide) rfl (fun ls hl => ?_)
    refine lv_goto (tgt := 113) hx hb dL_law_182 (by decide) ?_
    exact ih (i + 1) (by omega) ad1 _ u9 H1 locs1 ls hA1 hY9 hW1 hS1 (lv_sub hl [1, 2, 0] rfl) kk
theorem lo_rival (hLX : LX p l e s m meth c z ad0) (hX : va_X b L xs s s.heap) (hbl : b < s.heap.size) (hbA : ¬ zA z b) (hL9 : L ≤ 260) : ∀ (d i : Nat), i + d = 3 → ∀ (ad : Ad) (N : Nt) (u : St) (H : Heap) (locs : List Loc) (ls : Array Slot), Raw ad → YS 4 6 6 i N u → GW z ad (GC z ad N X u) H → va_S (zA z) s.heap H locs → lv_has ls 13 [(0, .ref b), (1, .ref (ad 0 0)), (2, .int (nI i))] → (∀ (ad1 : Ad) (N1 : Nt) (u1 : St) (H1 : Heap) (locs1 : List Loc) (ls1 : Array Slot), Raw ad1 → YS 4 6 6 3 N1 u1 → GW z ad1 (GC z ad1 N1 X u1) H1 → va_S (zA z) s.heap H1 locs1 → lv_has ls1 13 [(0, .ref b), (1, .ref (ad1 0 0))] → W p l e room_1 s m #[Value.ref b] below meth c H1 locs1 5000 50000 Q (F0 m 222 ls1 [])) → W p l e room_1 s m #[Value.ref b] below meth c H locs (4000 + 18 * i) (40000 + 100 * i) Q (F0 m 187 ls []) := by
  obtain ⟨hx, hb, hml, hown, hSW, hfl, -⟩ := id hLX
  intro d
  induction d with
  | zero =>
    intro i hi ad N u H locs ls hA hY hW hS hl kk
    obtain rfl : i = 3 := by omega
    refine lv_iload_n hx hb dL_law_187 rfl (lv_at hl 2 rfl) ?_
    refine lv_iconst (v := 3) hx hb dL_law_188 (by decide) ?_
    refine lv_icmp_ge (tgt := 222) hx hb dL_law_189 (by decide) (fun _ => ?_) (fun hc => absurd (by decide) hc)
    refine W.widen (k := 5000) (n := 50000) (Nat.le_of_ble_eq_true rfl) (Nat.le_of_ble_eq_true rfl) ?_
    exact kk ad N u H locs ls hA hY hW hS (lv_sub hl [0, 1] rfl)
  | succ d ih =>
    intro i hi ad N u H locs ls hA hY hW hS hl kk
    refine lv_iload_n hx hb dL_law_187 rfl (lv_at hl 2 rfl) ?_
    refine lv_iconst (v := 3) hx hb dL_law_188 (by decide) ?_
    refine lv_icmp_ge (tgt := 222) hx hb dL_law_189 (by decide) (fun hc => absurd hc (nI_nl2 (n := 3) (by decide) (by omega))) (fun _ => ?_)
    obtain ⟨u9, hf, hY9⟩ := ys_rival (cl := lcell L xs) hY (by omega)
    refine seg_srival hX hbl hbA hL9 (nI i) (hLX.to hA) ⟨by omega, by omega⟩ (lv_sub hl [2, 0, 1] rfl) hW hS hf (fun H1 locs1 ls1 hS1 hW1 hl1 => ?_)
    refine W.widen (k := 4000 + 18 * (i + 1)) (n := 40000 + 100 * (i + 1)) (by omega) (by omega) ?_
    refine lv_iinc (v := nI (i + 1)) (lv' := [(2, .int (nI (i + 1))), (0, .ref b), (1, .ref (ad 0 0))]) hx hb dL_law_216 hl1 (k := 2) rfl nI_s (by decide) rfl (fun ls hl => ?_)
    refine lv_goto (tgt := 187) hx hb dL_law_219 (by decide) ?_
    exact ih (i + 1) (by omega) ad _ u9 H1 locs1 ls hA hY9 hW1 hS1 (lv_sub hl [1, 2, 0] rfl) kk
theorem lo_turn (hLX : LX p l e s m meth c z ad0) (hX : va_X b L xs s s.heap) (hbl : b < s.heap.size) (hbA : ¬ zA z b) (hL9 : L ≤ 260) : ∀ (d i : Nat), i + d = 54 → ∀ (ad : Ad) (N : Nt) (u : St) (H : Heap) (locs : List Loc) (ls : Array Slot), Raw ad → Inv N u → GW z ad (GC z ad N X u) H → va_S (zA z) s.heap H locs → lv_has ls 13 [(0, .ref b), (1, .ref (ad 0 0)), (2, .int (nI i))] → (∀ (ad1 : Ad) (N1 : Nt) (u1 : St) (H1 : Heap) (locs1 : List Loc) (ls1 : Array Slot), Raw ad1 → Inv N1 u1 → GW z ad1 (GC z ad1 N1 X u1) H1 → va_S (zA z) s.heap H1 locs1 → lv_has ls1 13 [(0, .ref b), (1, .ref (ad1 0 0))] → W p l e room_1 s m #[Value.ref b] below meth c H1 locs1 6000 60000 Q (F0 m 817 ls1 [])) → W p l e room_1 s m #[Value.ref b] below meth c H locs (5000 + 18 * i) (50000 + 100 * i) Q (F0 m 224 ls []) := by
  obtain ⟨hx, hb, hml, hown, hSW, hfl, -⟩ := id hLX
  intro d
  induction d with
  | zero =>
    intro i hi ad N u H locs ls hA hY hW hS hl kk
    obtain rfl : i = 54 := by omega
    refine lv_iload_n hx hb dL_law_224 rfl (lv_at hl 2 rfl) ?_
    refine lv_bipush (v := 54) hx hb dL_law_225 (by decide) ?_
    refine lv_icmp_ge (tgt := 817) hx hb dL_law_227 (by decide) (fun _ => ?_) (fun hc => absurd (by decide) hc)
    refine W.widen (k := 6000) (n := 60000) (Nat.le_of_ble_eq_true rfl) (Nat.le_of_ble_eq_true rfl) ?_
    exact kk ad N u H locs ls hA hY hW hS (lv_sub hl [0, 1] rfl)
  | succ d ih =>
    intro i hi ad N u H locs ls hA hY hW hS hl kk
    refine lv_iload_n hx hb dL_law_224 rfl (lv_at hl 2 rfl) ?_
    refine lv_bipush (v := 54) hx hb dL_law_225 (by decide) ?_
    refine lv_icmp_ge (tgt := 817) hx hb dL_law_227 (by decide) (fun hc => absurd hc (nI_nl2 (n := 54) (by decide) (by omega))) (fun _ => ?_)
    refine seg_sxy hX hbl hbA hL9 (nI i) (hLX.to hA) ⟨by omega, by omega⟩ (lv_sub hl [2, 0, 1] rfl) hW hS (xy_ok (cl := lcell L xs) (by omega)) (fun x y H locs ls hS hW hl => ?_)
    obtain ⟨u9, hf, hY9⟩ := step_ok hY x y
    refine seg_step x y (hLX.to hA) ⟨by omega, by omega⟩ (lv_sub hl [4, 3, 2, 0, 1] rfl) hW hS hf (fun H1 locs1 ls1 hS1 hW1 hl1 => ?_)
    refine W.widen (k := 5000 + 18 * (i + 1)) (n := 50000 + 100 * (i + 1)) (by omega) (by omega) ?_
    refine lv_iinc (v := nI (i + 1)) (lv' := [(2, .int (nI (i + 1))), (0, .ref b), (1, .ref (ad 0 0))]) hx hb dL_law_811 hl1 (k := 2) rfl nI_s (by decide) rfl (fun ls hl => ?_)
    refine lv_goto (tgt := 224) hx hb dL_law_814 (by decide) ?_
    exact ih (i + 1) (by omega) ad _ u9 H1 locs1 ls hA hY9 hW1 hS1 (lv_sub hl [1, 2, 0] rfl) kk
end LOOPS
