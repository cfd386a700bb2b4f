/-! 34: the law's loops that make the yard: one turn each -/
theorem mf_X7_pan : MFv yX7_pan cX7_pan 3 (some .int) 1 := ⟨List.mem_of_getElem? (i := 224) (by decide +kernel), List.mem_of_getElem? (i := 225) (by decide +kernel), List.mem_of_getElem? (i := 29) (by decide +kernel), List.mem_of_getElem? (i := 226) (by decide +kernel), by decide +kernel, by decide +kernel, by decide +kernel⟩
theorem lk_L_22 : LK RL 22 yX7_pan := Or.inl (List.mem_of_getElem? (i := 223) (by decide +kernel))
theorem mf_X7_phrase : MFv yX7_phrase cX7_phrase 5 (some .int) 3 := ⟨List.mem_of_getElem? (i := 347) (by decide +kernel), List.mem_of_getElem? (i := 348) (by decide +kernel), List.mem_of_getElem? (i := 29) (by decide +kernel), List.mem_of_getElem? (i := 349) (by decide +kernel), by decide +kernel, by decide +kernel, by decide +kernel⟩
theorem lk_L_29 : LK RL 29 yX7_phrase := Or.inl (List.mem_of_getElem? (i := 346) (by decide +kernel))
theorem mf_X7_player : MFv yX7_player cX7_player 5 (some .int) 3 := ⟨List.mem_of_getElem? (i := 451) (by decide +kernel), List.mem_of_getElem? (i := 452) (by decide +kernel), List.mem_of_getElem? (i := 29) (by decide +kernel), List.mem_of_getElem? (i := 453) (by decide +kernel), by decide +kernel, by decide +kernel, by decide +kernel⟩
theorem lk_L_33 : LK RL 33 yX7_player := Or.inl (List.mem_of_getElem? (i := 450) (by decide +kernel))
theorem lk_L_36 : LK RL 36 yX7_give := Or.inl (List.mem_of_getElem? (i := 486) (by decide +kernel))
theorem mf_X7_give : MFv yX7_give cX7_give 6 (some .int) 2 := ⟨List.mem_of_getElem? (i := 487) (by decide +kernel), List.mem_of_getElem? (i := 488) (by decide +kernel), List.mem_of_getElem? (i := 29) (by decide +kernel), List.mem_of_getElem? (i := 489) (by decide +kernel), by decide +kernel, by decide +kernel, by decide +kernel⟩
theorem lk_L_39 : LK RL 39 yX7_rival := Or.inl (List.mem_of_getElem? (i := 531) (by decide +kernel))
theorem mf_X7_rival : MFv yX7_rival cX7_rival 3 (some .int) 1 := ⟨List.mem_of_getElem? (i := 532) (by decide +kernel), List.mem_of_getElem? (i := 533) (by decide +kernel), List.mem_of_getElem? (i := 29) (by decide +kernel), List.mem_of_getElem? (i := 534) (by decide +kernel), by decide +kernel, by decide +kernel, by decide +kernel⟩
def f_L_span (N : Nt) (u : St) (cl : Int32 → Int32) (k : Int32) : Option (Except String Int32 × St) :=
  gd (¬ k < 0) <|
  nm (cl k) fun v2 =>
  sb (f_L_below N u v2 4) fun r3 u5 =>
  xb (f_X7_pan N u5 r3) fun r6 u8 =>
  nm (Nup N 12) fun N =>
  if r6 = k then
    some (.ok 1, u8)
  else
    some (.ok 0, u8)
set_option maxRecDepth 100000 in
set_option maxHeartbeats 8000000 in
theorem seg_span {p : Program} {l : Launch} {e : Env} {s : State} {m : MethodId} {below : List Frame} {meth : Method} {c : Code} {b : Nat} {z : Zt} {ad : Ad} {N : Nt} {X : Gt} {H : Heap} {locs : List Loc} {ls : Array Slot} {cells slots : Nat} {Q : State → Prop} {u u9 : St} {L : Nat} {xs : Nat → Int32} (hX : va_X b L xs s s.heap) (hbl : b < s.heap.size) (hbA : ¬ zA z b) (hL9 : L ≤ 260) (k : Int32) (hLX : LX p l e s m meth c z ad) (hC : Cs cells slots) (hl : lv_has ls 13 [(2, .int k), (0, .ref b), (1, .ref (ad 0 0))]) (hW : GW z ad (GC z ad N X u) H) (hS : va_S (zA z) s.heap H locs) (h : f_L_span N u (lcell L xs) k = some (.ok 1, u9))
    (kk : ∀ (ad1 : Ad) (H1 : Heap) (locs1 : List Loc) (ls1 : Array Slot), Raw ad1 → va_S (zA z) s.heap H1 locs1 → GW z ad1 (GC z ad1 (Nup N 12) X u9) H1 → lv_has ls1 13 [(0, .ref b), (1, .ref (ad1 0 0)), (2, .int k)] → W p l e room_1 s m #[Value.ref b] below meth c H1 locs1 (cells + 9) (slots + 50) Q (F0 m 34 ls1 [])) : W p l e room_1 s m #[Value.ref b] below meth c H locs cells slots Q (F0 m 15 ls []) := by
  obtain ⟨hx, hb, hml, hown, hSW, hfl, hA⟩ := hLX
  obtain ⟨hT, hK, hST, hB0⟩ := id hSW
  let WW : Nat → Nat → Heap → List Loc → JFrame → Prop := fun c9 s9 H locs g => W p l e room_1 s m #[Value.ref b] below meth c H locs c9 s9 Q g
  unfold f_L_span at h
  refine lv_aload_n hx hb dL_law_15 rfl (lv_at hl 2 rfl) ?_
  refine lv_aload_n hx hb dL_law_16 rfl (lv_at hl 1 rfl) ?_
  refine lv_iload_n hx hb dL_law_17 rfl (lv_at hl 0 rfl) ?_
  obtain ⟨g1, h⟩ := gd_s h
  refine nb_cell (rest := [.ref (ad 0 0)]) hx hb hml hown hSW hS hW hX hbl hbA hL9 g1 (List.mem_of_getElem? (i := 774) (by decide +kernel)) ⟨Nat.le_of_ble_eq_true rfl, Nat.le_of_ble_eq_true rfl⟩ hl.1 (Nat.le_of_ble_eq_true rfl) dL_law_18 (hC.ge (by decide) (by decide)) (fun H locs hW hS => ?_)
  refine lv_topi (fun v2 ev2 => ?_)
  replace h := nm_at ev2 h
  refine lv_iconst (v := 4) hx hb dL_law_21 (by decide) ?_
  obtain ⟨r3, u5, h4, h⟩ := sb_s h
  refine nb_ci (nb_runS (As := [.int v2, .int 4]) (rest := [.ref (ad 0 0)]) hx hb hml hown hSW hS hW (c_L_below l z ad N X u v2 4 h4) mf_L_below lk_L_18 rfl ⟨rfl, rfl⟩ ⟨Nat.le_of_ble_eq_true rfl, Nat.le_of_ble_eq_true rfl⟩ hl.1 (Nat.le_of_ble_eq_true rfl) dL_law_22 (hC.ge (by decide) (by decide))) hS (fun H locs (hW : GW z ad (GC z ad N X u5) H) hS => ?_)
  obtain ⟨r6, u8, h7, h⟩ := xb_s h
  refine va_calli (nb_runV (As := [.int r3]) (rest := []) hx hb hml hown hSW hS hW (c_X7_pan l z ad N X u5 r3 hA h7) mf_X7_pan lk_L_22 kr_0 rfl rfl ⟨rfl, rfl⟩ ⟨Nat.le_of_ble_eq_true rfl, Nat.le_of_ble_eq_true rfl⟩ hl.1 (Nat.le_of_ble_eq_true rfl) dL_law_25 (hC.ge (by decide) (by decide))) hS (fun _ _ h => h) (fun _ h => h) (fun r8 ad2 t H locs ht _ hp hW1 _ _ hS => ?_)
  obtain ⟨hr8, hP⟩ := hp
  rw [hr8]
  subst ht
  have hA2 : Raw ad2 := fun b => (hP 99 b (fun q => by omega)).trans (hA b)
  have h00 : ad2 0 0 = ad 0 0 := hP 0 0 (fun q => by omega)
  replace hW := hW1
  obtain ⟨N, hN9, h⟩ := nm_s h
  rw [← hN9] at hW
  obtain ⟨ad, hd9⟩ : ∃ q : Ad, q = ad2 := ⟨_, rfl⟩
  rw [← hd9] at hW hA2 h00
  rw [← h00] at hl
  have hA := hA2
  refine lv_iload_n hx hb dL_law_28 rfl (lv_at hl 0 rfl) ?_
  refine lv_icmp_eq (tgt := 34) hx hb dL_law_29 (by decide) (fun c09 => ?_) (fun c09 => ?_)
  · replace h := ite_t h c09
    refine W.widen (k := cells + 9) (n := slots + 50) (by omega) (by omega) ?_
    obtain rfl : u8 = u9 := congrArg Prod.snd (Option.some.inj h)
    exact kk ad _ _ _ hA hS (by rw [← hN9]; exact hW) (lv_sub hl [1, 2, 0] rfl)
  · replace h := ite_f h c09
    refine lv_iconst (v := 0) hx hb dL_law_32 (by decide) ?_
    exact absurd h ret01
def f_L_sphrase (N : Nt) (u : St) (cl : Int32 → Int32) (k : Int32) : Option (Except String Int32 × St) :=
  gd (¬ (k + 2) < 0) <|
  nm (cl (k + 2)) fun v2 =>
  sb (f_L_below N u v2 4) fun r3 u5 =>
  xb (f_X7_ofPan N u5 r3 0) fun r6 u8 =>
  gd (¬ k < 0) <|
  nm (cl k) fun v10 =>
  sb (f_L_below N u8 (v10 >>> (2 &&& 31)) 9) fun r11 u13 =>
  gd (¬ (k + 1) < 0) <|
  nm (cl (k + 1)) fun v15 =>
  sb (f_L_below N u13 (v15 >>> (3 &&& 31)) 255) fun r16 u18 =>
  xb (f_X7_phrase N u18 r6 (1 + r11) (1 + r16)) fun r19 u21 =>
  nm (Nup N 14) fun N =>
  if r19 = k then
    some (.ok 1, u21)
  else
    some (.ok 0, u21)
set_option maxRecDepth 100000 in
set_option maxHeartbeats 8000000 in
theorem seg_sphrase {p : Program} {l : Launch} {e : Env} {s : State} {m : MethodId} {below : List Frame} {meth : Method} {c : Code} {b : Nat} {z : Zt} {ad : Ad} {N : Nt} {X : Gt} {H : Heap} {locs : List Loc} {ls : Array Slot} {cells slots : Nat} {Q : State → Prop} {u u9 : St} {L : Nat} {xs : Nat → Int32} (hX : va_X b L xs s s.heap) (hbl : b < s.heap.size) (hbA : ¬ zA z b) (hL9 : L ≤ 260) (k : Int32) (hLX : LX p l e s m meth c z ad) (hC : Cs cells slots) (hl : lv_has ls 13 [(2, .int k), (0, .ref b), (1, .ref (ad 0 0))]) (hW : GW z ad (GC z ad N X u) H) (hS : va_S (zA z) s.heap H locs) (h : f_L_sphrase N u (lcell L xs) k = some (.ok 1, u9))
    (kk : ∀ (ad1 : Ad) (H1 : Heap) (locs1 : List Loc) (ls1 : Array Slot), Raw ad1 → va_S (zA z) s.heap H1 locs1 → GW z ad1 (GC z ad1 (Nup N 14) X u9) H1 → lv_has ls1 13 [(0, .ref b), (1, .ref (ad1 0 0)), (2, .int k)] → W p l e room_1 s m #[Value.ref b] below meth c H1 locs1 (cells + 9) (slots + 50) Q (F0 m 105 ls1 [])) : W p l e room_1 s m #[Value.ref b] below meth c H locs cells slots Q (F0 m 48 ls []) := by
  obtain ⟨hx, hb, hml, hown, hSW, hfl, hA⟩ := hLX
  obtain ⟨hT, hK, hST, hB0⟩ := id hSW
  let WW : Nat → Nat → Heap → List Loc → JFrame → Prop := fun c9 s9 H locs g => W p l e room_1 s m #[Value.ref b] below meth c H locs c9 s9 Q g
  unfold f_L_sphrase at h
  refine lv_aload_n hx hb dL_law_48 rfl (lv_at hl 2 rfl) ?_
  refine lv_aload_n hx hb dL_law_49 rfl (lv_at hl 2 rfl) ?_
  refine lv_aload_n hx hb dL_law_50 rfl (lv_at hl 1 rfl) ?_
  refine lv_iload_n hx hb dL_law_51 rfl (lv_at hl 0 rfl) ?_
  refine lv_iconst (v := 2) hx hb dL_law_52 (by decide) ?_
  refine lv_iadd hx hb dL_law_53 ?_
  obtain ⟨g1, h⟩ := gd_s h
  refine nb_cell (rest := [.ref (ad 0 0), .ref (ad 0 0)]) hx hb hml hown hSW hS hW hX hbl hbA hL9 g1 (List.mem_of_getElem? (i := 774) (by decide +kernel)) ⟨Nat.le_of_ble_eq_true rfl, Nat.le_of_ble_eq_true rfl⟩ hl.1 (Nat.le_of_ble_eq_true rfl) dL_law_54 (hC.ge (by decide) (by decide)) (fun H locs hW hS => ?_)
  refine lv_topi (fun v2 ev2 => ?_)
  replace h := nm_at ev2 h
  refine lv_iconst (v := 4) hx hb dL_law_57 (by decide) ?_
  obtain ⟨r3, u5, h4, h⟩ := sb_s h
  refine nb_ci (nb_runS (As := [.int v2, .int 4]) (rest := [.ref (ad 0 0), .ref (ad 0 0)]) hx hb hml hown hSW hS hW (c_L_below l z ad N X u v2 4 h4) mf_L_below lk_L_18 rfl ⟨rfl, rfl⟩ ⟨Nat.le_of_ble_eq_true rfl, Nat.le_of_ble_eq_true rfl⟩ hl.1 (Nat.le_of_ble_eq_true rfl) dL_law_58 (hC.ge (by decide) (by decide))) hS (fun H locs (hW : GW z ad (GC z ad N X u5) H) hS => ?_)
  refine lv_iconst (v := 0) hx hb dL_law_61 (by decide) ?_
  obtain ⟨r6, u8, h7, h⟩ := xb_s h
  refine nb_ci (nb_runV (As := [.int r3, .int 0]) (rest := [.ref (ad 0 0)]) hx hb hml hown hSW hS hW (c_X7_ofPan l z ad N X u5 r3 0 h7) mf_X7_ofPan lk_L_26 kr_0 rfl rfl ⟨rfl, rfl⟩ ⟨Nat.le_of_ble_eq_true rfl, Nat.le_of_ble_eq_true rfl⟩ hl.1 (Nat.le_of_ble_eq_true rfl) dL_law_62 (hC.ge (by decide) (by decide))) hS (fun H locs (hW : GW z ad (GC z ad N X u8) H) hS => ?_)
  refine lv_iconst (v := 1) hx hb dL_law_65 (by decide) ?_
  refine lv_aload_n hx hb dL_law_66 rfl (lv_at hl 1 rfl) ?_
  refine lv_iload_n hx hb dL_law_67 rfl (lv_at hl 0 rfl) ?_
  obtain ⟨g09, h⟩ := gd_s h
  refine nb_cell (rest := [.int 1, .int r6, .ref (ad 0 0)]) hx hb hml hown hSW hS hW hX hbl hbA hL9 g09 (List.mem_of_getElem? (i := 774) (by decide +kernel)) ⟨Nat.le_of_ble_eq_true rfl, Nat.le_of_ble_eq_true rfl⟩ hl.1 (Nat.le_of_ble_eq_true rfl) dL_law_68 (hC.ge (by decide) (by decide)) (fun H locs hW hS => ?_)
  refine lv_topi (fun v10 ev10 => ?_)
  replace h := nm_at ev10 h
  refine lv_iconst (v := 2) hx hb dL_law_71 (by decide) ?_
  refine lv_ishr hx hb dL_law_72 ?_
  refine lv_bipush (v := 9) hx hb dL_law_73 (by decide) ?_
  obtain ⟨r11, u13, h12, h⟩ := sb_s h
  refine nb_ci (nb_runS (As := [.int (v10 >>> (2 &&& 31)), .int 9]) (rest := [.int 1, .int r6, .ref (ad 0 0)]) hx hb hml hown hSW hS hW (c_L_below l z ad N X u8 (v10 >>> (2 &&& 31)) 9 h12) mf_L_below lk_L_18 rfl ⟨rfl, rfl⟩ ⟨Nat.le_of_ble_eq_true rfl, Nat.le_of_ble_eq_true rfl⟩ hl.1 (Nat.le_of_ble_eq_true rfl) dL_law_75 (hC.ge (by decide) (by decide))) hS (fun H locs (hW : GW z ad (GC z ad N X u13) H) hS => ?_)
  refine lv_iadd hx hb dL_law_78 ?_
  refine lv_iconst (v := 1) hx hb dL_law_79 (by decide) ?_
  refine lv_aload_n hx hb dL_law_80 rfl (lv_at hl 1 rfl) ?_
  refine lv_iload_n hx hb dL_law_81 rfl (lv_at hl 0 rfl) ?_
  refine lv_iconst (v := 1) hx hb dL_law_82 (by decide) ?_
  refine lv_iadd hx hb dL_law_83 ?_
  obtain ⟨g14, h⟩ := gd_s h
  refine nb_cell (rest := [.int 1, .int (1 + r11), .int r6, .ref (ad 0 0)]) hx hb hml hown hSW hS hW hX hbl hbA hL9 g14 (List.mem_of_getElem? (i := 774) (by decide +kernel)) ⟨Nat.le_of_ble_eq_true rfl, Nat.le_of_ble_eq_true rfl⟩ hl.1 (Nat.le_of_ble_eq_true rfl) dL_law_84 (hC.ge (by decide) (by decide)) (fun H locs hW hS => ?_)
  refine lv_topi (fun v15 ev15 => ?_)
  replace h := nm_at ev15 h
  refine lv_iconst (v := 3) hx hb dL_law_87 (by decide) ?_
  refine lv_ishr hx hb dL_law_88 ?_
  refine lv_sipush (v := 255) hx hb dL_law_89 (by decide) ?_
  obtain ⟨r16, u18, h17, h⟩ := sb_s h
  refine nb_ci (nb_runS (As := [.int (v15 >>> (3 &&& 31)), .int 255]) (rest := [.int 1, .int (1 + r11), .int r6, .ref (ad 0 0)]) hx hb hml hown hSW hS hW (c_L_below l z ad N X u13 (v15 >>> (3 &&& 31)) 255 h17) mf_L_below lk_L_18 rfl ⟨rfl, rfl⟩ ⟨Nat.le_of_ble_eq_true rfl, Nat.le_of_ble_eq_true rfl⟩ hl.1 (Nat.le_of_ble_eq_true rfl) dL_law_92 (hC.ge (by decide) (by decide))) hS (fun H locs (hW : GW z ad (GC z ad N X u18) H) hS => ?_)
  refine lv_iadd hx hb dL_law_95 ?_
  obtain ⟨r19, u21, h20, h⟩ := xb_s h
  refine va_calli (nb_runV (As := [.int r6, .int (1 + r11), .int (1 + r16)]) (rest := []) hx hb hml hown hSW hS hW (c_X7_phrase l z ad N X u18 r6 (1 + r11) (1 + r16) hA h20) mf_X7_phrase lk_L_29 kr_0 rfl rfl ⟨rfl, rfl⟩ ⟨Nat.le_of_ble_eq_true rfl, Nat.le_of_ble_eq_true rfl⟩ hl.1 (Nat.le_of_ble_eq_true rfl) dL_law_96 (hC.ge (by decide) (by decide))) hS (fun _ _ h => h) (fun _ h => h) (fun r8 ad2 t H locs ht _ hp hW1 _ _ hS => ?_)
  obtain ⟨hr8, hP⟩ := hp
  rw [hr8]
  subst ht
  have hA2 : Raw ad2 := fun b => (hP 99 b (fun q => by omega)).trans (hA b)
  have h00 : ad2 0 0 = ad 0 0 := hP 0 0 (fun q => by omega)
  replace hW := hW1
  obtain ⟨N, hN9, h⟩ := nm_s h
  rw [← hN9] at hW
  obtain ⟨ad, hd9⟩ : ∃ q : Ad, q = ad2 := ⟨_, rfl⟩
  rw [← hd9] at hW hA2 h00
  rw [← h00] at hl
  have hA := hA2
  refine lv_iload_n hx hb dL_law_99 rfl (lv_at hl 0 rfl) ?_
  refine lv_icmp_eq (tgt := 105) hx hb dL_law_100 (by decide) (fun c22 => ?_) (fun c22 => ?_)
  · replace h := ite_t h c22
    refine W.widen (k := cells + 9) (n := slots + 50) (by omega) (by omega) ?_
    obtain rfl : u21 = u9 := congrArg Prod.snd (Option.some.inj h)
    exact kk ad _ _ _ hA hS (by rw [← hN9]; exact hW) (lv_sub hl [1, 2, 0] rfl)
  · replace h := ite_f h c22
    refine lv_iconst (v := 0) hx hb dL_law_103 (by decide) ?_
    exact absurd h ret01
def f_L_splayer (N : Nt) (u : St) (cl : Int32 → Int32) (k : Int32) : Option (Except String Int32 × St) :=
  nm (irem k 4) fun v1 =>
  xb (f_X7_ofPan N u v1 0) fun r2 u4 =>
  gd (¬ (k + 4) < 0) <|
  nm (cl (k + 4)) fun v6 =>
  sb (f_L_below N u4 v6 9) fun r7 u09 =>
  gd (¬ (k + 5) < 0) <|
  nm (cl (k + 5)) fun v11 =>
  sb (f_L_below N u09 (v11 >>> (2 &&& 31)) 8) fun r12 u14 =>
  xb (f_X7_player N u14 r2 (1 + r7) (1 + r12)) fun r15 u17 =>
  nm (Nup N 15) fun N =>
  if r15 = k then
    nm (irem k 4) fun v19 =>
    xb (f_X7_give N u17 k v19) fun r20 u22 =>
    if r20 = (-1) then
      some (.ok 1, u22)
    else
      some (.ok 0, u22)
  else
    some (.ok 0, u17)
set_option maxRecDepth 100000 in
set_option maxHeartbeats 8000000 in
theorem seg_splayer {p : Program} {l : Launch} {e : Env} {s : State} {m : MethodId} {below : List Frame} {meth : Method} {c : Code} {b : Nat} {z : Zt} {ad : Ad} {N : Nt} {X : Gt} {H : Heap} {locs : List Loc} {ls : Array Slot} {cells slots : Nat} {Q : State → Prop} {u u9 : St} {L : Nat} {xs : Nat → Int32} (hX : va_X b L xs s s.heap) (hbl : b < s.heap.size) (hbA : ¬ zA z b) (hL9 : L ≤ 260) (k : Int32) (hLX : LX p l e s m meth c z ad) (hC : Cs cells slots) (hl : lv_has ls 13 [(2, .int k), (0, .ref b), (1, .ref (ad 0 0))]) (hW : GW z ad (GC z ad N X u) H) (hS : va_S (zA z) s.heap H locs) (h : f_L_splayer N u (lcell L xs) k = some (.ok 1, u9))
    (kk : ∀ (ad1 : Ad) (H1 : Heap) (locs1 : List Loc) (ls1 : Array Slot), Raw ad1 → va_S (zA z) s.heap H1 locs1 → GW z ad1 (GC z ad1 (Nup N 15) X u9) H1 → lv_has ls1 13 [(0, .ref b), (1, .ref (ad1 0 0)), (2, .int k)] → W p l e room_1 s m #[Value.ref b] below meth c H1 locs1 (cells + 9) (slots + 50) Q (F0 m 179 ls1 [])) : W p l e room_1 s m #[Value.ref b] below meth c H locs cells slots Q (F0 m 119 ls []) := by
  obtain ⟨hx, hb, hml, hown, hSW, hfl, hA⟩ := hLX
  obtain ⟨hT, hK, hST, hB0⟩ := id hSW
  let WW : Nat → Nat → Heap → List Loc → JFrame → Prop := fun c9 s9 H locs g => W p l e room_1 s m #[Value.ref b] below meth c H locs c9 s9 Q g
  unfold f_L_splayer at h
  refine lv_aload_n hx hb dL_law_119 rfl (lv_at hl 2 rfl) ?_
  refine lv_aload_n hx hb dL_law_120 rfl (lv_at hl 2 rfl) ?_
  refine lv_iload_n hx hb dL_law_121 rfl (lv_at hl 0 rfl) ?_
  refine lv_iconst (v := 4) hx hb dL_law_122 (by decide) ?_
  refine lv_irem hx hb dL_law_123 (by decide) ?_
  refine lv_topi (fun v1 ev1 => ?_)
  replace h := nm_at ev1 h
  refine lv_iconst (v := 0) hx hb dL_law_124 (by decide) ?_
  obtain ⟨r2, u4, h3, h⟩ := xb_s h
  refine nb_ci (nb_runV (As := [.int v1, .int 0]) (rest := [.ref (ad 0 0)]) hx hb hml hown hSW hS hW (c_X7_ofPan l z ad N X u v1 0 h3) mf_X7_ofPan lk_L_26 kr_0 rfl rfl ⟨rfl, rfl⟩ ⟨Nat.le_of_ble_eq_true rfl, Nat.le_of_ble_eq_true rfl⟩ hl.1 (Nat.le_of_ble_eq_true rfl) dL_law_125 (hC.ge (by decide) (by decide))) hS (fun H locs (hW : GW z ad (GC z ad N X u4) H) hS => ?_)
  refine lv_iconst (v := 1) hx hb dL_law_128 (by decide) ?_
  refine lv_aload_n hx hb dL_law_129 rfl (lv_at hl 1 rfl) ?_
  refine lv_iload_n hx hb dL_law_130 rfl (lv_at hl 0 rfl) ?_
  refine lv_iconst (v := 4) hx hb dL_law_131 (by decide) ?_
  refine lv_iadd hx hb dL_law_132 ?_
  obtain ⟨g5, h⟩ := gd_s h
  refine nb_cell (rest := [.int 1, .int r2, .ref (ad 0 0)]) hx hb hml hown hSW hS hW hX hbl hbA hL9 g5 (List.mem_of_getElem? (i := 774) (by decide +kernel)) ⟨Nat.le_of_ble_eq_true rfl, Nat.le_of_ble_eq_true rfl⟩ hl.1 (Nat.le_of_ble_eq_true rfl) dL_law_133 (hC.ge (by decide) (by decide)) (fun H locs hW hS => ?_)
  refine lv_topi (fun v6 ev6 => ?_)
  replace h := nm_at ev6 h
  refine lv_bipush (v := 9) hx hb dL_law_136 (by decide) ?_
  obtain ⟨r7, u09, h8, h⟩ := sb_s h
  refine nb_ci (nb_runS (As := [.int v6, .int 9]) (rest := [.int 1, .int r2, .ref (ad 0 0)]) hx hb hml hown hSW hS hW (c_L_below l z ad N X u4 v6 9 h8) mf_L_below lk_L_18 rfl ⟨rfl, rfl⟩ ⟨Nat.le_of_ble_eq_true rfl, Nat.le_of_ble_eq_true rfl⟩ hl.1 (Nat.le_of_ble_eq_true rfl) dL_law_138 (hC.ge (by decide) (by decide))) hS (fun H locs (hW : GW z ad (GC z ad N X u09) H) hS => ?_)
  refine lv_iadd hx hb dL_law_141 ?_
  refine lv_iconst (v := 1) hx hb dL_law_142 (by decide) ?_
  refine lv_aload_n hx hb dL_law_143 rfl (lv_at hl 1 rfl) ?_
  refine lv_iload_n hx hb dL_law_144 rfl (lv_at hl 0 rfl) ?_
  refine lv_iconst (v := 5) hx hb dL_law_145 (by decide) ?_
  refine lv_iadd hx hb dL_law_146 ?_
  obtain ⟨g10, h⟩ := gd_s h
  refine nb_cell (rest := [.int 1, .int (1 + r7), .int r2, .ref (ad 0 0)]) hx hb hml hown hSW hS hW hX hbl hbA hL9 g10 (List.mem_of_getElem? (i := 774) (by decide +kernel)) ⟨Nat.le_of_ble_eq_true rfl, Nat.le_of_ble_eq_true rfl⟩ hl.1 (Nat.le_of_ble_eq_true rfl) dL_law_147 (hC.ge (by decide) (by decide)) (fun H locs hW hS => ?_)
  refine lv_topi (fun v11 ev11 => ?_)
  replace h := nm_at ev11 h
  refine lv_iconst (v := 2) hx hb dL_law_150 (by decide) ?_
  refine lv_ishr hx hb dL_law_151 ?_
  refine lv_bipush (v := 8) hx hb dL_law_152 (by decide) ?_
  obtain ⟨r12, u14, h13, h⟩ := sb_s h
  refine nb_ci (nb_runS (As := [.int (v11 >>> (2 &&& 31)), .int 8]) (rest := [.int 1, .int (1 + r7), .int r2, .ref (ad 0 0)]) hx hb hml hown hSW hS hW (c_L_below l z ad N X u09 (v11 >>> (2 &&& 31)) 8 h13) mf_L_below lk_L_18 rfl ⟨rfl, rfl⟩ ⟨Nat.le_of_ble_eq_true rfl, Nat.le_of_ble_eq_true rfl⟩ hl.1 (Nat.le_of_ble_eq_true rfl) dL_law_154 (hC.ge (by decide) (by decide))) hS (fun H locs (hW : GW z ad (GC z ad N X u14) H) hS => ?_)
  refine lv_iadd hx hb dL_law_157 ?_
  obtain ⟨r15, u17, h16, h⟩ := xb_s h
  refine va_calli (nb_runV (As := [.int r2, .int (1 + r7), .int (1 + r12)]) (rest := []) hx hb hml hown hSW hS hW (c_X7_player l z ad N X u14 r2 (1 + r7) (1 + r12) hA h16) mf_X7_player lk_L_33 kr_0 rfl rfl ⟨rfl, rfl⟩ ⟨Nat.le_of_ble_eq_true rfl, Nat.le_of_ble_eq_true rfl⟩ hl.1 (Nat.le_of_ble_eq_true rfl) dL_law_158 (hC.ge (by decide) (by decide))) hS (fun _ _ h => h) (fun _ h => h) (fun r8 ad2 t H locs ht _ hp hW1 _ _ hS => ?_)
  obtain ⟨hr8, hP⟩ := hp
  rw [hr8]
  subst ht
  have hA2 : Raw ad2 := fun b => (hP 99 b (fun q => by omega)).trans (hA b)
  have h00 : ad2 0 0 = ad 0 0 := hP 0 0 (fun q => by omega)
  replace hW := hW1
  obtain ⟨N, hN9, h⟩ := nm_s h
  rw [← hN9] at hW
  obtain ⟨ad, hd9⟩ : ∃ q : Ad, q = ad2 := ⟨_, rfl⟩
  rw [← hd9] at hW hA2 h00
  rw [← h00] at hl
  have hA := hA2
  refine lv_iload_n hx hb dL_law_161 rfl (lv_at hl 0 rfl) ?_
  refine lv_icmp_ne (tgt := 177) hx hb dL_law_162 (by decide) (fun c18 => ?_) (fun c18 => ?_)
  · replace h := ite_f h c18
    refine lv_iconst (v := 0) hx hb dL_law_177 (by decide) ?_
    exact absurd h ret01
  · replace h := ite_t h c18
    refine lv_aload_n hx hb dL_law_165 rfl (lv_at hl 2 rfl) ?_
    refine lv_iload_n hx hb dL_law_166 rfl (lv_at hl 0 rfl) ?_
    refine lv_iload_n hx hb dL_law_167 rfl (lv_at hl 0 rfl) ?_
    refine lv_iconst (v := 4) hx hb dL_law_168 (by decide) ?_
    refine lv_irem hx hb dL_law_169 (by decide) ?_
    refine lv_topi (fun v19 ev19 => ?_)
    replace h := nm_at ev19 h
    obtain ⟨r20, u22, h21, h⟩ := xb_s h
    refine nb_ci (nb_runV (As := [.int k, .int v19]) (rest := []) hx hb hml hown hSW hS hW (c_X7_give l z ad N X u17 k v19 h21) mf_X7_give lk_L_36 kr_0 rfl rfl ⟨rfl, rfl⟩ ⟨Nat.le_of_ble_eq_true rfl, Nat.le_of_ble_eq_true rfl⟩ hl.1 (Nat.le_of_ble_eq_true rfl) dL_law_170 (hC.ge (by decide) (by decide))) hS (fun H locs (hW : GW z ad (GC z ad N X u22) H) hS => ?_)
    refine lv_iconst (v := (-1)) hx hb dL_law_173 (by decide) ?_
    refine lv_icmp_eq (tgt := 179) hx hb dL_law_174 (by decide) (fun c23 => ?_) (fun c23 => ?_)
    · replace h := ite_t h c23
      refine W.widen (k := cells + 9) (n := slots + 50) (by omega) (by omega) ?_
      obtain rfl : u22 = u9 := congrArg Prod.snd (Option.some.inj h)
      exact kk ad _ _ _ hA hS (by rw [← hN9]; exact hW) (lv_sub hl [1, 2, 0] rfl)
    · replace h := ite_f h c23
      refine lv_iconst (v := 0) hx hb dL_law_177 (by decide) ?_
      exact absurd h ret01
def f_L_srival (N : Nt) (u : St) (cl : Int32 → Int32) (k : Int32) : Option (Except String Int32 × St) :=
  gd (¬ (k + 7) < 0) <|
  nm (cl (k + 7)) fun v2 =>
  sb (f_L_below N u v2 401) fun r3 u5 =>
  xb (f_X7_rival N u5 r3) fun r6 u8 =>
  if r6 = k then
    some (.ok 1, u8)
  else
    some (.ok 0, u8)
set_option maxRecDepth 100000 in
set_option maxHeartbeats 8000000 in
theorem seg_srival {p : Program} {l : Launch} {e : Env} {s : State} {m : MethodId} {below : List Frame} {meth : Method} {c : Code} {b : Nat} {z : Zt} {ad : Ad} {N : Nt} {X : Gt} {H : Heap} {locs : List Loc} {ls : Array Slot} {cells slots : Nat} {Q : State → Prop} {u u9 : St} {L : Nat} {xs : Nat → Int32} (hX : va_X b L xs s s.heap) (hbl : b < s.heap.size) (hbA : ¬ zA z b) (hL9 : L ≤ 260) (k : Int32) (hLX : LX p l e s m meth c z ad) (hC : Cs cells slots) (hl : lv_has ls 13 [(2, .int k), (0, .ref b), (1, .ref (ad 0 0))]) (hW : GW z ad (GC z ad N X u) H) (hS : va_S (zA z) s.heap H locs) (h : f_L_srival N u (lcell L xs) k = some (.ok 1, u9))
    (kk : ∀ (H1 : Heap) (locs1 : List Loc) (ls1 : Array Slot), va_S (zA z) s.heap H1 locs1 → GW z ad (GC z ad N X u9) H1 → lv_has ls1 13 [(0, .ref b), (1, .ref (ad 0 0)), (2, .int k)] → W p l e room_1 s m #[Value.ref b] below meth c H1 locs1 (cells + 9) (slots + 50) Q (F0 m 216 ls1 [])) : W p l e room_1 s m #[Value.ref b] below meth c H locs cells slots Q (F0 m 192 ls []) := by
  obtain ⟨hx, hb, hml, hown, hSW, hfl, hA⟩ := hLX
  obtain ⟨hT, hK, hST, hB0⟩ := id hSW
  let WW : Nat → Nat → Heap → List Loc → JFrame → Prop := fun c9 s9 H locs g => W p l e room_1 s m #[Value.ref b] below meth c H locs c9 s9 Q g
  unfold f_L_srival at h
  refine lv_aload_n hx hb dL_law_192 rfl (lv_at hl 2 rfl) ?_
  refine lv_aload_n hx hb dL_law_193 rfl (lv_at hl 1 rfl) ?_
  refine lv_iload_n hx hb dL_law_194 rfl (lv_at hl 0 rfl) ?_
  refine lv_bipush (v := 7) hx hb dL_law_195 (by decide) ?_
  refine lv_iadd hx hb dL_law_197 ?_
  obtain ⟨g1, h⟩ := gd_s h
  refine nb_cell (rest := [.ref (ad 0 0)]) hx hb hml hown hSW hS hW hX hbl hbA hL9 g1 (List.mem_of_getElem? (i := 774) (by decide +kernel)) ⟨Nat.le_of_ble_eq_true rfl, Nat.le_of_ble_eq_true rfl⟩ hl.1 (Nat.le_of_ble_eq_true rfl) dL_law_198 (hC.ge (by decide) (by decide)) (fun H locs hW hS => ?_)
  refine lv_topi (fun v2 ev2 => ?_)
  replace h := nm_at ev2 h
  refine lv_sipush (v := 401) hx hb dL_law_201 (by decide) ?_
  obtain ⟨r3, u5, h4, h⟩ := sb_s h
  refine nb_ci (nb_runS (As := [.int v2, .int 401]) (rest := [.ref (ad 0 0)]) hx hb hml hown hSW hS hW (c_L_below l z ad N X u v2 401 h4) mf_L_below lk_L_18 rfl ⟨rfl, rfl⟩ ⟨Nat.le_of_ble_eq_true rfl, Nat.le_of_ble_eq_true rfl⟩ hl.1 (Nat.le_of_ble_eq_true rfl) dL_law_204 (hC.ge (by decide) (by decide))) hS (fun H locs (hW : GW z ad (GC z ad N X u5) H) hS => ?_)
  obtain ⟨r6, u8, h7, h⟩ := xb_s h
  refine nb_ci (nb_runV (As := [.int r3]) (rest := []) hx hb hml hown hSW hS hW (c_X7_rival l z ad N X u5 r3 h7) mf_X7_rival lk_L_39 kr_0 rfl rfl ⟨rfl, rfl⟩ ⟨Nat.le_of_ble_eq_true rfl, Nat.le_of_ble_eq_true rfl⟩ hl.1 (Nat.le_of_ble_eq_true rfl) dL_law_207 (hC.ge (by decide) (by decide))) hS (fun H locs (hW : GW z ad (GC z ad N X u8) H) hS => ?_)
  refine lv_iload_n hx hb dL_law_210 rfl (lv_at hl 0 rfl) ?_
  refine lv_icmp_eq (tgt := 216) hx hb dL_law_211 (by decide) (fun c09 => ?_) (fun c09 => ?_)
  · replace h := ite_t h c09
    refine W.widen (k := cells + 9) (n := slots + 50) (by omega) (by omega) ?_
    obtain rfl : u8 = u9 := congrArg Prod.snd (Option.some.inj h)
    exact kk _ _ _ hS hW (lv_sub hl [1, 2, 0] rfl)
  · replace h := ite_f h c09
    refine lv_iconst (v := 0) hx hb dL_law_214 (by decide) ?_
    exact absurd h ret01
def f_L_sxy (N : Nt) (u : St) (cl : Int32 → Int32) (k : Int32) : Option (Except String Int32 × St) :=
  nm (irem k 16) fun v1 =>
  gd (¬ v1 < 0) <|
  nm (cl v1) fun v3 =>
  nm (v3 + (31 * k)) fun v4 =>
  nm (irem ((7 * k) + 3) 16) fun v5 =>
  gd (¬ v5 < 0) <|
  nm (cl v5) fun v7 =>
  nm (v7 + (5 * k)) fun v8 =>
  some (.ok 1, u)
set_option maxRecDepth 100000 in
set_option maxHeartbeats 8000000 in
theorem seg_sxy {p : Program} {l : Launch} {e : Env} {s : State} {m : MethodId} {below : List Frame} {meth : Method} {c : Code} {b : Nat} {z : Zt} {ad : Ad} {N : Nt} {X : Gt} {H : Heap} {locs : List Loc} {ls : Array Slot} {cells slots : Nat} {Q : State → Prop} {u u9 : St} {L : Nat} {xs : Nat → Int32} (hX : va_X b L xs s s.heap) (hbl : b < s.heap.size) (hbA : ¬ zA z b) (hL9 : L ≤ 260) (k : Int32) (hLX : LX p l e s m meth c z ad) (hC : Cs cells slots) (hl : lv_has ls 13 [(2, .int k), (0, .ref b), (1, .ref (ad 0 0))]) (hW : GW z ad (GC z ad N X u) H) (hS : va_S (zA z) s.heap H locs) (h : f_L_sxy N u (lcell L xs) k = some (.ok 1, u9))
    (kk : ∀ (x3 x4 : Int32) (H1 : Heap) (locs1 : List Loc) (ls1 : Array Slot), va_S (zA z) s.heap H1 locs1 → GW z ad (GC z ad N X u9) H1 → lv_has ls1 13 [(0, .ref b), (1, .ref (ad 0 0)), (2, .int k), (3, .int x3), (4, .int x4)] → W p l e room_1 s m #[Value.ref b] below meth c H1 locs1 (cells + 9) (slots + 50) Q (F0 m 263 ls1 [])) : W p l e room_1 s m #[Value.ref b] below meth c H locs cells slots Q (F0 m 230 ls []) := by
  obtain ⟨hx, hb, hml, hown, hSW, hfl, hA⟩ := hLX
  obtain ⟨hT, hK, hST, hB0⟩ := id hSW
  let WW : Nat → Nat → Heap → List Loc → JFrame → Prop := fun c9 s9 H locs g => W p l e room_1 s m #[Value.ref b] below meth c H locs c9 s9 Q g
  unfold f_L_sxy at h
  refine lv_aload_n hx hb dL_law_230 rfl (lv_at hl 1 rfl) ?_
  refine lv_iload_n hx hb dL_law_231 rfl (lv_at hl 0 rfl) ?_
  refine lv_bipush (v := 16) hx hb dL_law_232 (by decide) ?_
  refine lv_irem hx hb dL_law_234 (by decide) ?_
  refine lv_topi (fun v1 ev1 => ?_)
  replace h := nm_at ev1 h
  obtain ⟨g2, h⟩ := gd_s h
  refine nb_cell (rest := []) hx hb hml hown hSW hS hW hX hbl hbA hL9 g2 (List.mem_of_getElem? (i := 774) (by decide +kernel)) ⟨Nat.le_of_ble_eq_true rfl, Nat.le_of_ble_eq_true rfl⟩ hl.1 (Nat.le_of_ble_eq_true rfl) dL_law_235 (hC.ge (by decide) (by decide)) (fun H locs hW hS => ?_)
  refine lv_topi (fun v3 ev3 => ?_)
  replace h := nm_at ev3 h
  refine lv_bipush (v := 31) hx hb dL_law_238 (by decide) ?_
  refine lv_iload_n hx hb dL_law_240 rfl (lv_at hl 0 rfl) ?_
  refine lv_imul hx hb dL_law_241 ?_
  refine lv_iadd hx hb dL_law_242 ?_
  refine lv_topi (fun v4 ev4 => ?_)
  replace h := nm_at ev4 h
  refine lv_istore_n (lv' := [(3, .int v4), (2, .int k), (0, .ref b), (1, .ref (ad 0 0))]) hx hb dL_law_243 rfl hl (by decide) rfl (fun ls hl => ?_)
  refine lv_aload_n hx hb dL_law_244 rfl (lv_at hl 2 rfl) ?_
  refine lv_bipush (v := 7) hx hb dL_law_245 (by decide) ?_
  refine lv_iload_n hx hb dL_law_247 rfl (lv_at hl 1 rfl) ?_
  refine lv_imul hx hb dL_law_248 ?_
  refine lv_iconst (v := 3) hx hb dL_law_249 (by decide) ?_
  refine lv_iadd hx hb dL_law_250 ?_
  refine lv_bipush (v := 16) hx hb dL_law_251 (by decide) ?_
  refine lv_irem hx hb dL_law_253 (by decide) ?_
  refine lv_topi (fun v5 ev5 => ?_)
  replace h := nm_at ev5 h
  obtain ⟨g6, h⟩ := gd_s h
  refine nb_cell (rest := []) hx hb hml hown hSW hS hW hX hbl hbA hL9 g6 (List.mem_of_getElem? (i := 774) (by decide +kernel)) ⟨Nat.le_of_ble_eq_true rfl, Nat.le_of_ble_eq_true rfl⟩ hl.1 (Nat.le_of_ble_eq_true rfl) dL_law_254 (hC.ge (by decide) (by decide)) (fun H locs hW hS => ?_)
  refine lv_topi (fun v7 ev7 => ?_)
  replace h := nm_at ev7 h
  refine lv_iconst (v := 5) hx hb dL_law_257 (by decide) ?_
  refine lv_iload_n hx hb dL_law_258 rfl (lv_at hl 1 rfl) ?_
  refine lv_imul hx hb dL_law_259 ?_
  refine lv_iadd hx hb dL_law_260 ?_
  refine lv_topi (fun v8 ev8 => ?_)
  replace h := nm_at ev8 h
  refine lv_istore (lv' := [(4, .int v8), (3, .int v4), (2, .int k), (0, .ref b), (1, .ref (ad 0 0))]) hx hb dL_law_261 hl (by decide) rfl (fun ls hl => ?_)
  refine W.widen (k := cells + 9) (n := slots + 50) (by omega) (by omega) ?_
  obtain rfl : u = u9 := congrArg Prod.snd (Option.some.inj h)
  exact kk _ _ _ _ _ hS hW (lv_sub hl [3, 4, 2, 1, 0] rfl)
