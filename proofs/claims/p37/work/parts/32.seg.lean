/-! 32: two pieces of the law's body -/
theorem ret01 {u u9 : St} : ¬ ((some (.ok 0, u) : Option (Except String Int32 × St)) = some (.ok 1, u9)) := fun h => absurd (Except.ok.inj (congrArg Prod.fst (Option.some.inj h))) (by decide)
def LX (p : Program) (l : Launch) (e : Env) (s : State) (m : MethodId) (meth : Method) (c : Code) (z : Zt) (ad : Ad) : Prop :=
  p.tables.exec = Jvm.exec ∧ c.code = code ∧ c.maxLocals = 13 ∧ s.vm.findClass RL = some m.cls ∧ SW z s ∧ l.stackTraces = false ∧ Raw ad
theorem Cs.ge {cells slots k n : Nat} (h : Cs cells slots) (hk : k ≤ 90) (hn : n ≤ 900) : cells + k ≤ room_1.cells ∧ slots + n ≤ room_1.slots := by
  obtain ⟨h1, h2⟩ := h
  exact ⟨Nat.le_trans (show cells + k ≤ 200000 by omega) (Nat.le_of_ble_eq_true rfl), Nat.le_trans (show slots + n ≤ 2000000 by omega) (Nat.le_of_ble_eq_true rfl)⟩
theorem Cs.ge9 {cells slots k n : Nat} (h : Cs cells slots) (hk : k ≤ 90) (hn : n ≤ 900) : cells + 9 + k ≤ room_1.cells ∧ slots + 50 + n ≤ room_1.slots := by
  obtain ⟨h1, h2⟩ := h
  exact ⟨Nat.le_trans (show cells + 9 + k ≤ 200000 by omega) (Nat.le_of_ble_eq_true rfl), Nat.le_trans (show slots + 50 + n ≤ 2000000 by omega) (Nat.le_of_ble_eq_true rfl)⟩
theorem lk_L_18 : LK RL 18 yL_below := Or.inl (List.mem_of_getElem? (i := 770) (by decide +kernel))
theorem mf_L_below : MFs yL_below cL_below 2 (some .int) 2 := ⟨List.mem_of_getElem? (i := 771) (by decide +kernel), List.mem_of_getElem? (i := 28) (by decide +kernel), List.mem_of_getElem? (i := 772) (by decide +kernel), by decide +kernel, by decide +kernel, by decide +kernel⟩
theorem lk_L_94 : LK RL 94 yL_isSound := Or.inl (List.mem_of_getElem? (i := 860) (by decide +kernel))
theorem mf_L_isSound : MFs yL_isSound cL_isSound 7 (some .boolean) 1 := ⟨List.mem_of_getElem? (i := 861) (by decide +kernel), List.mem_of_getElem? (i := 28) (by decide +kernel), List.mem_of_getElem? (i := 862) (by decide +kernel), by decide +kernel, by decide +kernel, by decide +kernel⟩
theorem lk_L_42 : LK RL 42 yL_isHit := Or.inl (List.mem_of_getElem? (i := 778) (by decide +kernel))
theorem mf_L_isHit : MFs yL_isHit cL_isHit 8 (some .boolean) 4 := ⟨List.mem_of_getElem? (i := 779) (by decide +kernel), List.mem_of_getElem? (i := 28) (by decide +kernel), List.mem_of_getElem? (i := 780) (by decide +kernel), by decide +kernel, by decide +kernel, by decide +kernel⟩
theorem lk_L_46 : LK RL 46 yL_isTuned := Or.inl (List.mem_of_getElem? (i := 791) (by decide +kernel))
theorem mf_L_isTuned : MFs yL_isTuned cL_isTuned 7 (some .boolean) 3 := ⟨List.mem_of_getElem? (i := 792) (by decide +kernel), List.mem_of_getElem? (i := 28) (by decide +kernel), List.mem_of_getElem? (i := 793) (by decide +kernel), by decide +kernel, by decide +kernel, by decide +kernel⟩
theorem lk_L_50 : LK RL 50 yX7_burn := Or.inl (List.mem_of_getElem? (i := 317) (by decide +kernel))
theorem mf_X7_burn : MFv yX7_burn cX7_burn 2 (some .int) 1 := ⟨List.mem_of_getElem? (i := 318) (by decide +kernel), List.mem_of_getElem? (i := 319) (by decide +kernel), List.mem_of_getElem? (i := 29) (by decide +kernel), List.mem_of_getElem? (i := 320) (by decide +kernel), by decide +kernel, by decide +kernel, by decide +kernel⟩
theorem lk_L_53 : LK RL 53 yL_isTaught := Or.inl (List.mem_of_getElem? (i := 800) (by decide +kernel))
theorem mfw_L_isTaught : MFw yL_isTaught cL_isTaught 7 (some .boolean) [(47, 132, 133, 143)] 4 := ⟨List.mem_of_getElem? (i := 801) (by decide +kernel), List.mem_of_getElem? (i := 28) (by decide +kernel), List.mem_of_getElem? (i := 802) (by decide +kernel), by decide +kernel, by decide +kernel, by decide +kernel⟩
theorem lk_L_62 : LK RL 62 yX7_change := Or.inl (List.mem_of_getElem? (i := 394) (by decide +kernel))
theorem mf_X7_change : MFv yX7_change cX7_change 6 (some .int) 3 := ⟨List.mem_of_getElem? (i := 395) (by decide +kernel), List.mem_of_getElem? (i := 396) (by decide +kernel), List.mem_of_getElem? (i := 29) (by decide +kernel), List.mem_of_getElem? (i := 397) (by decide +kernel), by decide +kernel, by decide +kernel, by decide +kernel⟩
theorem lk_L_68 : LK RL 68 yX7_put := Or.inl (List.mem_of_getElem? (i := 428) (by decide +kernel))
theorem mf_X7_put : MFv yX7_put cX7_put 3 (some .int) 1 := ⟨List.mem_of_getElem? (i := 429) (by decide +kernel), List.mem_of_getElem? (i := 430) (by decide +kernel), List.mem_of_getElem? (i := 29) (by decide +kernel), List.mem_of_getElem? (i := 431) (by decide +kernel), by decide +kernel, by decide +kernel, by decide +kernel⟩
theorem lk_L_71 : LK RL 71 yX7_ofPlace := Or.inl (List.mem_of_getElem? (i := 572) (by decide +kernel))
theorem lk_L_74 : LK RL 74 yX7_cut := Or.inl (List.mem_of_getElem? (i := 437) (by decide +kernel))
theorem mf_X7_cut : MFv yX7_cut cX7_cut 3 (some .int) 1 := ⟨List.mem_of_getElem? (i := 438) (by decide +kernel), List.mem_of_getElem? (i := 439) (by decide +kernel), List.mem_of_getElem? (i := 29) (by decide +kernel), List.mem_of_getElem? (i := 440) (by decide +kernel), by decide +kernel, by decide +kernel, by decide +kernel⟩
theorem lk_L_80 : LK RL 80 yX7_absent := Or.inl (List.mem_of_getElem? (i := 500) (by decide +kernel))
theorem mf_X7_absent : MFv yX7_absent cX7_absent 4 (some .boolean) 2 := ⟨List.mem_of_getElem? (i := 501) (by decide +kernel), List.mem_of_getElem? (i := 502) (by decide +kernel), List.mem_of_getElem? (i := 29) (by decide +kernel), List.mem_of_getElem? (i := 503) (by decide +kernel), by decide +kernel, by decide +kernel, by decide +kernel⟩
theorem lk_L_84 : LK RL 84 yX7_rehearse := Or.inl (List.mem_of_getElem? (i := 504) (by decide +kernel))
theorem mf_X7_rehearse : MFv yX7_rehearse cX7_rehearse 4 (some .int) 1 := ⟨List.mem_of_getElem? (i := 505) (by decide +kernel), List.mem_of_getElem? (i := 506) (by decide +kernel), List.mem_of_getElem? (i := 29) (by decide +kernel), List.mem_of_getElem? (i := 507) (by decide +kernel), by decide +kernel, by decide +kernel, by decide +kernel⟩
theorem lk_L_87 : LK RL 87 yL_isPlayed := Or.inl (List.mem_of_getElem? (i := 811) (by decide +kernel))
theorem mfw_L_isPlayed : MFw yL_isPlayed cL_isPlayed 6 (some .boolean) [(21, 134, 135, 143)] 1 := ⟨List.mem_of_getElem? (i := 812) (by decide +kernel), List.mem_of_getElem? (i := 28) (by decide +kernel), List.mem_of_getElem? (i := 813) (by decide +kernel), by decide +kernel, by decide +kernel, by decide +kernel⟩
theorem lk_L_91 : LK RL 91 yL_isPassed := Or.inl (List.mem_of_getElem? (i := 838) (by decide +kernel))
theorem mf_L_isPassed : MFs yL_isPassed cL_isPassed 11 (some .boolean) 3 := ⟨List.mem_of_getElem? (i := 839) (by decide +kernel), List.mem_of_getElem? (i := 28) (by decide +kernel), List.mem_of_getElem? (i := 840) (by decide +kernel), by decide +kernel, by decide +kernel, by decide +kernel⟩
theorem lk_L_97 : LK RL 97 yX7_digest := Or.inl (List.mem_of_getElem? (i := 695) (by decide +kernel))
theorem mf_X7_digest : MFv yX7_digest cX7_digest 4 (some .long) 0 := ⟨List.mem_of_getElem? (i := 696) (by decide +kernel), List.mem_of_getElem? (i := 697) (by decide +kernel), List.mem_of_getElem? (i := 29) (by decide +kernel), List.mem_of_getElem? (i := 698) (by decide +kernel), by decide +kernel, by decide +kernel, by decide +kernel⟩
theorem lk_L_108 : LK RL 108 yX7_bestTeach := Or.inl (List.mem_of_getElem? (i := 679) (by decide +kernel))
theorem lk_L_111 : LK RL 111 yX7_meanMemory := Or.inl (List.mem_of_getElem? (i := 644) (by decide +kernel))
theorem mf_X7_meanMemory : MFv yX7_meanMemory cX7_meanMemory 5 (some .double) 0 := ⟨List.mem_of_getElem? (i := 645) (by decide +kernel), List.mem_of_getElem? (i := 646) (by decide +kernel), List.mem_of_getElem? (i := 29) (by decide +kernel), List.mem_of_getElem? (i := 647) (by decide +kernel), by decide +kernel, by decide +kernel, by decide +kernel⟩
theorem lk_L_104 : LK RL 104 yX7_bestOrder := Or.inl (List.mem_of_getElem? (i := 665) (by decide +kernel))
def f_L_step_B802 (N : Nt) (u : St) : Option (Except String Int32 × St) :=
  xb (f_L_isSound N u) fun r19 u21 =>
  if r19 = 0 then
    some (.ok 0, u21)
  else
    some (.ok 1, u21)
def f_L_step_B388 (N : Nt) (y8 : Int32) (y5 : Int32) (y4 : Int32) (y3 : Int32) (u : St) : Option (Except String Int32 × St) :=
  if y8 = 0 then
    f_L_step_B802 N u
  else
    sb (f_L_below N u (y4 >>> (4 &&& 31)) 8) fun r23 u25 =>
    sb (f_L_below N u25 (y3 >>> (4 &&& 31)) 41) fun r26 u28 =>
    xb (f_L_isHit N u28 y5 r23 (r26 - 20)) fun r29 u31 =>
    if r29 = 0 then
      some (.ok 0, u31)
    else
      f_L_step_B802 N u31
def f_L_step_B474 (N : Nt) (y7 : Int32) (y6 : Int32) (y3 : Int32) (u : St) : Option (Except String Int32 × St) :=
  sb (f_L_below N u (y3 >>> (3 &&& 31)) 60) fun r53 u55 =>
  xb (f_L_isTaught N u55 y6 y7 (1 + r53)) fun r56 u58 =>
  if r56 = 0 then
    some (.ok 0, u58)
  else
    f_L_step_B802 N u58
def f_L_step_B567 (N : Nt) (y7 : Int32) (u : St) : Option (Except String Int32 × St) :=
  xb (f_X7_many N u 3) fun r84 u86 =>
  if 10 ≤ r84 then
    f_L_step_B802 N u86
  else
    xb (f_X7_put N u86 y7) fun r88 u90 =>
    xb (f_X7_many N u90 3) fun r91 u93 =>
    if r88 = (r91 - 1) then
      xb (f_X7_many N u93 3) fun r95 u97 =>
      xb (f_X7_ofPlace N u97 (r95 - 1) 0) fun r98 u100 =>
      if r98 = y7 then
        f_L_step_B802 N u100
      else
        some (.ok 0, u100)
    else
      some (.ok 0, u93)
def f_L_step_B673 (N : Nt) (y11 : Int32) (y6 : Int32) (w0 : Int32) (u : St) : Option (Except String Int32 × St) :=
  xb (f_X7_absent N u y6 y11) fun r127 u129 =>
  if r127 = w0 then
    if y11 = 0 then
      f_L_step_B802 N u129
    else
      xb (f_X7_ofPlayer N u129 y6 5) fun r132 u134 =>
      if r132 = 1 then
        some (.ok 0, u134)
      else
        f_L_step_B802 N u134
  else
    some (.ok 0, u129)
def f_L_step_B655 (N : Nt) (y6 : Int32) (w0 : Int32) (u : St) : Option (Except String Int32 × St) :=
  xb (f_X7_ofPlayer N u y6 4) fun r123 u125 =>
  if r123 = 1 then
    f_L_step_B673 N w0 y6 1 u125
  else
    f_L_step_B673 N w0 y6 0 u125
def f_L_step_B706 (N : Nt) (y3 : Int32) (u : St) : Option (Except String Int32 × St) :=
  xb (f_X7_many N u 12) fun r137 u139 =>
  if 60 ≤ r137 then
    f_L_step_B802 N u139
  else
    sb (f_L_below N u139 (y3 >>> (3 &&& 31)) 51) fun r141 u143 =>
    xb (f_X7_rehearse N u143 (10 + r141)) fun r144 u146 =>
    xb (f_X7_many N u146 5) fun r147 u149 =>
    if r144 = r147 then
      f_L_step_B802 N u149
    else
      some (.ok 0, u149)
def f_L_step_B307 (N : Nt) (y7 : Int32) (y6 : Int32) (y5 : Int32) (y4 : Int32) (y3 : Int32) (w0 : Int32) (u : St) : Option (Except String Int32 × St) :=
  sb (f_L_below N u y3 17) fun r14 u16 =>
  if r14 = 0 then
    f_L_step_B388 N w0 y5 y4 y3 u16
  else
  if r14 = 1 then
    f_L_step_B388 N w0 y5 y4 y3 u16
  else
  if r14 = 2 then
    if w0 = 0 then
      f_L_step_B802 N u16
    else
      sb (f_L_below N u16 (y3 >>> (4 &&& 31)) 111) fun r36 u38 =>
      xb (f_L_isTuned N u38 y5 (10 + r36)) fun r39 u41 =>
      if r39 = 0 then
        some (.ok 0, u41)
      else
        f_L_step_B802 N u41
  else
  if r14 = 3 then
    if w0 = 0 then
      f_L_step_B802 N u16
    else
      xb (f_X7_burn N u16 y5) fun r45 u47 =>
      xb (f_X7_ofPan N u47 y5 1) fun r48 u50 =>
      if r45 = r48 then
        f_L_step_B802 N u50
      else
        some (.ok 0, u50)
  else
  if r14 = 4 then
    f_L_step_B474 N y7 y6 y3 u16
  else
  if r14 = 5 then
    f_L_step_B474 N y7 y6 y3 u16
  else
  if r14 = 6 then
    f_L_step_B474 N y7 y6 y3 u16
  else
  if r14 = 7 then
    xb (f_X7_memory N u16 y6 y7) fun r63 u65 =>
    xb (f_X7_ofPhrase N u65 y7 3) fun r66 u68 =>
    sb (f_L_below N u68 y4 9) fun r69 u71 =>
    sb (f_L_below N u71 (y4 >>> (3 &&& 31)) 255) fun r72 u74 =>
    xb (f_X7_change N u74 y7 (1 + r69) (1 + r72)) fun r75 u77 =>
    if r75 = (r66 + 1) then
      xb (f_X7_memory N u77 y6 y7) fun r79 u81 =>
      if r79 ≤ (r63 / 2) then
        f_L_step_B802 N u81
      else
        some (.ok 0, u81)
    else
      some (.ok 0, u77)
  else
  if r14 = 8 then
    f_L_step_B567 N y7 u16
  else
  if r14 = 9 then
    f_L_step_B567 N y7 u16
  else
  if r14 = 10 then
    xb (f_X7_many N u16 3) fun r104 u106 =>
    if r104 ≤ 0 then
      f_L_step_B802 N u106
    else
      xb (f_X7_many N u106 3) fun r108 u110 =>
      sb (f_L_below N u110 y4 r108) fun r111 u113 =>
      xb (f_X7_cut N u113 r111) fun r114 u116 =>
      if 0 ≤ r114 then
        f_L_step_B802 N u116
      else
        some (.ok 0, u116)
  else
  if r14 = 11 then
    sb (f_L_below N u16 (y4 >>> (5 &&& 31)) 3) fun r119 u121 =>
    if r119 = 0 then
      f_L_step_B655 N y6 1 u121
    else
      f_L_step_B655 N y6 0 u121
  else
  if r14 = 12 then
    f_L_step_B706 N y3 u16
  else
  if r14 = 13 then
    f_L_step_B706 N y3 u16
  else
  if r14 = 14 then
    xb (f_X7_many N u16 9) fun r153 u155 =>
    if r153 = 0 then
      xb (f_X7_many N u155 5) fun r157 u159 =>
      if r157 ≤ 0 then
        f_L_step_B802 N u159
      else
        xb (f_X7_many N u159 3) fun r161 u163 =>
        if r161 ≤ 0 then
          f_L_step_B802 N u163
        else
          xb (f_L_isPlayed N u163) fun r165 u167 =>
          if r165 = 0 then
            some (.ok 0, u167)
          else
            f_L_step_B802 N u167
    else
      f_L_step_B802 N u155
  else
  sb (f_L_below N u16 (y3 >>> (3 &&& 31)) 10) fun r169 u171 =>
  sb (f_L_below N u171 (y4 >>> (3 &&& 31)) 10) fun r172 u174 =>
  xb (f_L_isPassed N u174 r169 r172) fun r175 u177 =>
  if r175 = 0 then
    some (.ok 0, u177)
  else
    f_L_step_B802 N u177
def f_L_step (N : Nt) (u : St) (x : Int32) (y : Int32) : Option (Except String Int32 × St) :=
  sb (f_L_below N u y 4) fun r1 u3 =>
  sb (f_L_below N u3 (y >>> (2 &&& 31)) 6) fun r4 u6 =>
  sb (f_L_below N u6 (x >>> (5 &&& 31)) 6) fun r7 u09 =>
  xb (f_X7_ofPan N u09 r1 2) fun r10 u12 =>
  if r10 = 0 then
    f_L_step_B307 N r7 r4 r1 y x 1 u12
  else
    f_L_step_B307 N r7 r4 r1 y x 0 u12
set_option maxRecDepth 100000 in
set_option maxHeartbeats 8000000 in
theorem seg_step {p : Program} {l : Launch} {e : Env} {s : State} {m : MethodId} {below : List Frame} {meth : Method} {c : Code} {b : Nat} {z : Zt} {ad : Ad} {N : Nt} {X : Gt} {H : Heap} {locs : List Loc} {ls : Array Slot} {cells slots : Nat} {Q : State → Prop} {u u9 : St} {k : Int32} (x : Int32) (y : Int32) (hLX : LX p l e s m meth c z ad) (hC : Cs cells slots) (hl : lv_has ls 13 [(4, .int y), (3, .int x), (2, .int k), (0, .ref b), (1, .ref (ad 0 0))]) (hW : GW z ad (GC z ad N X u) H) (hS : va_S (zA z) s.heap H locs) (h : f_L_step N u x y = some (.ok 1, u9))
    (kk : ∀ (H1 : Heap) (locs1 : List Loc) (ls1 : Array Slot), va_S (zA z) s.heap H1 locs1 → GW z ad (GC z ad N X u9) H1 → lv_has ls1 13 [(0, .ref b), (1, .ref (ad 0 0)), (2, .int k)] → W p l e room_1 s m #[Value.ref b] below meth c H1 locs1 (cells + 9) (slots + 50) Q (F0 m 811 ls1 [])) : W p l e room_1 s m #[Value.ref b] below meth c H locs cells slots Q (F0 m 263 ls []) := by
  obtain ⟨hx, hb, hml, hown, hSW, hfl, hA⟩ := hLX
  obtain ⟨hT, hK, hST, hB0⟩ := id hSW
  let WW : Nat → Nat → Heap → List Loc → JFrame → Prop := fun c9 s9 H locs g => W p l e room_1 s m #[Value.ref b] below meth c H locs c9 s9 Q g
  have hB802 : ∀ (u : St) (H : Heap) (locs : List Loc) (ls : Array Slot), lv_has ls 13 [(2, .int k), (0, .ref b), (1, .ref (ad 0 0))] → GW z ad (GC z ad N X u) H → va_S (zA z) s.heap H locs → f_L_step_B802 N u = some (.ok 1, u9) → WW (cells + 9) (slots + 50) H locs (F0 m 802 ls []) := by
    intro u H locs ls hl hW hS h
    change W p l e _ s m _ below meth c H locs (cells + 9) (slots + 50) _ (F0 m 802 ls [])
    unfold f_L_step_B802 at h
    refine lv_aload_n hx hb dL_law_802 rfl (lv_at hl 2 rfl) ?_
    obtain ⟨r19, u21, h20, h⟩ := xb_s h
    refine nb_ci (nb_runS (As := [.ref (ad 0 0)]) (rest := []) hx hb hml hown hSW hS hW (c_L_isSound l z ad N X u h20) mf_L_isSound lk_L_94 rfl ⟨rfl, rfl⟩ ⟨Nat.le_of_ble_eq_true rfl, Nat.le_of_ble_eq_true rfl⟩ hl.1 (Nat.le_of_ble_eq_true rfl) dL_law_803 (hC.ge9 (by decide) (by decide))) hS (fun H locs (hW : GW z ad (GC z ad N X u21) H) hS => ?_)
    refine lv_if_ne (tgt := 811) hx hb dL_law_806 (by decide) (fun c22 => ?_) (fun c22 => ?_)
    · replace h := ite_f h c22
      obtain rfl : u21 = u9 := congrArg Prod.snd (Option.some.inj h)
      exact kk _ _ _ hS hW (lv_sub hl [1, 2, 0] rfl)
    · replace h := ite_t h c22
      refine lv_iconst (v := 0) hx hb dL_law_809 (by decide) ?_
      exact absurd h ret01
  have hB388 : ∀ (y8 : Int32) (y5 : Int32) (y4 : Int32) (y3 : Int32) (u : St) (H : Heap) (locs : List Loc) (ls : Array Slot), lv_has ls 13 [(8, .int y8), (5, .int y5), (4, .int y4), (3, .int y3), (2, .int k), (0, .ref b), (1, .ref (ad 0 0))] → GW z ad (GC z ad N X u) H → va_S (zA z) s.heap H locs → f_L_step_B388 N y8 y5 y4 y3 u = some (.ok 1, u9) → WW cells slots H locs (F0 m 388 ls []) := by
    intro y8 y5 y4 y3 u H locs ls hl hW hS h
    change W p l e _ s m _ below meth c H locs cells slots _ (F0 m 388 ls [])
    unfold f_L_step_B388 at h
    refine lv_iload hx hb dL_law_388 (lv_at hl 0 rfl) ?_
    refine lv_if_eq (tgt := 802) hx hb dL_law_390 (by decide) (fun c18 => ?_) (fun c18 => ?_)
    · replace h := ite_t h c18
      refine W.widen (k := cells + 9) (n := slots + 50) (by omega) (by omega) ?_
      exact hB802 _ _ _ _ (lv_sub hl [4, 5, 6] rfl) hW hS h
    · replace h := ite_f h c18
      refine lv_aload_n hx hb dL_law_393 rfl (lv_at hl 6 rfl) ?_
      refine lv_iload hx hb dL_law_394 (lv_at hl 1 rfl) ?_
      refine lv_iload hx hb dL_law_396 (lv_at hl 2 rfl) ?_
      refine lv_iconst (v := 4) hx hb dL_law_398 (by decide) ?_
      refine lv_ishr hx hb dL_law_399 ?_
      refine lv_bipush (v := 8) hx hb dL_law_400 (by decide) ?_
      obtain ⟨r23, u25, h24, h⟩ := sb_s h
      refine nb_ci (nb_runS (As := [.int (y4 >>> (4 &&& 31)), .int 8]) (rest := [.int y5, .ref (ad 0 0)]) hx hb hml hown hSW hS hW (c_L_below l z ad N X u (y4 >>> (4 &&& 31)) 8 h24) mf_L_below lk_L_18 rfl ⟨rfl, rfl⟩ ⟨Nat.le_of_ble_eq_true rfl, Nat.le_of_ble_eq_true rfl⟩ hl.1 (Nat.le_of_ble_eq_true rfl) dL_law_402 (hC.ge (by decide) (by decide))) hS (fun H locs (hW : GW z ad (GC z ad N X u25) H) hS => ?_)
      refine lv_iload_n hx hb dL_law_405 rfl (lv_at hl 3 rfl) ?_
      refine lv_iconst (v := 4) hx hb dL_law_406 (by decide) ?_
      refine lv_ishr hx hb dL_law_407 ?_
      refine lv_bipush (v := 41) hx hb dL_law_408 (by decide) ?_
      obtain ⟨r26, u28, h27, h⟩ := sb_s h
      refine nb_ci (nb_runS (As := [.int (y3 >>> (4 &&& 31)), .int 41]) (rest := [.int r23, .int y5, .ref (ad 0 0)]) hx hb hml hown hSW hS hW (c_L_below l z ad N X u25 (y3 >>> (4 &&& 31)) 41 h27) mf_L_below lk_L_18 rfl ⟨rfl, rfl⟩ ⟨Nat.le_of_ble_eq_true rfl, Nat.le_of_ble_eq_true rfl⟩ hl.1 (Nat.le_of_ble_eq_true rfl) dL_law_410 (hC.ge (by decide) (by decide))) hS (fun H locs (hW : GW z ad (GC z ad N X u28) H) hS => ?_)
      refine lv_bipush (v := 20) hx hb dL_law_413 (by decide) ?_
      refine lv_isub hx hb dL_law_415 ?_
      obtain ⟨r29, u31, h30, h⟩ := xb_s h
      refine nb_ci (nb_runS (As := [.ref (ad 0 0), .int y5, .int r23, .int (r26 - 20)]) (rest := []) hx hb hml hown hSW hS hW (c_L_isHit l z ad N X u28 y5 r23 (r26 - 20) h30) mf_L_isHit lk_L_42 rfl ⟨rfl, rfl⟩ ⟨Nat.le_of_ble_eq_true rfl, Nat.le_of_ble_eq_true rfl⟩ hl.1 (Nat.le_of_ble_eq_true rfl) dL_law_416 (hC.ge (by decide) (by decide))) hS (fun H locs (hW : GW z ad (GC z ad N X u31) H) hS => ?_)
      refine lv_if_ne (tgt := 802) hx hb dL_law_419 (by decide) (fun c32 => ?_) (fun c32 => ?_)
      · replace h := ite_f h c32
        refine W.widen (k := cells + 9) (n := slots + 50) (by omega) (by omega) ?_
        exact hB802 _ _ _ _ (lv_sub hl [4, 5, 6] rfl) hW hS h
      · replace h := ite_t h c32
        refine lv_iconst (v := 0) hx hb dL_law_422 (by decide) ?_
        exact absurd h ret01
  have hB474 : ∀ (y7 : Int32) (y6 : Int32) (y3 : Int32) (u : St) (H : Heap) (locs : List Loc) (ls : Array Slot), lv_has ls 13 [(7, .int y7), (6, .int y6), (3, .int y3), (2, .int k), (0, .ref b), (1, .ref (ad 0 0))] → GW z ad (GC z ad N X u) H → va_S (zA z) s.heap H locs → f_L_step_B474 N y7 y6 y3 u = some (.ok 1, u9) → WW cells slots H locs (F0 m 474 ls []) := by
    intro y7 y6 y3 u H locs ls hl hW hS h
    change W p l e _ s m _ below meth c H locs cells slots _ (F0 m 474 ls [])
    unfold f_L_step_B474 at h
    refine lv_aload_n hx hb dL_law_474 rfl (lv_at hl 5 rfl) ?_
    refine lv_iload hx hb dL_law_475 (lv_at hl 1 rfl) ?_
    refine lv_iload hx hb dL_law_477 (lv_at hl 0 rfl) ?_
    refine lv_iconst (v := 1) hx hb dL_law_479 (by decide) ?_
    refine lv_iload_n hx hb dL_law_480 rfl (lv_at hl 2 rfl) ?_
    refine lv_iconst (v := 3) hx hb dL_law_481 (by decide) ?_
    refine lv_ishr hx hb dL_law_482 ?_
    refine lv_bipush (v := 60) hx hb dL_law_483 (by decide) ?_
    obtain ⟨r53, u55, h54, h⟩ := sb_s h
    refine nb_ci (nb_runS (As := [.int (y3 >>> (3 &&& 31)), .int 60]) (rest := [.int 1, .int y7, .int y6, .ref (ad 0 0)]) hx hb hml hown hSW hS hW (c_L_below l z ad N X u (y3 >>> (3 &&& 31)) 60 h54) mf_L_below lk_L_18 rfl ⟨rfl, rfl⟩ ⟨Nat.le_of_ble_eq_true rfl, Nat.le_of_ble_eq_true rfl⟩ hl.1 (Nat.le_of_ble_eq_true rfl) dL_law_485 (hC.ge (by decide) (by decide))) hS (fun H locs (hW : GW z ad (GC z ad N X u55) H) hS => ?_)
    refine lv_iadd hx hb dL_law_488 ?_
    obtain ⟨r56, u58, h57, h⟩ := xb_s h
    refine nb_cim (nb_runW (As := [.ref (ad 0 0), .int y6, .int y7, .int (1 + r53)]) (rest := []) hx hb hml hown hSW hS hW (c_L_isTaught l z ad N X u55 y6 y7 (1 + r53) hfl h57) mfw_L_isTaught (List.mem_of_getElem? (i := 800) (by decide +kernel)) rfl ⟨rfl, rfl⟩ ⟨Nat.le_of_ble_eq_true rfl, Nat.le_of_ble_eq_true rfl⟩ hl.1 (Nat.le_of_ble_eq_true rfl) dL_law_489 (hC.ge (by decide) (by decide))) hS (fun H locs (hW : GW z ad (GC z ad N X u58) H) hS => ?_)
    refine lv_if_ne (tgt := 802) hx hb dL_law_492 (by decide) (fun c59 => ?_) (fun c59 => ?_)
    · replace h := ite_f h c59
      refine W.widen (k := cells + 9) (n := slots + 50) (by omega) (by omega) ?_
      exact hB802 _ _ _ _ (lv_sub hl [3, 4, 5] rfl) hW hS h
    · replace h := ite_t h c59
      refine lv_iconst (v := 0) hx hb dL_law_495 (by decide) ?_
      exact absurd h ret01
  have hB567 : ∀ (y7 : Int32) (u : St) (H : Heap) (locs : List Loc) (ls : Array Slot), lv_has ls 13 [(7, .int y7), (2, .int k), (0, .ref b), (1, .ref (ad 0 0))] → GW z ad (GC z ad N X u) H → va_S (zA z) s.heap H locs → f_L_step_B567 N y7 u = some (.ok 1, u9) → WW cells slots H locs (F0 m 567 ls []) := by
    intro y7 u H locs ls hl hW hS h
    change W p l e _ s m _ below meth c H locs cells slots _ (F0 m 567 ls [])
    unfold f_L_step_B567 at h
    refine lv_aload_n hx hb dL_law_567 rfl (lv_at hl 3 rfl) ?_
    refine lv_iconst (v := 3) hx hb dL_law_568 (by decide) ?_
    obtain ⟨r84, u86, h85, h⟩ := xb_s h
    refine nb_ci (nb_runV (As := [.int 3]) (rest := []) hx hb hml hown hSW hS hW (c_X7_many l z ad N X u 3 h85) mf_X7_many lk_L_65 kr_0 rfl rfl ⟨rfl, rfl⟩ ⟨Nat.le_of_ble_eq_true rfl, Nat.le_of_ble_eq_true rfl⟩ hl.1 (Nat.le_of_ble_eq_true rfl) dL_law_569 (hC.ge (by decide) (by decide))) hS (fun H locs (hW : GW z ad (GC z ad N X u86) H) hS => ?_)
    refine lv_bipush (v := 10) hx hb dL_law_572 (by decide) ?_
    refine lv_icmp_ge (tgt := 802) hx hb dL_law_574 (by decide) (fun c87 => ?_) (fun c87 => ?_)
    · replace h := ite_t h c87
      refine W.widen (k := cells + 9) (n := slots + 50) (by omega) (by omega) ?_
      exact hB802 _ _ _ _ (lv_sub hl [1, 2, 3] rfl) hW hS h
    · replace h := ite_f h c87
      refine lv_aload_n hx hb dL_law_577 rfl (lv_at hl 3 rfl) ?_
      refine lv_iload hx hb dL_law_578 (lv_at hl 0 rfl) ?_
      obtain ⟨r88, u90, h89, h⟩ := xb_s h
      refine nb_ci (nb_runV (As := [.int y7]) (rest := []) hx hb hml hown hSW hS hW (c_X7_put l z ad N X u86 y7 h89) mf_X7_put lk_L_68 kr_0 rfl rfl ⟨rfl, rfl⟩ ⟨Nat.le_of_ble_eq_true rfl, Nat.le_of_ble_eq_true rfl⟩ hl.1 (Nat.le_of_ble_eq_true rfl) dL_law_580 (hC.ge (by decide) (by decide))) hS (fun H locs (hW : GW z ad (GC z ad N X u90) H) hS => ?_)
      refine lv_aload_n hx hb dL_law_583 rfl (lv_at hl 3 rfl) ?_
      refine lv_iconst (v := 3) hx hb dL_law_584 (by decide) ?_
      obtain ⟨r91, u93, h92, h⟩ := xb_s h
      refine nb_ci (nb_runV (As := [.int 3]) (rest := [.int r88]) hx hb hml hown hSW hS hW (c_X7_many l z ad N X u90 3 h92) mf_X7_many lk_L_65 kr_0 rfl rfl ⟨rfl, rfl⟩ ⟨Nat.le_of_ble_eq_true rfl, Nat.le_of_ble_eq_true rfl⟩ hl.1 (Nat.le_of_ble_eq_true rfl) dL_law_585 (hC.ge (by decide) (by decide))) hS (fun H locs (hW : GW z ad (GC z ad N X u93) H) hS => ?_)
      refine lv_iconst (v := 1) hx hb dL_law_588 (by decide) ?_
      refine lv_isub hx hb dL_law_589 ?_
      refine lv_icmp_ne (tgt := 610) hx hb dL_law_590 (by decide) (fun c94 => ?_) (fun c94 => ?_)
      · replace h := ite_f h c94
        refine lv_iconst (v := 0) hx hb dL_law_610 (by decide) ?_
        exact absurd h ret01
      · replace h := ite_t h c94
        refine lv_aload_n hx hb dL_law_593 rfl (lv_at hl 3 rfl) ?_
        refine lv_aload_n hx hb dL_law_594 rfl (lv_at hl 3 rfl) ?_
        refine lv_iconst (v := 3) hx hb dL_law_595 (by decide) ?_
        obtain ⟨r95, u97, h96, h⟩ := xb_s h
        refine nb_ci (nb_runV (As := [.int 3]) (rest := [.ref (ad 0 0)]) hx hb hml hown hSW hS hW (c_X7_many l z ad N X u93 3 h96) mf_X7_many lk_L_65 kr_0 rfl rfl ⟨rfl, rfl⟩ ⟨Nat.le_of_ble_eq_true rfl, Nat.le_of_ble_eq_true rfl⟩ hl.1 (Nat.le_of_ble_eq_true rfl) dL_law_596 (hC.ge (by decide) (by decide))) hS (fun H locs (hW : GW z ad (GC z ad N X u97) H) hS => ?_)
        refine lv_iconst (v := 1) hx hb dL_law_599 (by decide) ?_
        refine lv_isub hx hb dL_law_600 ?_
        refine lv_iconst (v := 0) hx hb dL_law_601 (by decide) ?_
        obtain ⟨r98, u100, h99, h⟩ := xb_s h
        refine nb_ci (nb_runV (As := [.int (r95 - 1), .int 0]) (rest := []) hx hb hml hown hSW hS hW (c_X7_ofPlace l z ad N X u97 (r95 - 1) 0 h99) mf_X7_ofPlace lk_L_71 kr_0 rfl rfl ⟨rfl, rfl⟩ ⟨Nat.le_of_ble_eq_true rfl, Nat.le_of_ble_eq_true rfl⟩ hl.1 (Nat.le_of_ble_eq_true rfl) dL_law_602 (hC.ge (by decide) (by decide))) hS (fun H locs (hW : GW z ad (GC z ad N X u100) H) hS => ?_)
        refine lv_iload hx hb dL_law_605 (lv_at hl 0 rfl) ?_
        refine lv_icmp_eq (tgt := 802) hx hb dL_law_607 (by decide) (fun c101 => ?_) (fun c101 => ?_)
        · replace h := ite_t h c101
          refine W.widen (k := cells + 9) (n := slots + 50) (by omega) (by omega) ?_
          exact hB802 _ _ _ _ (lv_sub hl [1, 2, 3] rfl) hW hS h
        · replace h := ite_f h c101
          refine lv_iconst (v := 0) hx hb dL_law_610 (by decide) ?_
          exact absurd h ret01
  have hB673 : ∀ (y11 : Int32) (y6 : Int32) (w0 : Int32) (u : St) (H : Heap) (locs : List Loc) (ls : Array Slot), lv_has ls 13 [(11, .int y11), (6, .int y6), (2, .int k), (0, .ref b), (1, .ref (ad 0 0))] → GW z ad (GC z ad N X u) H → va_S (zA z) s.heap H locs → f_L_step_B673 N y11 y6 w0 u = some (.ok 1, u9) → WW cells slots H locs (F0 m 673 ls [.int w0]) := by
    intro y11 y6 w0 u H locs ls hl hW hS h
    change W p l e _ s m _ below meth c H locs cells slots _ (F0 m 673 ls [.int w0])
    unfold f_L_step_B673 at h
    refine lv_istore (lv' := [(12, .int w0), (11, .int y11), (6, .int y6), (2, .int k), (0, .ref b), (1, .ref (ad 0 0))]) hx hb dL_law_673 hl (by decide) rfl (fun ls hl => ?_)
    refine lv_aload_n hx hb dL_law_675 rfl (lv_at hl 5 rfl) ?_
    refine lv_iload hx hb dL_law_676 (lv_at hl 2 rfl) ?_
    refine lv_iload hx hb dL_law_678 (lv_at hl 1 rfl) ?_
    obtain ⟨r127, u129, h128, h⟩ := xb_s h
    refine nb_ci (nb_runV (As := [.int y6, .int y11]) (rest := []) hx hb hml hown hSW hS hW (c_X7_absent l z ad N X u y6 y11 h128) mf_X7_absent lk_L_80 kr_0 rfl rfl ⟨rfl, rfl⟩ ⟨Nat.le_of_ble_eq_true rfl, Nat.le_of_ble_eq_true rfl⟩ hl.1 (Nat.le_of_ble_eq_true rfl) dL_law_680 (hC.ge (by decide) (by decide))) hS (fun H locs (hW : GW z ad (GC z ad N X u129) H) hS => ?_)
    refine lv_iload hx hb dL_law_683 (lv_at hl 0 rfl) ?_
    refine lv_icmp_ne (tgt := 704) hx hb dL_law_685 (by decide) (fun c130 => ?_) (fun c130 => ?_)
    · replace h := ite_f h c130
      refine lv_iconst (v := 0) hx hb dL_law_704 (by decide) ?_
      exact absurd h ret01
    · replace h := ite_t h c130
      refine lv_iload hx hb dL_law_688 (lv_at hl 1 rfl) ?_
      refine lv_if_eq (tgt := 802) hx hb dL_law_690 (by decide) (fun c131 => ?_) (fun c131 => ?_)
      · replace h := ite_t h c131
        refine W.widen (k := cells + 9) (n := slots + 50) (by omega) (by omega) ?_
        exact hB802 _ _ _ _ (lv_sub hl [3, 4, 5] rfl) hW hS h
      · replace h := ite_f h c131
        refine lv_aload_n hx hb dL_law_693 rfl (lv_at hl 5 rfl) ?_
        refine lv_iload hx hb dL_law_694 (lv_at hl 2 rfl) ?_
        refine lv_iconst (v := 5) hx hb dL_law_696 (by decide) ?_
        obtain ⟨r132, u134, h133, h⟩ := xb_s h
        refine nb_ci (nb_runV (As := [.int y6, .int 5]) (rest := []) hx hb hml hown hSW hS hW (c_X7_ofPlayer l z ad N X u129 y6 5 h133) mf_X7_ofPlayer lk_L_77 kr_0 rfl rfl ⟨rfl, rfl⟩ ⟨Nat.le_of_ble_eq_true rfl, Nat.le_of_ble_eq_true rfl⟩ hl.1 (Nat.le_of_ble_eq_true rfl) dL_law_697 (hC.ge (by decide) (by decide))) hS (fun H locs (hW : GW z ad (GC z ad N X u134) H) hS => ?_)
        refine lv_iconst (v := 1) hx hb dL_law_700 (by decide) ?_
        refine lv_icmp_ne (tgt := 802) hx hb dL_law_701 (by decide) (fun c135 => ?_) (fun c135 => ?_)
        · replace h := ite_f h c135
          refine W.widen (k := cells + 9) (n := slots + 50) (by omega) (by omega) ?_
          exact hB802 _ _ _ _ (lv_sub hl [3, 4, 5] rfl) hW hS h
        · replace h := ite_t h c135
          refine lv_iconst (v := 0) hx hb dL_law_704 (by decide) ?_
          exact absurd h ret01
  have hB655 : ∀ (y6 : Int32) (w0 : Int32) (u : St) (H : Heap) (locs : List Loc) (ls : Array Slot), lv_has ls 13 [(6, .int y6), (2, .int k), (0, .ref b), (1, .ref (ad 0 0))] → GW z ad (GC z ad N X u) H → va_S (zA z) s.heap H locs → f_L_step_B655 N y6 w0 u = some (.ok 1, u9) → WW cells slots H locs (F0 m 655 ls [.int w0]) := by
    intro y6 w0 u H locs ls hl hW hS h
    change W p l e _ s m _ below meth c H locs cells slots _ (F0 m 655 ls [.int w0])
    unfold f_L_step_B655 at h
    refine lv_istore (lv' := [(11, .int w0), (6, .int y6), (2, .int k), (0, .ref b), (1, .ref (ad 0 0))]) hx hb dL_law_655 hl (by decide) rfl (fun ls hl => ?_)
    refine lv_aload_n hx hb dL_law_657 rfl (lv_at hl 4 rfl) ?_
    refine lv_iload hx hb dL_law_658 (lv_at hl 1 rfl) ?_
    refine lv_iconst (v := 4) hx hb dL_law_660 (by decide) ?_
    obtain ⟨r123, u125, h124, h⟩ := xb_s h
    refine nb_ci (nb_runV (As := [.int y6, .int 4]) (rest := []) hx hb hml hown hSW hS hW (c_X7_ofPlayer l z ad N X u y6 4 h124) mf_X7_ofPlayer lk_L_77 kr_0 rfl rfl ⟨rfl, rfl⟩ ⟨Nat.le_of_ble_eq_true rfl, Nat.le_of_ble_eq_true rfl⟩ hl.1 (Nat.le_of_ble_eq_true rfl) dL_law_661 (hC.ge (by decide) (by decide))) hS (fun H locs (hW : GW z ad (GC z ad N X u125) H) hS => ?_)
    refine lv_iconst (v := 1) hx hb dL_law_664 (by decide) ?_
    refine lv_icmp_ne (tgt := 672) hx hb dL_law_665 (by decide) (fun c126 => ?_) (fun c126 => ?_)
    · replace h := ite_f h c126
      refine lv_iconst (v := 0) hx hb dL_law_672 (by decide) ?_
      exact hB673 _ _ _ _ _ _ _ (lv_sub hl [0, 1, 2, 3, 4] rfl) hW hS h
    · replace h := ite_t h c126
      refine lv_iconst (v := 1) hx hb dL_law_668 (by decide) ?_
      refine lv_goto (tgt := 673) hx hb dL_law_669 (by decide) ?_
      exact hB673 _ _ _ _ _ _ _ (lv_sub hl [0, 1, 2, 3, 4] rfl) hW hS h
  have hB706 : ∀ (y3 : Int32) (u : St) (H : Heap) (locs : List Loc) (ls : Array Slot), lv_has ls 13 [(3, .int y3), (2, .int k), (0, .ref b), (1, .ref (ad 0 0))] → GW z ad (GC z ad N X u) H → va_S (zA z) s.heap H locs → f_L_step_B706 N y3 u = some (.ok 1, u9) → WW cells slots H locs (F0 m 706 ls []) := by
    intro y3 u H locs ls hl hW hS h
    change W p l e _ s m _ below meth c H locs cells slots _ (F0 m 706 ls [])
    unfold f_L_step_B706 at h
    refine lv_aload_n hx hb dL_law_706 rfl (lv_at hl 3 rfl) ?_
    refine lv_bipush (v := 12) hx hb dL_law_707 (by decide) ?_
    obtain ⟨r137, u139, h138, h⟩ := xb_s h
    refine nb_ci (nb_runV (As := [.int 12]) (rest := []) hx hb hml hown hSW hS hW (c_X7_many l z ad N X u 12 h138) mf_X7_many lk_L_65 kr_0 rfl rfl ⟨rfl, rfl⟩ ⟨Nat.le_of_ble_eq_true rfl, Nat.le_of_ble_eq_true rfl⟩ hl.1 (Nat.le_of_ble_eq_true rfl) dL_law_709 (hC.ge (by decide) (by decide))) hS (fun H locs (hW : GW z ad (GC z ad N X u139) H) hS => ?_)
    refine lv_bipush (v := 60) hx hb dL_law_712 (by decide) ?_
    refine lv_icmp_ge (tgt := 802) hx hb dL_law_714 (by decide) (fun c140 => ?_) (fun c140 => ?_)
    · replace h := ite_t h c140
      refine W.widen (k := cells + 9) (n := slots + 50) (by omega) (by omega) ?_
      exact hB802 _ _ _ _ (lv_sub hl [1, 2, 3] rfl) hW hS h
    · replace h := ite_f h c140
      refine lv_aload_n hx hb dL_law_717 rfl (lv_at hl 3 rfl) ?_
      refine lv_bipush (v := 10) hx hb dL_law_718 (by decide) ?_
      refine lv_iload_n hx hb dL_law_720 rfl (lv_at hl 0 rfl) ?_
      refine lv_iconst (v := 3) hx hb dL_law_721 (by decide) ?_
      refine lv_ishr hx hb dL_law_722 ?_
      refine lv_bipush (v := 51) hx hb dL_law_723 (by decide) ?_
      obtain ⟨r141, u143, h142, h⟩ := sb_s h
      refine nb_ci (nb_runS (As := [.int (y3 >>> (3 &&& 31)), .int 51]) (rest := [.int 10, .ref (ad 0 0)]) hx hb hml hown hSW hS hW (c_L_below l z ad N X u139 (y3 >>> (3 &&& 31)) 51 h142) mf_L_below lk_L_18 rfl ⟨rfl, rfl⟩ ⟨Nat.le_of_ble_eq_true rfl, Nat.le_of_ble_eq_true rfl⟩ hl.1 (Nat.le_of_ble_eq_true rfl) dL_law_725 (hC.ge (by decide) (by decide))) hS (fun H locs (hW : GW z ad (GC z ad N X u143) H) hS => ?_)
      refine lv_iadd hx hb dL_law_728 ?_
      obtain ⟨r144, u146, h145, h⟩ := xb_s h
      refine nb_ci (nb_runV (As := [.int (10 + r141)]) (rest := []) hx hb hml hown hSW hS hW (c_X7_rehearse l z ad N X u143 (10 + r141) h145) mf_X7_rehearse lk_L_84 kr_0 rfl rfl ⟨rfl, rfl⟩ ⟨Nat.le_of_ble_eq_true rfl, Nat.le_of_ble_eq_true rfl⟩ hl.1 (Nat.le_of_ble_eq_true rfl) dL_law_729 (hC.ge (by decide) (by decide))) hS (fun H locs (hW : GW z ad (GC z ad N X u146) H) hS => ?_)
      refine lv_aload_n hx hb dL_law_732 rfl (lv_at hl 3 rfl) ?_
      refine lv_iconst (v := 5) hx hb dL_law_733 (by decide) ?_
      obtain ⟨r147, u149, h148, h⟩ := xb_s h
      refine nb_ci (nb_runV (As := [.int 5]) (rest := [.int r144]) hx hb hml hown hSW hS hW (c_X7_many l z ad N X u146 5 h148) mf_X7_many lk_L_65 kr_0 rfl rfl ⟨rfl, rfl⟩ ⟨Nat.le_of_ble_eq_true rfl, Nat.le_of_ble_eq_true rfl⟩ hl.1 (Nat.le_of_ble_eq_true rfl) dL_law_734 (hC.ge (by decide) (by decide))) hS (fun H locs (hW : GW z ad (GC z ad N X u149) H) hS => ?_)
      refine lv_icmp_eq (tgt := 802) hx hb dL_law_737 (by decide) (fun c150 => ?_) (fun c150 => ?_)
      · replace h := ite_t h c150
        refine W.widen (k := cells + 9) (n := slots + 50) (by omega) (by omega) ?_
        exact hB802 _ _ _ _ (lv_sub hl [1, 2, 3] rfl) hW hS h
      · replace h := ite_f h c150
        refine lv_iconst (v := 0) hx hb dL_law_740 (by decide) ?_
        exact absurd h ret01
  have hB307 : ∀ (y7 : Int32) (y6 : Int32) (y5 : Int32) (y4 : Int32) (y3 : Int32) (w0 : Int32) (u : St) (H : Heap) (locs : List Loc) (ls : Array Slot), lv_has ls 13 [(7, .int y7), (6, .int y6), (5, .int y5), (4, .int y4), (3, .int y3), (2, .int k), (0, .ref b), (1, .ref (ad 0 0))] → GW z ad (GC z ad N X u) H → va_S (zA z) s.heap H locs → f_L_step_B307 N y7 y6 y5 y4 y3 w0 u = some (.ok 1, u9) → WW cells slots H locs (F0 m 307 ls [.int w0]) := by
    intro y7 y6 y5 y4 y3 w0 u H locs ls hl hW hS h
    change W p l e _ s m _ below meth c H locs cells slots _ (F0 m 307 ls [.int w0])
    unfold f_L_step_B307 at h
    refine lv_istore (lv' := [(8, .int w0), (7, .int y7), (6, .int y6), (5, .int y5), (4, .int y4), (3, .int y3), (2, .int k), (0, .ref b), (1, .ref (ad 0 0))]) hx hb dL_law_307 hl (by decide) rfl (fun ls hl => ?_)
    refine lv_iload_n hx hb dL_law_309 rfl (lv_at hl 5 rfl) ?_
    refine lv_bipush (v := 17) hx hb dL_law_310 (by decide) ?_
    obtain ⟨r14, u16, h15, h⟩ := sb_s h
    refine nb_ci (nb_runS (As := [.int y3, .int 17]) (rest := []) hx hb hml hown hSW hS hW (c_L_below l z ad N X u y3 17 h15) mf_L_below lk_L_18 rfl ⟨rfl, rfl⟩ ⟨Nat.le_of_ble_eq_true rfl, Nat.le_of_ble_eq_true rfl⟩ hl.1 (Nat.le_of_ble_eq_true rfl) dL_law_312 (hC.ge (by decide) (by decide))) hS (fun H locs (hW : GW z ad (GC z ad N X u16) H) hS => ?_)
    by_cases c17 : r14 = 0
    · replace h := ite_t h c17
      refine lv_tableIn (off := 73) (tgt := 388) hx hb dL_law_315 (by rw [c17]; decide) (by rw [c17]; decide) (by rw [c17]; rfl) (by decide) ?_
      exact hB388 _ _ _ _ _ _ _ _ (lv_sub hl [0, 3, 4, 5, 6, 7, 8] rfl) hW hS h
    replace h := ite_f h c17
    by_cases c33 : r14 = 1
    · replace h := ite_t h c33
      refine lv_tableIn (off := 73) (tgt := 388) hx hb dL_law_315 (by rw [c33]; decide) (by rw [c33]; decide) (by rw [c33]; rfl) (by decide) ?_
      exact hB388 _ _ _ _ _ _ _ _ (lv_sub hl [0, 3, 4, 5, 6, 7, 8] rfl) hW hS h
    replace h := ite_f h c33
    by_cases c34 : r14 = 2
    · replace h := ite_t h c34
      refine lv_tableIn (off := 109) (tgt := 424) hx hb dL_law_315 (by rw [c34]; decide) (by rw [c34]; decide) (by rw [c34]; rfl) (by decide) ?_
      refine lv_iload hx hb dL_law_424 (lv_at hl 0 rfl) ?_
      refine lv_if_eq (tgt := 802) hx hb dL_law_426 (by decide) (fun c35 => ?_) (fun c35 => ?_)
      · replace h := ite_t h c35
        refine W.widen (k := cells + 9) (n := slots + 50) (by omega) (by omega) ?_
        exact hB802 _ _ _ _ (lv_sub hl [6, 7, 8] rfl) hW hS h
      · replace h := ite_f h c35
        refine lv_aload_n hx hb dL_law_429 rfl (lv_at hl 8 rfl) ?_
        refine lv_iload hx hb dL_law_430 (lv_at hl 3 rfl) ?_
        refine lv_bipush (v := 10) hx hb dL_law_432 (by decide) ?_
        refine lv_iload_n hx hb dL_law_434 rfl (lv_at hl 5 rfl) ?_
        refine lv_iconst (v := 4) hx hb dL_law_435 (by decide) ?_
        refine lv_ishr hx hb dL_law_436 ?_
        refine lv_bipush (v := 111) hx hb dL_law_437 (by decide) ?_
        obtain ⟨r36, u38, h37, h⟩ := sb_s h
        refine nb_ci (nb_runS (As := [.int (y3 >>> (4 &&& 31)), .int 111]) (rest := [.int 10, .int y5, .ref (ad 0 0)]) hx hb hml hown hSW hS hW (c_L_below l z ad N X u16 (y3 >>> (4 &&& 31)) 111 h37) mf_L_below lk_L_18 rfl ⟨rfl, rfl⟩ ⟨Nat.le_of_ble_eq_true rfl, Nat.le_of_ble_eq_true rfl⟩ hl.1 (Nat.le_of_ble_eq_true rfl) dL_law_439 (hC.ge (by decide) (by decide))) hS (fun H locs (hW : GW z ad (GC z ad N X u38) H) hS => ?_)
        refine lv_iadd hx hb dL_law_442 ?_
        obtain ⟨r39, u41, h40, h⟩ := xb_s h
        refine nb_ci (nb_runS (As := [.ref (ad 0 0), .int y5, .int (10 + r36)]) (rest := []) hx hb hml hown hSW hS hW (c_L_isTuned l z ad N X u38 y5 (10 + r36) h40) mf_L_isTuned lk_L_46 rfl ⟨rfl, rfl⟩ ⟨Nat.le_of_ble_eq_true rfl, Nat.le_of_ble_eq_true rfl⟩ hl.1 (Nat.le_of_ble_eq_true rfl) dL_law_443 (hC.ge (by decide) (by decide))) hS (fun H locs (hW : GW z ad (GC z ad N X u41) H) hS => ?_)
        refine lv_if_ne (tgt := 802) hx hb dL_law_446 (by decide) (fun c42 => ?_) (fun c42 => ?_)
        · replace h := ite_f h c42
          refine W.widen (k := cells + 9) (n := slots + 50) (by omega) (by omega) ?_
          exact hB802 _ _ _ _ (lv_sub hl [6, 7, 8] rfl) hW hS h
        · replace h := ite_t h c42
          refine lv_iconst (v := 0) hx hb dL_law_449 (by decide) ?_
          exact absurd h ret01
    replace h := ite_f h c34
    by_cases c43 : r14 = 3
    · replace h := ite_t h c43
      refine lv_tableIn (off := 136) (tgt := 451) hx hb dL_law_315 (by rw [c43]; decide) (by rw [c43]; decide) (by rw [c43]; rfl) (by decide) ?_
      refine lv_iload hx hb dL_law_451 (lv_at hl 0 rfl) ?_
      refine lv_if_eq (tgt := 802) hx hb dL_law_453 (by decide) (fun c44 => ?_) (fun c44 => ?_)
      · replace h := ite_t h c44
        refine W.widen (k := cells + 9) (n := slots + 50) (by omega) (by omega) ?_
        exact hB802 _ _ _ _ (lv_sub hl [6, 7, 8] rfl) hW hS h
      · replace h := ite_f h c44
        refine lv_aload_n hx hb dL_law_456 rfl (lv_at hl 8 rfl) ?_
        refine lv_iload hx hb dL_law_457 (lv_at hl 3 rfl) ?_
        obtain ⟨r45, u47, h46, h⟩ := xb_s h
        refine nb_ci (nb_runV (As := [.int y5]) (rest := []) hx hb hml hown hSW hS hW (c_X7_burn l z ad N X u16 y5 h46) mf_X7_burn lk_L_50 kr_0 rfl rfl ⟨rfl, rfl⟩ ⟨Nat.le_of_ble_eq_true rfl, Nat.le_of_ble_eq_true rfl⟩ hl.1 (Nat.le_of_ble_eq_true rfl) dL_law_459 (hC.ge (by decide) (by decide))) hS (fun H locs (hW : GW z ad (GC z ad N X u47) H) hS => ?_)
        refine lv_aload_n hx hb dL_law_462 rfl (lv_at hl 8 rfl) ?_
        refine lv_iload hx hb dL_law_463 (lv_at hl 3 rfl) ?_
        refine lv_iconst (v := 1) hx hb dL_law_465 (by decide) ?_
        obtain ⟨r48, u50, h49, h⟩ := xb_s h
        refine nb_ci (nb_runV (As := [.int y5, .int 1]) (rest := [.int r45]) hx hb hml hown hSW hS hW (c_X7_ofPan l z ad N X u47 y5 1 h49) mf_X7_ofPan lk_L_26 kr_0 rfl rfl ⟨rfl, rfl⟩ ⟨Nat.le_of_ble_eq_true rfl, Nat.le_of_ble_eq_true rfl⟩ hl.1 (Nat.le_of_ble_eq_true rfl) dL_law_466 (hC.ge (by decide) (by decide))) hS (fun H locs (hW : GW z ad (GC z ad N X u50) H) hS => ?_)
        refine lv_icmp_eq (tgt := 802) hx hb dL_law_469 (by decide) (fun c51 => ?_) (fun c51 => ?_)
        · replace h := ite_t h c51
          refine W.widen (k := cells + 9) (n := slots + 50) (by omega) (by omega) ?_
          exact hB802 _ _ _ _ (lv_sub hl [6, 7, 8] rfl) hW hS h
        · replace h := ite_f h c51
          refine lv_iconst (v := 0) hx hb dL_law_472 (by decide) ?_
          exact absurd h ret01
    replace h := ite_f h c43
    by_cases c52 : r14 = 4
    · replace h := ite_t h c52
      refine lv_tableIn (off := 159) (tgt := 474) hx hb dL_law_315 (by rw [c52]; decide) (by rw [c52]; decide) (by rw [c52]; rfl) (by decide) ?_
      exact hB474 _ _ _ _ _ _ _ (lv_sub hl [1, 2, 5, 6, 7, 8] rfl) hW hS h
    replace h := ite_f h c52
    by_cases c60 : r14 = 5
    · replace h := ite_t h c60
      refine lv_tableIn (off := 159) (tgt := 474) hx hb dL_law_315 (by rw [c60]; decide) (by rw [c60]; decide) (by rw [c60]; rfl) (by decide) ?_
      exact hB474 _ _ _ _ _ _ _ (lv_sub hl [1, 2, 5, 6, 7, 8] rfl) hW hS h
    replace h := ite_f h c60
    by_cases c61 : r14 = 6
    · replace h := ite_t h c61
      refine lv_tableIn (off := 159) (tgt := 474) hx hb dL_law_315 (by rw [c61]; decide) (by rw [c61]; decide) (by rw [c61]; rfl) (by decide) ?_
      exact hB474 _ _ _ _ _ _ _ (lv_sub hl [1, 2, 5, 6, 7, 8] rfl) hW hS h
    replace h := ite_f h c61
    by_cases c62 : r14 = 7
    · replace h := ite_t h c62
      refine lv_tableIn (off := 182) (tgt := 497) hx hb dL_law_315 (by rw [c62]; decide) (by rw [c62]; decide) (by rw [c62]; rfl) (by decide) ?_
      refine lv_aload_n hx hb dL_law_497 rfl (lv_at hl 8 rfl) ?_
      refine lv_iload hx hb dL_law_498 (lv_at hl 2 rfl) ?_
      refine lv_iload hx hb dL_law_500 (lv_at hl 1 rfl) ?_
      obtain ⟨r63, u65, h64, h⟩ := xb_s h
      refine nb_ci (nb_runV (As := [.int y6, .int y7]) (rest := []) hx hb hml hown hSW hS hW (c_X7_memory l z ad N X u16 y6 y7 h64) mf_X7_memory lk_L_56 kr_0 rfl rfl ⟨rfl, rfl⟩ ⟨Nat.le_of_ble_eq_true rfl, Nat.le_of_ble_eq_true rfl⟩ hl.1 (Nat.le_of_ble_eq_true rfl) dL_law_502 (hC.ge (by decide) (by decide))) hS (fun H locs (hW : GW z ad (GC z ad N X u65) H) hS => ?_)
      refine lv_istore (lv' := [(9, .int r63), (8, .int w0), (7, .int y7), (6, .int y6), (5, .int y5), (4, .int y4), (3, .int y3), (2, .int k), (0, .ref b), (1, .ref (ad 0 0))]) hx hb dL_law_505 hl (by decide) rfl (fun ls hl => ?_)
      refine lv_aload_n hx hb dL_law_507 rfl (lv_at hl 9 rfl) ?_
      refine lv_iload hx hb dL_law_508 (lv_at hl 2 rfl) ?_
      refine lv_iconst (v := 3) hx hb dL_law_510 (by decide) ?_
      obtain ⟨r66, u68, h67, h⟩ := xb_s h
      refine nb_ci (nb_runV (As := [.int y7, .int 3]) (rest := []) hx hb hml hown hSW hS hW (c_X7_ofPhrase l z ad N X u65 y7 3 h67) mf_X7_ofPhrase lk_L_59 kr_0 rfl rfl ⟨rfl, rfl⟩ ⟨Nat.le_of_ble_eq_true rfl, Nat.le_of_ble_eq_true rfl⟩ hl.1 (Nat.le_of_ble_eq_true rfl) dL_law_511 (hC.ge (by decide) (by decide))) hS (fun H locs (hW : GW z ad (GC z ad N X u68) H) hS => ?_)
      refine lv_istore (lv' := [(10, .int r66), (9, .int r63), (8, .int w0), (7, .int y7), (6, .int y6), (5, .int y5), (4, .int y4), (3, .int y3), (2, .int k), (0, .ref b), (1, .ref (ad 0 0))]) hx hb dL_law_514 hl (by decide) rfl (fun ls hl => ?_)
      refine lv_aload_n hx hb dL_law_516 rfl (lv_at hl 10 rfl) ?_
      refine lv_iload hx hb dL_law_517 (lv_at hl 3 rfl) ?_
      refine lv_iconst (v := 1) hx hb dL_law_519 (by decide) ?_
      refine lv_iload hx hb dL_law_520 (lv_at hl 6 rfl) ?_
      refine lv_bipush (v := 9) hx hb dL_law_522 (by decide) ?_
      obtain ⟨r69, u71, h70, h⟩ := sb_s h
      refine nb_ci (nb_runS (As := [.int y4, .int 9]) (rest := [.int 1, .int y7, .ref (ad 0 0)]) hx hb hml hown hSW hS hW (c_L_below l z ad N X u68 y4 9 h70) mf_L_below lk_L_18 rfl ⟨rfl, rfl⟩ ⟨Nat.le_of_ble_eq_true rfl, Nat.le_of_ble_eq_true rfl⟩ hl.1 (Nat.le_of_ble_eq_true rfl) dL_law_524 (hC.ge (by decide) (by decide))) hS (fun H locs (hW : GW z ad (GC z ad N X u71) H) hS => ?_)
      refine lv_iadd hx hb dL_law_527 ?_
      refine lv_iconst (v := 1) hx hb dL_law_528 (by decide) ?_
      refine lv_iload hx hb dL_law_529 (lv_at hl 6 rfl) ?_
      refine lv_iconst (v := 3) hx hb dL_law_531 (by decide) ?_
      refine lv_ishr hx hb dL_law_532 ?_
      refine lv_sipush (v := 255) hx hb dL_law_533 (by decide) ?_
      obtain ⟨r72, u74, h73, h⟩ := sb_s h
      refine nb_ci (nb_runS (As := [.int (y4 >>> (3 &&& 31)), .int 255]) (rest := [.int 1, .int (1 + r69), .int y7, .ref (ad 0 0)]) hx hb hml hown hSW hS hW (c_L_below l z ad N X u71 (y4 >>> (3 &&& 31)) 255 h73) mf_L_below lk_L_18 rfl ⟨rfl, rfl⟩ ⟨Nat.le_of_ble_eq_true rfl, Nat.le_of_ble_eq_true rfl⟩ hl.1 (Nat.le_of_ble_eq_true rfl) dL_law_536 (hC.ge (by decide) (by decide))) hS (fun H locs (hW : GW z ad (GC z ad N X u74) H) hS => ?_)
      refine lv_iadd hx hb dL_law_539 ?_
      obtain ⟨r75, u77, h76, h⟩ := xb_s h
      refine nb_ci (nb_runV (As := [.int y7, .int (1 + r69), .int (1 + r72)]) (rest := []) hx hb hml hown hSW hS hW (c_X7_change l z ad N X u74 y7 (1 + r69) (1 + r72) h76) mf_X7_change lk_L_62 kr_0 rfl rfl ⟨rfl, rfl⟩ ⟨Nat.le_of_ble_eq_true rfl, Nat.le_of_ble_eq_true rfl⟩ hl.1 (Nat.le_of_ble_eq_true rfl) dL_law_540 (hC.ge (by decide) (by decide))) hS (fun H locs (hW : GW z ad (GC z ad N X u77) H) hS => ?_)
      refine lv_iload hx hb dL_law_543 (lv_at hl 0 rfl) ?_
      refine lv_iconst (v := 1) hx hb dL_law_545 (by decide) ?_
      refine lv_iadd hx hb dL_law_546 ?_
      refine lv_icmp_ne (tgt := 565) hx hb dL_law_547 (by decide) (fun c78 => ?_) (fun c78 => ?_)
      · replace h := ite_f h c78
        refine lv_iconst (v := 0) hx hb dL_law_565 (by decide) ?_
        exact absurd h ret01
      · replace h := ite_t h c78
        refine lv_aload_n hx hb dL_law_550 rfl (lv_at hl 10 rfl) ?_
        refine lv_iload hx hb dL_law_551 (lv_at hl 4 rfl) ?_
        refine lv_iload hx hb dL_law_553 (lv_at hl 3 rfl) ?_
        obtain ⟨r79, u81, h80, h⟩ := xb_s h
        refine nb_ci (nb_runV (As := [.int y6, .int y7]) (rest := []) hx hb hml hown hSW hS hW (c_X7_memory l z ad N X u77 y6 y7 h80) mf_X7_memory lk_L_56 kr_0 rfl rfl ⟨rfl, rfl⟩ ⟨Nat.le_of_ble_eq_true rfl, Nat.le_of_ble_eq_true rfl⟩ hl.1 (Nat.le_of_ble_eq_true rfl) dL_law_555 (hC.ge (by decide) (by decide))) hS (fun H locs (hW : GW z ad (GC z ad N X u81) H) hS => ?_)
        refine lv_iload hx hb dL_law_558 (lv_at hl 1 rfl) ?_
        refine lv_iconst (v := 2) hx hb dL_law_560 (by decide) ?_
        refine lv_idiv hx hb dL_law_561 (by decide) ?_
        refine lv_icmp_le (tgt := 802) hx hb dL_law_562 (by decide) (fun c82 => ?_) (fun c82 => ?_)
        · replace h := ite_t h c82
          refine W.widen (k := cells + 9) (n := slots + 50) (by omega) (by omega) ?_
          exact hB802 _ _ _ _ (lv_sub hl [8, 9, 10] rfl) hW hS h
        · replace h := ite_f h c82
          refine lv_iconst (v := 0) hx hb dL_law_565 (by decide) ?_
          exact absurd h ret01
    replace h := ite_f h c62
    by_cases c83 : r14 = 8
    · replace h := ite_t h c83
      refine lv_tableIn (off := 252) (tgt := 567) hx hb dL_law_315 (by rw [c83]; decide) (by rw [c83]; decide) (by rw [c83]; rfl) (by decide) ?_
      exact hB567 _ _ _ _ _ (lv_sub hl [1, 6, 7, 8] rfl) hW hS h
    replace h := ite_f h c83
    by_cases c102 : r14 = 9
    · replace h := ite_t h c102
      refine lv_tableIn (off := 252) (tgt := 567) hx hb dL_law_315 (by rw [c102]; decide) (by rw [c102]; decide) (by rw [c102]; rfl) (by decide) ?_
      exact hB567 _ _ _ _ _ (lv_sub hl [1, 6, 7, 8] rfl) hW hS h
    replace h := ite_f h c102
    by_cases c103 : r14 = 10
    · replace h := ite_t h c103
      refine lv_tableIn (off := 297) (tgt := 612) hx hb dL_law_315 (by rw [c103]; decide) (by rw [c103]; decide) (by rw [c103]; rfl) (by decide) ?_
      refine lv_aload_n hx hb dL_law_612 rfl (lv_at hl 8 rfl) ?_
      refine lv_iconst (v := 3) hx hb dL_law_613 (by decide) ?_
      obtain ⟨r104, u106, h105, h⟩ := xb_s h
      refine nb_ci (nb_runV (As := [.int 3]) (rest := []) hx hb hml hown hSW hS hW (c_X7_many l z ad N X u16 3 h105) mf_X7_many lk_L_65 kr_0 rfl rfl ⟨rfl, rfl⟩ ⟨Nat.le_of_ble_eq_true rfl, Nat.le_of_ble_eq_true rfl⟩ hl.1 (Nat.le_of_ble_eq_true rfl) dL_law_614 (hC.ge (by decide) (by decide))) hS (fun H locs (hW : GW z ad (GC z ad N X u106) H) hS => ?_)
      refine lv_if_le (tgt := 802) hx hb dL_law_617 (by decide) (fun c107 => ?_) (fun c107 => ?_)
      · replace h := ite_t h c107
        refine W.widen (k := cells + 9) (n := slots + 50) (by omega) (by omega) ?_
        exact hB802 _ _ _ _ (lv_sub hl [6, 7, 8] rfl) hW hS h
      · replace h := ite_f h c107
        refine lv_aload_n hx hb dL_law_620 rfl (lv_at hl 8 rfl) ?_
        refine lv_iload hx hb dL_law_621 (lv_at hl 4 rfl) ?_
        refine lv_aload_n hx hb dL_law_623 rfl (lv_at hl 8 rfl) ?_
        refine lv_iconst (v := 3) hx hb dL_law_624 (by decide) ?_
        obtain ⟨r108, u110, h109, h⟩ := xb_s h
        refine nb_ci (nb_runV (As := [.int 3]) (rest := [.int y4, .ref (ad 0 0)]) hx hb hml hown hSW hS hW (c_X7_many l z ad N X u106 3 h109) mf_X7_many lk_L_65 kr_0 rfl rfl ⟨rfl, rfl⟩ ⟨Nat.le_of_ble_eq_true rfl, Nat.le_of_ble_eq_true rfl⟩ hl.1 (Nat.le_of_ble_eq_true rfl) dL_law_625 (hC.ge (by decide) (by decide))) hS (fun H locs (hW : GW z ad (GC z ad N X u110) H) hS => ?_)
        obtain ⟨r111, u113, h112, h⟩ := sb_s h
        refine nb_ci (nb_runS (As := [.int y4, .int r108]) (rest := [.ref (ad 0 0)]) hx hb hml hown hSW hS hW (c_L_below l z ad N X u110 y4 r108 h112) mf_L_below lk_L_18 rfl ⟨rfl, rfl⟩ ⟨Nat.le_of_ble_eq_true rfl, Nat.le_of_ble_eq_true rfl⟩ hl.1 (Nat.le_of_ble_eq_true rfl) dL_law_628 (hC.ge (by decide) (by decide))) hS (fun H locs (hW : GW z ad (GC z ad N X u113) H) hS => ?_)
        obtain ⟨r114, u116, h115, h⟩ := xb_s h
        refine nb_ci (nb_runV (As := [.int r111]) (rest := []) hx hb hml hown hSW hS hW (c_X7_cut l z ad N X u113 r111 h115) mf_X7_cut lk_L_74 kr_0 rfl rfl ⟨rfl, rfl⟩ ⟨Nat.le_of_ble_eq_true rfl, Nat.le_of_ble_eq_true rfl⟩ hl.1 (Nat.le_of_ble_eq_true rfl) dL_law_631 (hC.ge (by decide) (by decide))) hS (fun H locs (hW : GW z ad (GC z ad N X u116) H) hS => ?_)
        refine lv_if_ge (tgt := 802) hx hb dL_law_634 (by decide) (fun c117 => ?_) (fun c117 => ?_)
        · replace h := ite_t h c117
          refine W.widen (k := cells + 9) (n := slots + 50) (by omega) (by omega) ?_
          exact hB802 _ _ _ _ (lv_sub hl [6, 7, 8] rfl) hW hS h
        · replace h := ite_f h c117
          refine lv_iconst (v := 0) hx hb dL_law_637 (by decide) ?_
          exact absurd h ret01
    replace h := ite_f h c103
    by_cases c118 : r14 = 11
    · replace h := ite_t h c118
      refine lv_tableIn (off := 324) (tgt := 639) hx hb dL_law_315 (by rw [c118]; decide) (by rw [c118]; decide) (by rw [c118]; rfl) (by decide) ?_
      refine lv_iload hx hb dL_law_639 (lv_at hl 4 rfl) ?_
      refine lv_iconst (v := 5) hx hb dL_law_641 (by decide) ?_
      refine lv_ishr hx hb dL_law_642 ?_
      refine lv_iconst (v := 3) hx hb dL_law_643 (by decide) ?_
      obtain ⟨r119, u121, h120, h⟩ := sb_s h
      refine nb_ci (nb_runS (As := [.int (y4 >>> (5 &&& 31)), .int 3]) (rest := []) hx hb hml hown hSW hS hW (c_L_below l z ad N X u16 (y4 >>> (5 &&& 31)) 3 h120) mf_L_below lk_L_18 rfl ⟨rfl, rfl⟩ ⟨Nat.le_of_ble_eq_true rfl, Nat.le_of_ble_eq_true rfl⟩ hl.1 (Nat.le_of_ble_eq_true rfl) dL_law_644 (hC.ge (by decide) (by decide))) hS (fun H locs (hW : GW z ad (GC z ad N X u121) H) hS => ?_)
      refine lv_if_ne (tgt := 654) hx hb dL_law_647 (by decide) (fun c122 => ?_) (fun c122 => ?_)
      · replace h := ite_f h c122
        refine lv_iconst (v := 0) hx hb dL_law_654 (by decide) ?_
        exact hB655 _ _ _ _ _ _ (lv_sub hl [2, 6, 7, 8] rfl) hW hS h
      · replace h := ite_t h c122
        refine lv_iconst (v := 1) hx hb dL_law_650 (by decide) ?_
        refine lv_goto (tgt := 655) hx hb dL_law_651 (by decide) ?_
        exact hB655 _ _ _ _ _ _ (lv_sub hl [2, 6, 7, 8] rfl) hW hS h
    replace h := ite_f h c118
    by_cases c136 : r14 = 12
    · replace h := ite_t h c136
      refine lv_tableIn (off := 391) (tgt := 706) hx hb dL_law_315 (by rw [c136]; decide) (by rw [c136]; decide) (by rw [c136]; rfl) (by decide) ?_
      exact hB706 _ _ _ _ _ (lv_sub hl [5, 6, 7, 8] rfl) hW hS h
    replace h := ite_f h c136
    by_cases c151 : r14 = 13
    · replace h := ite_t h c151
      refine lv_tableIn (off := 391) (tgt := 706) hx hb dL_law_315 (by rw [c151]; decide) (by rw [c151]; decide) (by rw [c151]; rfl) (by decide) ?_
      exact hB706 _ _ _ _ _ (lv_sub hl [5, 6, 7, 8] rfl) hW hS h
    replace h := ite_f h c151
    by_cases c152 : r14 = 14
    · replace h := ite_t h c152
      refine lv_tableIn (off := 427) (tgt := 742) hx hb dL_law_315 (by rw [c152]; decide) (by rw [c152]; decide) (by rw [c152]; rfl) (by decide) ?_
      refine lv_aload_n hx hb dL_law_742 rfl (lv_at hl 8 rfl) ?_
      refine lv_bipush (v := 9) hx hb dL_law_743 (by decide) ?_
      obtain ⟨r153, u155, h154, h⟩ := xb_s h
      refine nb_ci (nb_runV (As := [.int 9]) (rest := []) hx hb hml hown hSW hS hW (c_X7_many l z ad N X u16 9 h154) mf_X7_many lk_L_65 kr_0 rfl rfl ⟨rfl, rfl⟩ ⟨Nat.le_of_ble_eq_true rfl, Nat.le_of_ble_eq_true rfl⟩ hl.1 (Nat.le_of_ble_eq_true rfl) dL_law_745 (hC.ge (by decide) (by decide))) hS (fun H locs (hW : GW z ad (GC z ad N X u155) H) hS => ?_)
      refine lv_if_ne (tgt := 802) hx hb dL_law_748 (by decide) (fun c156 => ?_) (fun c156 => ?_)
      · replace h := ite_f h c156
        refine W.widen (k := cells + 9) (n := slots + 50) (by omega) (by omega) ?_
        exact hB802 _ _ _ _ (lv_sub hl [6, 7, 8] rfl) hW hS h
      · replace h := ite_t h c156
        refine lv_aload_n hx hb dL_law_751 rfl (lv_at hl 8 rfl) ?_
        refine lv_iconst (v := 5) hx hb dL_law_752 (by decide) ?_
        obtain ⟨r157, u159, h158, h⟩ := xb_s h
        refine nb_ci (nb_runV (As := [.int 5]) (rest := []) hx hb hml hown hSW hS hW (c_X7_many l z ad N X u155 5 h158) mf_X7_many lk_L_65 kr_0 rfl rfl ⟨rfl, rfl⟩ ⟨Nat.le_of_ble_eq_true rfl, Nat.le_of_ble_eq_true rfl⟩ hl.1 (Nat.le_of_ble_eq_true rfl) dL_law_753 (hC.ge (by decide) (by decide))) hS (fun H locs (hW : GW z ad (GC z ad N X u159) H) hS => ?_)
        refine lv_if_le (tgt := 802) hx hb dL_law_756 (by decide) (fun c160 => ?_) (fun c160 => ?_)
        · replace h := ite_t h c160
          refine W.widen (k := cells + 9) (n := slots + 50) (by omega) (by omega) ?_
          exact hB802 _ _ _ _ (lv_sub hl [6, 7, 8] rfl) hW hS h
        · replace h := ite_f h c160
          refine lv_aload_n hx hb dL_law_759 rfl (lv_at hl 8 rfl) ?_
          refine lv_iconst (v := 3) hx hb dL_law_760 (by decide) ?_
          obtain ⟨r161, u163, h162, h⟩ := xb_s h
          refine nb_ci (nb_runV (As := [.int 3]) (rest := []) hx hb hml hown hSW hS hW (c_X7_many l z ad N X u159 3 h162) mf_X7_many lk_L_65 kr_0 rfl rfl ⟨rfl, rfl⟩ ⟨Nat.le_of_ble_eq_true rfl, Nat.le_of_ble_eq_true rfl⟩ hl.1 (Nat.le_of_ble_eq_true rfl) dL_law_761 (hC.ge (by decide) (by decide))) hS (fun H locs (hW : GW z ad (GC z ad N X u163) H) hS => ?_)
          refine lv_if_le (tgt := 802) hx hb dL_law_764 (by decide) (fun c164 => ?_) (fun c164 => ?_)
          · replace h := ite_t h c164
            refine W.widen (k := cells + 9) (n := slots + 50) (by omega) (by omega) ?_
            exact hB802 _ _ _ _ (lv_sub hl [6, 7, 8] rfl) hW hS h
          · replace h := ite_f h c164
            refine lv_aload_n hx hb dL_law_767 rfl (lv_at hl 8 rfl) ?_
            obtain ⟨r165, u167, h166, h⟩ := xb_s h
            refine nb_cim (nb_runW (As := [.ref (ad 0 0)]) (rest := []) hx hb hml hown hSW hS hW (c_L_isPlayed l z ad N X u163 hfl h166) mfw_L_isPlayed (List.mem_of_getElem? (i := 811) (by decide +kernel)) rfl ⟨rfl, rfl⟩ ⟨Nat.le_of_ble_eq_true rfl, Nat.le_of_ble_eq_true rfl⟩ hl.1 (Nat.le_of_ble_eq_true rfl) dL_law_768 (hC.ge (by decide) (by decide))) hS (fun H locs (hW : GW z ad (GC z ad N X u167) H) hS => ?_)
            refine lv_if_ne (tgt := 802) hx hb dL_law_771 (by decide) (fun c168 => ?_) (fun c168 => ?_)
            · replace h := ite_f h c168
              refine W.widen (k := cells + 9) (n := slots + 50) (by omega) (by omega) ?_
              exact hB802 _ _ _ _ (lv_sub hl [6, 7, 8] rfl) hW hS h
            · replace h := ite_t h c168
              refine lv_iconst (v := 0) hx hb dL_law_774 (by decide) ?_
              exact absurd h ret01
    replace h := ite_f h c152
    refine lv_tableOut (tgt := 776) hx hb dL_law_315 (by have tc17 := lv_neT (a := 0) c17 rfl; have tc33 := lv_neT (a := 1) c33 rfl; have tc34 := lv_neT (a := 2) c34 rfl; have tc43 := lv_neT (a := 3) c43 rfl; have tc52 := lv_neT (a := 4) c52 rfl; have tc60 := lv_neT (a := 5) c60 rfl; have tc61 := lv_neT (a := 6) c61 rfl; have tc62 := lv_neT (a := 7) c62 rfl; have tc83 := lv_neT (a := 8) c83 rfl; have tc102 := lv_neT (a := 9) c102 rfl; have tc103 := lv_neT (a := 10) c103 rfl; have tc118 := lv_neT (a := 11) c118 rfl; have tc136 := lv_neT (a := 12) c136 rfl; have tc151 := lv_neT (a := 13) c151 rfl; have tc152 := lv_neT (a := 14) c152 rfl; omega) (by decide) ?_
    refine lv_aload_n hx hb dL_law_776 rfl (lv_at hl 8 rfl) ?_
    refine lv_iload_n hx hb dL_law_777 rfl (lv_at hl 5 rfl) ?_
    refine lv_iconst (v := 3) hx hb dL_law_778 (by decide) ?_
    refine lv_ishr hx hb dL_law_779 ?_
    refine lv_bipush (v := 10) hx hb dL_law_780 (by decide) ?_
    obtain ⟨r169, u171, h170, h⟩ := sb_s h
    refine nb_ci (nb_runS (As := [.int (y3 >>> (3 &&& 31)), .int 10]) (rest := [.ref (ad 0 0)]) hx hb hml hown hSW hS hW (c_L_below l z ad N X u16 (y3 >>> (3 &&& 31)) 10 h170) mf_L_below lk_L_18 rfl ⟨rfl, rfl⟩ ⟨Nat.le_of_ble_eq_true rfl, Nat.le_of_ble_eq_true rfl⟩ hl.1 (Nat.le_of_ble_eq_true rfl) dL_law_782 (hC.ge (by decide) (by decide))) hS (fun H locs (hW : GW z ad (GC z ad N X u171) H) hS => ?_)
    refine lv_iload hx hb dL_law_785 (lv_at hl 4 rfl) ?_
    refine lv_iconst (v := 3) hx hb dL_law_787 (by decide) ?_
    refine lv_ishr hx hb dL_law_788 ?_
    refine lv_bipush (v := 10) hx hb dL_law_789 (by decide) ?_
    obtain ⟨r172, u174, h173, h⟩ := sb_s h
    refine nb_ci (nb_runS (As := [.int (y4 >>> (3 &&& 31)), .int 10]) (rest := [.int r169, .ref (ad 0 0)]) hx hb hml hown hSW hS hW (c_L_below l z ad N X u171 (y4 >>> (3 &&& 31)) 10 h173) mf_L_below lk_L_18 rfl ⟨rfl, rfl⟩ ⟨Nat.le_of_ble_eq_true rfl, Nat.le_of_ble_eq_true rfl⟩ hl.1 (Nat.le_of_ble_eq_true rfl) dL_law_791 (hC.ge (by decide) (by decide))) hS (fun H locs (hW : GW z ad (GC z ad N X u174) H) hS => ?_)
    obtain ⟨r175, u177, h176, h⟩ := xb_s h
    refine nb_cim (nb_runS (As := [.ref (ad 0 0), .int r169, .int r172]) (rest := []) hx hb hml hown hSW hS hW (c_L_isPassed l z ad N X u174 r169 r172 hA h176) mf_L_isPassed lk_L_91 rfl ⟨rfl, rfl⟩ ⟨Nat.le_of_ble_eq_true rfl, Nat.le_of_ble_eq_true rfl⟩ hl.1 (Nat.le_of_ble_eq_true rfl) dL_law_794 (hC.ge (by decide) (by decide))) hS (fun H locs (hW : GW z ad (GC z ad N X u177) H) hS => ?_)
    refine lv_if_ne (tgt := 802) hx hb dL_law_797 (by decide) (fun c178 => ?_) (fun c178 => ?_)
    · replace h := ite_f h c178
      refine W.widen (k := cells + 9) (n := slots + 50) (by omega) (by omega) ?_
      exact hB802 _ _ _ _ (lv_sub hl [6, 7, 8] rfl) hW hS h
    · replace h := ite_t h c178
      refine lv_iconst (v := 0) hx hb dL_law_800 (by decide) ?_
      exact absurd h ret01
  unfold f_L_step at h
  refine lv_iload hx hb dL_law_263 (lv_at hl 0 rfl) ?_
  refine lv_iconst (v := 4) hx hb dL_law_265 (by decide) ?_
  obtain ⟨r1, u3, h2, h⟩ := sb_s h
  refine nb_ci (nb_runS (As := [.int y, .int 4]) (rest := []) hx hb hml hown hSW hS hW (c_L_below l z ad N X u y 4 h2) mf_L_below lk_L_18 rfl ⟨rfl, rfl⟩ ⟨Nat.le_of_ble_eq_true rfl, Nat.le_of_ble_eq_true rfl⟩ hl.1 (Nat.le_of_ble_eq_true rfl) dL_law_266 (hC.ge (by decide) (by decide))) hS (fun H locs (hW : GW z ad (GC z ad N X u3) H) hS => ?_)
  refine lv_istore (lv' := [(5, .int r1), (4, .int y), (3, .int x), (2, .int k), (0, .ref b), (1, .ref (ad 0 0))]) hx hb dL_law_269 hl (by decide) rfl (fun ls hl => ?_)
  refine lv_iload hx hb dL_law_271 (lv_at hl 1 rfl) ?_
  refine lv_iconst (v := 2) hx hb dL_law_273 (by decide) ?_
  refine lv_ishr hx hb dL_law_274 ?_
  refine lv_bipush (v := 6) hx hb dL_law_275 (by decide) ?_
  obtain ⟨r4, u6, h5, h⟩ := sb_s h
  refine nb_ci (nb_runS (As := [.int (y >>> (2 &&& 31)), .int 6]) (rest := []) hx hb hml hown hSW hS hW (c_L_below l z ad N X u3 (y >>> (2 &&& 31)) 6 h5) mf_L_below lk_L_18 rfl ⟨rfl, rfl⟩ ⟨Nat.le_of_ble_eq_true rfl, Nat.le_of_ble_eq_true rfl⟩ hl.1 (Nat.le_of_ble_eq_true rfl) dL_law_277 (hC.ge (by decide) (by decide))) hS (fun H locs (hW : GW z ad (GC z ad N X u6) H) hS => ?_)
  refine lv_istore (lv' := [(6, .int r4), (5, .int r1), (4, .int y), (3, .int x), (2, .int k), (0, .ref b), (1, .ref (ad 0 0))]) hx hb dL_law_280 hl (by decide) rfl (fun ls hl => ?_)
  refine lv_iload_n hx hb dL_law_282 rfl (lv_at hl 3 rfl) ?_
  refine lv_iconst (v := 5) hx hb dL_law_283 (by decide) ?_
  refine lv_ishr hx hb dL_law_284 ?_
  refine lv_bipush (v := 6) hx hb dL_law_285 (by decide) ?_
  obtain ⟨r7, u09, h8, h⟩ := sb_s h
  refine nb_ci (nb_runS (As := [.int (x >>> (5 &&& 31)), .int 6]) (rest := []) hx hb hml hown hSW hS hW (c_L_below l z ad N X u6 (x >>> (5 &&& 31)) 6 h8) mf_L_below lk_L_18 rfl ⟨rfl, rfl⟩ ⟨Nat.le_of_ble_eq_true rfl, Nat.le_of_ble_eq_true rfl⟩ hl.1 (Nat.le_of_ble_eq_true rfl) dL_law_287 (hC.ge (by decide) (by decide))) hS (fun H locs (hW : GW z ad (GC z ad N X u09) H) hS => ?_)
  refine lv_istore (lv' := [(7, .int r7), (6, .int r4), (5, .int r1), (4, .int y), (3, .int x), (2, .int k), (0, .ref b), (1, .ref (ad 0 0))]) hx hb dL_law_290 hl (by decide) rfl (fun ls hl => ?_)
  refine lv_aload_n hx hb dL_law_292 rfl (lv_at hl 7 rfl) ?_
  refine lv_iload hx hb dL_law_293 (lv_at hl 2 rfl) ?_
  refine lv_iconst (v := 2) hx hb dL_law_295 (by decide) ?_
  obtain ⟨r10, u12, h11, h⟩ := xb_s h
  refine nb_ci (nb_runV (As := [.int r1, .int 2]) (rest := []) hx hb hml hown hSW hS hW (c_X7_ofPan l z ad N X u09 r1 2 h11) mf_X7_ofPan lk_L_26 kr_0 rfl rfl ⟨rfl, rfl⟩ ⟨Nat.le_of_ble_eq_true rfl, Nat.le_of_ble_eq_true rfl⟩ hl.1 (Nat.le_of_ble_eq_true rfl) dL_law_296 (hC.ge (by decide) (by decide))) hS (fun H locs (hW : GW z ad (GC z ad N X u12) H) hS => ?_)
  refine lv_if_ne (tgt := 306) hx hb dL_law_299 (by decide) (fun c13 => ?_) (fun c13 => ?_)
  · replace h := ite_f h c13
    refine lv_iconst (v := 0) hx hb dL_law_306 (by decide) ?_
    exact hB307 _ _ _ _ _ _ _ _ _ _ (lv_sub hl [0, 1, 2, 3, 4, 5, 6, 7] rfl) hW hS h
  · replace h := ite_t h c13
    refine lv_iconst (v := 1) hx hb dL_law_302 (by decide) ?_
    refine lv_goto (tgt := 307) hx hb dL_law_303 (by decide) ?_
    exact hB307 _ _ _ _ _ _ _ _ _ _ (lv_sub hl [0, 1, 2, 3, 4, 5, 6, 7] rfl) hW hS h
def f_L_fin_B870 (N : Nt) (y2 : Int64) (u : St) : Option (Except String Int32 × St) :=
  xb (f_X7_bestTeach N u 0 30) fun r19 u21 =>
  if r19 < (-1) then
    some (.ok 0, u21)
  else
    sb (f_X7_meanMemory N u21) fun r23 u25 =>
    nm (Op.cmpValue (FP.dcmp r23 4636737291354636288) .l) fun v26 =>
    if v26 ≤ 0 then
      xb (f_X7_digest N u25) fun r28 u30 =>
      nm (lg_cmp r28 y2) fun v31 =>
      if v31 = 0 then
        some (.ok 1, u30)
      else
        some (.ok 0, u30)
    else
      some (.ok 0, u25)
def f_L_fin (N : Nt) (u : St) : Option (Except String Int32 × St) :=
  xb (f_X7_digest N u) fun r1 u3 =>
  xb (f_X7_many N u3 10) fun r4 u6 =>
  xb (f_X7_wouldTotal N u6 0) fun r7 u09 =>
  if r7 = r4 then
    xb (f_X7_wouldTotal N u09 60) fun r11 u13 =>
    if r4 < r11 then
      some (.ok 0, u13)
    else
      xb (f_X7_many N u13 3) fun r15 u17 =>
      if 6 ≤ r15 then
        f_L_fin_B870 N r1 u17
      else
        xb (f_X7_bestOrder N u17) fun r33 u35 =>
        if r33 < r4 then
          some (.ok 0, u35)
        else
          f_L_fin_B870 N r1 u35
  else
    some (.ok 0, u09)
set_option maxRecDepth 100000 in
set_option maxHeartbeats 8000000 in
theorem seg_fin {p : Program} {l : Launch} {e : Env} {s : State} {m : MethodId} {below : List Frame} {meth : Method} {c : Code} {b : Nat} {z : Zt} {ad : Ad} {N : Nt} {X : Gt} {H : Heap} {locs : List Loc} {ls : Array Slot} {cells slots : Nat} {Q : State → Prop} {u u9 : St} (hLX : LX p l e s m meth c z ad) (hC : Cs cells slots) (hl : lv_has ls 13 [(0, .ref b), (1, .ref (ad 0 0))]) (hW : GW z ad (GC z ad N X u) H) (hS : va_S (zA z) s.heap H locs) (h : f_L_fin N u = some (.ok 1, u9))
    (kk : ∀ (H1 : Heap) (locs1 : List Loc) (ls1 : Array Slot), va_S (zA z) s.heap H1 locs1 → GW z ad (GC z ad N X u9) H1 → lv_has ls1 13 [(0, .ref b), (1, .ref (ad 0 0))] → W p l e room_1 s m #[Value.ref b] below meth c H1 locs1 (cells + 9) (slots + 50) Q (F0 m 903 ls1 [])) : W p l e room_1 s m #[Value.ref b] below meth c H locs cells slots Q (F0 m 817 ls []) := by
  obtain ⟨hx, hb, hml, hown, hSW, hfl, hA⟩ := hLX
  obtain ⟨hT, hK, hST, hB0⟩ := id hSW
  let WW : Nat → Nat → Heap → List Loc → JFrame → Prop := fun c9 s9 H locs g => W p l e room_1 s m #[Value.ref b] below meth c H locs c9 s9 Q g
  have hB870 : ∀ (y2 : Int64) (u : St) (H : Heap) (locs : List Loc) (ls : Array Slot), lv_has ls 13 [(2, .long y2), (0, .ref b), (1, .ref (ad 0 0))] → GW z ad (GC z ad N X u) H → va_S (zA z) s.heap H locs → f_L_fin_B870 N y2 u = some (.ok 1, u9) → WW cells slots H locs (F0 m 870 ls []) := by
    intro y2 u H locs ls hl hW hS h
    change W p l e _ s m _ below meth c H locs cells slots _ (F0 m 870 ls [])
    unfold f_L_fin_B870 at h
    refine lv_aload_n hx hb dL_law_870 rfl (lv_at hl 2 rfl) ?_
    refine lv_iconst (v := 0) hx hb dL_law_871 (by decide) ?_
    refine lv_bipush (v := 30) hx hb dL_law_872 (by decide) ?_
    obtain ⟨r19, u21, h20, h⟩ := xb_s h
    refine nb_ci (nb_runV (As := [.int 0, .int 30]) (rest := []) hx hb hml hown hSW hS hW (c_X7_bestTeach l z ad N X u 0 30 h20) mf_X7_bestTeach lk_L_108 kr_0 rfl rfl ⟨rfl, rfl⟩ ⟨Nat.le_of_ble_eq_true rfl, Nat.le_of_ble_eq_true rfl⟩ hl.1 (Nat.le_of_ble_eq_true rfl) dL_law_874 (hC.ge (by decide) (by decide))) hS (fun H locs (hW : GW z ad (GC z ad N X u21) H) hS => ?_)
    refine lv_iconst (v := (-1)) hx hb dL_law_877 (by decide) ?_
    refine lv_icmp_lt (tgt := 892) hx hb dL_law_878 (by decide) (fun c22 => ?_) (fun c22 => ?_)
    · replace h := ite_t h c22
      refine lv_iconst (v := 0) hx hb dL_law_892 (by decide) ?_
      exact absurd h ret01
    · replace h := ite_f h c22
      refine lv_aload_n hx hb dL_law_881 rfl (lv_at hl 2 rfl) ?_
      obtain ⟨r23, u25, h24, h⟩ := sb_s h
      refine nb_cd (nb_runV (As := []) (rest := []) hx hb hml hown hSW hS hW (c_X7_meanMemory l z ad N X u21 h24) mf_X7_meanMemory lk_L_111 kr_0 rfl rfl ⟨rfl, rfl⟩ ⟨Nat.le_of_ble_eq_true rfl, Nat.le_of_ble_eq_true rfl⟩ hl.1 (Nat.le_of_ble_eq_true rfl) dL_law_882 (hC.ge (by decide) (by decide))) hS (fun H locs (hW : GW z ad (GC z ad N X u25) H) hS => ?_)
      refine lv_ldc2d (v := 4636737291354636288) hx hb hown (hT.use (List.mem_of_getElem? (i := 865) (by decide +kernel)) rfl) dL_law_885 ?_
      refine lv_dcmp hx hb dL_law_888 ?_
      refine lv_topi (fun v26 ev26 => ?_)
      replace h := nm_at ev26 h
      refine lv_if_le (tgt := 894) hx hb dL_law_889 (by decide) (fun c27 => ?_) (fun c27 => ?_)
      · replace h := ite_t h c27
        refine lv_aload_n hx hb dL_law_894 rfl (lv_at hl 2 rfl) ?_
        obtain ⟨r28, u30, h29, h⟩ := xb_s h
        refine nb_cl (nb_runV (As := []) (rest := []) hx hb hml hown hSW hS hW (c_X7_digest l z ad N X u25 h29) mf_X7_digest lk_L_97 kr_0 rfl rfl ⟨rfl, rfl⟩ ⟨Nat.le_of_ble_eq_true rfl, Nat.le_of_ble_eq_true rfl⟩ hl.1 (Nat.le_of_ble_eq_true rfl) dL_law_895 (hC.ge (by decide) (by decide))) hS (fun H locs (hW : GW z ad (GC z ad N X u30) H) hS => ?_)
        refine lv_lload_n hx hb dL_law_898 rfl (lv_at hl 0 rfl) ?_
        refine W.lcmp hx hb dL_law_899 ?_
        refine lv_topi (fun v31 ev31 => ?_)
        replace h := nm_at ev31 h
        refine lv_if_ne (tgt := 907) hx hb dL_law_900 (by decide) (fun c32 => ?_) (fun c32 => ?_)
        · replace h := ite_f h c32
          refine lv_iconst (v := 0) hx hb dL_law_907 (by decide) ?_
          exact absurd h ret01
        · replace h := ite_t h c32
          refine W.widen (k := cells + 9) (n := slots + 50) (by omega) (by omega) ?_
          obtain rfl : u30 = u9 := congrArg Prod.snd (Option.some.inj h)
          exact kk _ _ _ hS hW (lv_sub hl [1, 2] rfl)
      · replace h := ite_f h c27
        refine lv_iconst (v := 0) hx hb dL_law_892 (by decide) ?_
        exact absurd h ret01
  unfold f_L_fin at h
  refine lv_aload_n hx hb dL_law_817 rfl (lv_at hl 1 rfl) ?_
  obtain ⟨r1, u3, h2, h⟩ := xb_s h
  refine nb_cl (nb_runV (As := []) (rest := []) hx hb hml hown hSW hS hW (c_X7_digest l z ad N X u h2) mf_X7_digest lk_L_97 kr_0 rfl rfl ⟨rfl, rfl⟩ ⟨Nat.le_of_ble_eq_true rfl, Nat.le_of_ble_eq_true rfl⟩ hl.1 (Nat.le_of_ble_eq_true rfl) dL_law_818 (hC.ge (by decide) (by decide))) hS (fun H locs (hW : GW z ad (GC z ad N X u3) H) hS => ?_)
  refine lv_lstore_n (lv' := [(2, .long r1), (0, .ref b), (1, .ref (ad 0 0))]) hx hb dL_law_821 rfl hl (by decide) rfl (fun ls hl => ?_)
  refine lv_aload_n hx hb dL_law_822 rfl (lv_at hl 2 rfl) ?_
  refine lv_bipush (v := 10) hx hb dL_law_823 (by decide) ?_
  obtain ⟨r4, u6, h5, h⟩ := xb_s h
  refine nb_ci (nb_runV (As := [.int 10]) (rest := []) hx hb hml hown hSW hS hW (c_X7_many l z ad N X u3 10 h5) mf_X7_many lk_L_65 kr_0 rfl rfl ⟨rfl, rfl⟩ ⟨Nat.le_of_ble_eq_true rfl, Nat.le_of_ble_eq_true rfl⟩ hl.1 (Nat.le_of_ble_eq_true rfl) dL_law_825 (hC.ge (by decide) (by decide))) hS (fun H locs (hW : GW z ad (GC z ad N X u6) H) hS => ?_)
  refine lv_istore (lv' := [(4, .int r4), (2, .long r1), (0, .ref b), (1, .ref (ad 0 0))]) hx hb dL_law_828 hl (by decide) rfl (fun ls hl => ?_)
  refine lv_aload_n hx hb dL_law_830 rfl (lv_at hl 3 rfl) ?_
  refine lv_iconst (v := 0) hx hb dL_law_831 (by decide) ?_
  obtain ⟨r7, u09, h8, h⟩ := xb_s h
  refine nb_ci (nb_runV (As := [.int 0]) (rest := []) hx hb hml hown hSW hS hW (c_X7_wouldTotal l z ad N X u6 0 h8) mf_X7_wouldTotal lk_L_101 kr_0 rfl rfl ⟨rfl, rfl⟩ ⟨Nat.le_of_ble_eq_true rfl, Nat.le_of_ble_eq_true rfl⟩ hl.1 (Nat.le_of_ble_eq_true rfl) dL_law_832 (hC.ge (by decide) (by decide))) hS (fun H locs (hW : GW z ad (GC z ad N X u09) H) hS => ?_)
  refine lv_iload hx hb dL_law_835 (lv_at hl 0 rfl) ?_
  refine lv_icmp_ne (tgt := 892) hx hb dL_law_837 (by decide) (fun c10 => ?_) (fun c10 => ?_)
  · replace h := ite_f h c10
    refine lv_iconst (v := 0) hx hb dL_law_892 (by decide) ?_
    exact absurd h ret01
  · replace h := ite_t h c10
    refine lv_aload_n hx hb dL_law_840 rfl (lv_at hl 3 rfl) ?_
    refine lv_bipush (v := 60) hx hb dL_law_841 (by decide) ?_
    obtain ⟨r11, u13, h12, h⟩ := xb_s h
    refine nb_ci (nb_runV (As := [.int 60]) (rest := []) hx hb hml hown hSW hS hW (c_X7_wouldTotal l z ad N X u09 60 h12) mf_X7_wouldTotal lk_L_101 kr_0 rfl rfl ⟨rfl, rfl⟩ ⟨Nat.le_of_ble_eq_true rfl, Nat.le_of_ble_eq_true rfl⟩ hl.1 (Nat.le_of_ble_eq_true rfl) dL_law_843 (hC.ge (by decide) (by decide))) hS (fun H locs (hW : GW z ad (GC z ad N X u13) H) hS => ?_)
    refine lv_iload hx hb dL_law_846 (lv_at hl 0 rfl) ?_
    refine lv_icmp_gt (tgt := 892) hx hb dL_law_848 (by decide) (fun c14 => ?_) (fun c14 => ?_)
    · replace h := ite_t h c14
      refine lv_iconst (v := 0) hx hb dL_law_892 (by decide) ?_
      exact absurd h ret01
    · replace h := ite_f h c14
      refine lv_aload_n hx hb dL_law_851 rfl (lv_at hl 3 rfl) ?_
      refine lv_iconst (v := 3) hx hb dL_law_852 (by decide) ?_
      obtain ⟨r15, u17, h16, h⟩ := xb_s h
      refine nb_ci (nb_runV (As := [.int 3]) (rest := []) hx hb hml hown hSW hS hW (c_X7_many l z ad N X u13 3 h16) mf_X7_many lk_L_65 kr_0 rfl rfl ⟨rfl, rfl⟩ ⟨Nat.le_of_ble_eq_true rfl, Nat.le_of_ble_eq_true rfl⟩ hl.1 (Nat.le_of_ble_eq_true rfl) dL_law_853 (hC.ge (by decide) (by decide))) hS (fun H locs (hW : GW z ad (GC z ad N X u17) H) hS => ?_)
      refine lv_bipush (v := 6) hx hb dL_law_856 (by decide) ?_
      refine lv_icmp_ge (tgt := 870) hx hb dL_law_858 (by decide) (fun c18 => ?_) (fun c18 => ?_)
      · replace h := ite_t h c18
        exact hB870 _ _ _ _ _ (lv_sub hl [1, 2, 3] rfl) hW hS h
      · replace h := ite_f h c18
        refine lv_aload_n hx hb dL_law_861 rfl (lv_at hl 3 rfl) ?_
        obtain ⟨r33, u35, h34, h⟩ := xb_s h
        refine nb_ci (nb_runV (As := []) (rest := []) hx hb hml hown hSW hS hW (c_X7_bestOrder l z ad N X u17 h34) mf_X7_bestOrder lk_L_104 kr_0 rfl rfl ⟨rfl, rfl⟩ ⟨Nat.le_of_ble_eq_true rfl, Nat.le_of_ble_eq_true rfl⟩ hl.1 (Nat.le_of_ble_eq_true rfl) dL_law_862 (hC.ge (by decide) (by decide))) hS (fun H locs (hW : GW z ad (GC z ad N X u35) H) hS => ?_)
        refine lv_iload hx hb dL_law_865 (lv_at hl 0 rfl) ?_
        refine lv_icmp_lt (tgt := 892) hx hb dL_law_867 (by decide) (fun c36 => ?_) (fun c36 => ?_)
        · replace h := ite_t h c36
          refine lv_iconst (v := 0) hx hb dL_law_892 (by decide) ?_
          exact absurd h ret01
        · replace h := ite_f h c36
          exact hB870 _ _ _ _ _ (lv_sub hl [1, 2, 3] rfl) hW hS h
