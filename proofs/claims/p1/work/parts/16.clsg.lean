/-- Panyard.many -/
def f_X7_many (N : Nt) (u : St) (x1 : Int32) : Option (Except String Int32 × St) :=
  if x1 = 0 then
    some (.ok (u 51 0 0), u)
  else
  if x1 = 1 then
    some (.ok (u 0 0 0), u)
  else
  if x1 = 2 then
    some (.ok (u 1 0 0), u)
  else
  if x1 = 3 then
    some (.ok (u 43 0 0), u)
  else
  if x1 = 4 then
    some (.ok (u 2 0 0), u)
  else
  if x1 = 5 then
    sb (f_X7_soundingCount N u) fun r7 u09 =>
    some (.ok r7, u09)
  else
  if x1 = 6 then
    some (.ok (u 64 0 0), u)
  else
  if x1 = 7 then
    some (.ok (u 3 0 0), u)
  else
  if x1 = 8 then
    some (.ok (u 65 0 0), u)
  else
  if x1 = 9 then
    sb (f_X1_isOver N u) fun r14 u16 =>
    if r14 = 0 then
      some (.ok 0, u16)
    else
      some (.ok 1, u16)
  else
  if x1 = 10 then
    sb (f_X7_totalNow N u) fun r19 u21 =>
    some (.ok r19, u21)
  else
  if x1 = 11 then
    sb (f_X7_totalNow N u) fun r23 u25 =>
    sb (f_X1_scoreOf N u25 r23) fun r26 u28 =>
    some (.ok r26, u28)
  else
  if x1 = 12 then
    some (.ok (u 52 0 0), u)
  else
  if x1 = 13 then
    sb (f_X7_blowsEver N u) fun r31 u33 =>
    some (.ok r31, u33)
  else
  some (.error "java/lang/IllegalArgumentException", u)
set_option maxRecDepth 100000 in
set_option maxHeartbeats 4000000 in
theorem c_X7_many (l : Launch) (z : Zt) (ad : Ad) (N : Nt) (X : Gt) (u : St) (x1 : Int32) {r9 : Int32} {u9 : St} (h : f_X7_many N u x1 = some (.ok r9, u9)) : MC l z yX7_many cX7_many 2 (some .int) { frames := 5, cells := 0, slots := 0, locals := 114 } 0 0 [.ref (ad 0 0), .int x1] ad (GC z ad N X u) (QI z ad (GC z ad N X u9) r9) := by
  refine Met.ofW (cc := cX7_many) (maxL := 2) (ret := (some .int)) (by decide) rfl ?_
  intro p e s m args below meth c s₁ B hml hv
  obtain ⟨rfl, hSW, hW⟩ := hv
  have hx := B.exec; have hb := B.bytes; have hr := B.returns; have hlocks := B.notSynchronized
  have hown : s.vm.findClass RX7 = some m.cls := findClass_of_methodNamed B.named
  obtain ⟨hT, hK, hST, hB0⟩ := id hSW
  have hS : va_S (zA z) s.heap s.heap [] := va_S.rf
  have hl := lv_entry ([.ref (ad 0 0), .int x1]) (n := 2) (Nat.le_of_ble_eq_true rfl)
  rw [lg_entry_eq]
  generalize (lg_sl ([.ref (ad 0 0), .int x1]) ++ List.replicate (2 - (lg_sl ([.ref (ad 0 0), .int x1])).length) Slot.unset).toArray = ls at hl ⊢
  have hl : lv_has ls 2 [(0, .ref (ad 0 0)), (1, .int x1)] := hl
  unfold f_X7_many at h
  refine lv_iload_n hx hb dX7_many_0 rfl (lv_at hl 1 rfl) ?_
  by_cases c1 : x1 = 0
  · replace h := ite_t h c1
    refine lv_tableIn (off := 71) (tgt := 72) hx hb dX7_many_1 (by rw [c1]; decide) (by rw [c1]; decide) (by rw [c1]; rfl) (by decide) ?_
    refine lv_aload_n hx hb dX7_many_72 rfl (lv_at hl 0 rfl) ?_
    refine nb_get hx hb hT hK hown hW fl_X7_44 kr_0 (v := .ref (ad 5 0)) rfl dX7_many_73 ?_
    refine nb_get hx hb hT hK hown hW fl_X7_261 kr_5 (v := .int (u 51 0 0)) rfl dX7_many_76 ?_
    exact ne_iretX hx hb hr rfl hlocks hW hS dX7_many_79 h
  replace h := ite_f h c1
  by_cases c2 : x1 = 1
  · replace h := ite_t h c2
    refine lv_tableIn (off := 79) (tgt := 80) hx hb dX7_many_1 (by rw [c2]; decide) (by rw [c2]; decide) (by rw [c2]; rfl) (by decide) ?_
    refine lv_aload_n hx hb dX7_many_80 rfl (lv_at hl 0 rfl) ?_
    refine nb_get hx hb hT hK hown hW fl_X7_80 kr_0 (v := .int (u 0 0 0)) rfl dX7_many_81 ?_
    exact ne_iretX hx hb hr rfl hlocks hW hS dX7_many_84 h
  replace h := ite_f h c2
  by_cases c3 : x1 = 2
  · replace h := ite_t h c3
    refine lv_tableIn (off := 84) (tgt := 85) hx hb dX7_many_1 (by rw [c3]; decide) (by rw [c3]; decide) (by rw [c3]; rfl) (by decide) ?_
    refine lv_aload_n hx hb dX7_many_85 rfl (lv_at hl 0 rfl) ?_
    refine nb_get hx hb hT hK hown hW fl_X7_133 kr_0 (v := .int (u 1 0 0)) rfl dX7_many_86 ?_
    exact ne_iretX hx hb hr rfl hlocks hW hS dX7_many_89 h
  replace h := ite_f h c3
  by_cases c4 : x1 = 3
  · replace h := ite_t h c4
    refine lv_tableIn (off := 89) (tgt := 90) hx hb dX7_many_1 (by rw [c4]; decide) (by rw [c4]; decide) (by rw [c4]; rfl) (by decide) ?_
    refine lv_aload_n hx hb dX7_many_90 rfl (lv_at hl 0 rfl) ?_
    refine nb_get hx hb hT hK hown hW fl_X7_30 kr_0 (v := .ref (ad 8 0)) rfl dX7_many_91 ?_
    refine nb_get hx hb hT hK hown hW fl_X7_160 (kr_8 (by decide)) (v := .int (u 43 0 0)) rfl dX7_many_94 ?_
    exact ne_iretX hx hb hr rfl hlocks hW hS dX7_many_97 h
  replace h := ite_f h c4
  by_cases c5 : x1 = 4
  · replace h := ite_t h c5
    refine lv_tableIn (off := 97) (tgt := 98) hx hb dX7_many_1 (by rw [c5]; decide) (by rw [c5]; decide) (by rw [c5]; rfl) (by decide) ?_
    refine lv_aload_n hx hb dX7_many_98 rfl (lv_at hl 0 rfl) ?_
    refine nb_get hx hb hT hK hown hW fl_X7_147 kr_0 (v := .int (u 2 0 0)) rfl dX7_many_99 ?_
    exact ne_iretX hx hb hr rfl hlocks hW hS dX7_many_102 h
  replace h := ite_f h c5
  by_cases c6 : x1 = 5
  · replace h := ite_t h c6
    refine lv_tableIn (off := 102) (tgt := 103) hx hb dX7_many_1 (by rw [c6]; decide) (by rw [c6]; decide) (by rw [c6]; rfl) (by decide) ?_
    refine lv_aload_n hx hb dX7_many_103 rfl (lv_at hl 0 rfl) ?_
    obtain ⟨r7, u09, h8, h⟩ := sb_s h
    refine nb_ci (nb_runV (As := []) (rest := []) hx hb hml hown hSW hS hW (c_X7_soundingCount l z ad N X u h8) mf_X7_soundingCount lk_X7_244 kr_0 rfl rfl ⟨rfl, rfl⟩ ⟨Nat.le_of_ble_eq_true rfl, Nat.le_of_ble_eq_true rfl⟩ hl.1 (Nat.le_of_ble_eq_true rfl) dX7_many_104 ⟨Nat.le_of_ble_eq_true rfl, Nat.le_of_ble_eq_true rfl⟩) hS (fun H locs (hW : GW z ad (GC z ad N X u09) H) hS => ?_)
    exact ne_iretX hx hb hr rfl hlocks hW hS dX7_many_107 h
  replace h := ite_f h c6
  by_cases c10 : x1 = 6
  · replace h := ite_t h c10
    refine lv_tableIn (off := 107) (tgt := 108) hx hb dX7_many_1 (by rw [c10]; decide) (by rw [c10]; decide) (by rw [c10]; rfl) (by decide) ?_
    refine lv_aload_n hx hb dX7_many_108 rfl (lv_at hl 0 rfl) ?_
    refine nb_get hx hb hT hK hown hW fl_X7_51 kr_0 (v := .ref (ad 6 0)) rfl dX7_many_109 ?_
    refine nb_get hx hb hT hK hown hW fl_X7_268 kr_6 (v := .int (u 64 0 0)) rfl dX7_many_112 ?_
    exact ne_iretX hx hb hr rfl hlocks hW hS dX7_many_115 h
  replace h := ite_f h c10
  by_cases c11 : x1 = 7
  · replace h := ite_t h c11
    refine lv_tableIn (off := 115) (tgt := 116) hx hb dX7_many_1 (by rw [c11]; decide) (by rw [c11]; decide) (by rw [c11]; rfl) (by decide) ?_
    refine lv_aload_n hx hb dX7_many_116 rfl (lv_at hl 0 rfl) ?_
    refine nb_get hx hb hT hK hown hW fl_X7_55 kr_0 (v := .int (u 3 0 0)) rfl dX7_many_117 ?_
    exact ne_iretX hx hb hr rfl hlocks hW hS dX7_many_120 h
  replace h := ite_f h c11
  by_cases c12 : x1 = 8
  · replace h := ite_t h c12
    refine lv_tableIn (off := 120) (tgt := 121) hx hb dX7_many_1 (by rw [c12]; decide) (by rw [c12]; decide) (by rw [c12]; rfl) (by decide) ?_
    refine lv_aload_n hx hb dX7_many_121 rfl (lv_at hl 0 rfl) ?_
    refine nb_get hx hb hT hK hown hW fl_X7_51 kr_0 (v := .ref (ad 6 0)) rfl dX7_many_122 ?_
    refine nb_get hx hb hT hK hown hW fl_X7_299 kr_6 (v := .int (u 65 0 0)) rfl dX7_many_125 ?_
    exact ne_iretX hx hb hr rfl hlocks hW hS dX7_many_128 h
  replace h := ite_f h c12
  by_cases c13 : x1 = 9
  · replace h := ite_t h c13
    refine lv_tableIn (off := 128) (tgt := 129) hx hb dX7_many_1 (by rw [c13]; decide) (by rw [c13]; decide) (by rw [c13]; rfl) (by decide) ?_
    refine lv_aload_n hx hb dX7_many_129 rfl (lv_at hl 0 rfl) ?_
    refine nb_get hx hb hT hK hown hW fl_X7_51 kr_0 (v := .ref (ad 6 0)) rfl dX7_many_130 ?_
    obtain ⟨r14, u16, h15, h⟩ := sb_s h
    refine nb_ci (nb_runV (As := []) (rest := []) hx hb hml hown hSW hS hW (c_X1_isOver l z ad N X u h15) mf_X1_isOver lk_X7_286 kr_6 rfl rfl ⟨rfl, rfl⟩ ⟨Nat.le_of_ble_eq_true rfl, Nat.le_of_ble_eq_true rfl⟩ hl.1 (Nat.le_of_ble_eq_true rfl) dX7_many_133 ⟨Nat.le_of_ble_eq_true rfl, Nat.le_of_ble_eq_true rfl⟩) hS (fun H locs (hW : GW z ad (GC z ad N X u16) H) hS => ?_)
    refine lv_if_eq (tgt := 143) hx hb dX7_many_136 (by decide) (fun c17 => ?_) (fun c17 => ?_)
    · replace h := ite_t h c17
      refine lv_iconst (v := 0) hx hb dX7_many_143 (by decide) ?_
      exact ne_iretX hx hb hr rfl hlocks hW hS dX7_many_144 h
    · replace h := ite_f h c17
      refine lv_iconst (v := 1) hx hb dX7_many_139 (by decide) ?_
      refine lv_goto (tgt := 144) hx hb dX7_many_140 (by decide) ?_
      exact ne_iretX hx hb hr rfl hlocks hW hS dX7_many_144 h
  replace h := ite_f h c13
  by_cases c18 : x1 = 10
  · replace h := ite_t h c18
    refine lv_tableIn (off := 144) (tgt := 145) hx hb dX7_many_1 (by rw [c18]; decide) (by rw [c18]; decide) (by rw [c18]; rfl) (by decide) ?_
    refine lv_aload_n hx hb dX7_many_145 rfl (lv_at hl 0 rfl) ?_
    obtain ⟨r19, u21, h20, h⟩ := sb_s h
    refine nb_ci (nb_runV (As := []) (rest := []) hx hb hml hown hSW hS hW (c_X7_totalNow l z ad N X u h20) mf_X7_totalNow lk_X7_302 kr_0 rfl rfl ⟨rfl, rfl⟩ ⟨Nat.le_of_ble_eq_true rfl, Nat.le_of_ble_eq_true rfl⟩ hl.1 (Nat.le_of_ble_eq_true rfl) dX7_many_146 ⟨Nat.le_of_ble_eq_true rfl, Nat.le_of_ble_eq_true rfl⟩) hS (fun H locs (hW : GW z ad (GC z ad N X u21) H) hS => ?_)
    exact ne_iretX hx hb hr rfl hlocks hW hS dX7_many_149 h
  replace h := ite_f h c18
  by_cases c22 : x1 = 11
  · replace h := ite_t h c22
    refine lv_tableIn (off := 149) (tgt := 150) hx hb dX7_many_1 (by rw [c22]; decide) (by rw [c22]; decide) (by rw [c22]; rfl) (by decide) ?_
    refine lv_aload_n hx hb dX7_many_150 rfl (lv_at hl 0 rfl) ?_
    refine nb_get hx hb hT hK hown hW fl_X7_51 kr_0 (v := .ref (ad 6 0)) rfl dX7_many_151 ?_
    refine lv_aload_n hx hb dX7_many_154 rfl (lv_at hl 0 rfl) ?_
    obtain ⟨r23, u25, h24, h⟩ := sb_s h
    refine nb_ci (nb_runV (As := []) (rest := [.ref (ad 6 0)]) hx hb hml hown hSW hS hW (c_X7_totalNow l z ad N X u h24) mf_X7_totalNow lk_X7_302 kr_0 rfl rfl ⟨rfl, rfl⟩ ⟨Nat.le_of_ble_eq_true rfl, Nat.le_of_ble_eq_true rfl⟩ hl.1 (Nat.le_of_ble_eq_true rfl) dX7_many_155 ⟨Nat.le_of_ble_eq_true rfl, Nat.le_of_ble_eq_true rfl⟩) hS (fun H locs (hW : GW z ad (GC z ad N X u25) H) hS => ?_)
    obtain ⟨r26, u28, h27, h⟩ := sb_s h
    refine nb_ci (nb_runV (As := [.int r23]) (rest := []) hx hb hml hown hSW hS hW (c_X1_scoreOf l z ad N X u25 r23 h27) mf_X1_scoreOf lk_X7_305 kr_6 rfl rfl ⟨rfl, rfl⟩ ⟨Nat.le_of_ble_eq_true rfl, Nat.le_of_ble_eq_true rfl⟩ hl.1 (Nat.le_of_ble_eq_true rfl) dX7_many_158 ⟨Nat.le_of_ble_eq_true rfl, Nat.le_of_ble_eq_true rfl⟩) hS (fun H locs (hW : GW z ad (GC z ad N X u28) H) hS => ?_)
    exact ne_iretX hx hb hr rfl hlocks hW hS dX7_many_161 h
  replace h := ite_f h c22
  by_cases c29 : x1 = 12
  · replace h := ite_t h c29
    refine lv_tableIn (off := 161) (tgt := 162) hx hb dX7_many_1 (by rw [c29]; decide) (by rw [c29]; decide) (by rw [c29]; rfl) (by decide) ?_
    refine lv_aload_n hx hb dX7_many_162 rfl (lv_at hl 0 rfl) ?_
    refine nb_get hx hb hT hK hown hW fl_X7_44 kr_0 (v := .ref (ad 5 0)) rfl dX7_many_163 ?_
    refine nb_get hx hb hT hK hown hW fl_X7_231 kr_5 (v := .int (u 52 0 0)) rfl dX7_many_166 ?_
    exact ne_iretX hx hb hr rfl hlocks hW hS dX7_many_169 h
  replace h := ite_f h c29
  by_cases c30 : x1 = 13
  · replace h := ite_t h c30
    refine lv_tableIn (off := 169) (tgt := 170) hx hb dX7_many_1 (by rw [c30]; decide) (by rw [c30]; decide) (by rw [c30]; rfl) (by decide) ?_
    refine lv_aload_n hx hb dX7_many_170 rfl (lv_at hl 0 rfl) ?_
    obtain ⟨r31, u33, h32, h⟩ := sb_s h
    refine nb_ci (nb_runV (As := []) (rest := []) hx hb hml hown hSW hS hW (c_X7_blowsEver l z ad N X u h32) mf_X7_blowsEver lk_X7_376 kr_0 rfl rfl ⟨rfl, rfl⟩ ⟨Nat.le_of_ble_eq_true rfl, Nat.le_of_ble_eq_true rfl⟩ hl.1 (Nat.le_of_ble_eq_true rfl) dX7_many_171 ⟨Nat.le_of_ble_eq_true rfl, Nat.le_of_ble_eq_true rfl⟩) hS (fun H locs (hW : GW z ad (GC z ad N X u33) H) hS => ?_)
    exact ne_iretX hx hb hr rfl hlocks hW hS dX7_many_174 h
  replace h := ite_f h c30
  refine lv_tableOut (tgt := 175) hx hb dX7_many_1 (by have tc1 := lv_neT (a := 0) c1 rfl; have tc2 := lv_neT (a := 1) c2 rfl; have tc3 := lv_neT (a := 2) c3 rfl; have tc4 := lv_neT (a := 3) c4 rfl; have tc5 := lv_neT (a := 4) c5 rfl; have tc6 := lv_neT (a := 5) c6 rfl; have tc10 := lv_neT (a := 6) c10 rfl; have tc11 := lv_neT (a := 7) c11 rfl; have tc12 := lv_neT (a := 8) c12 rfl; have tc13 := lv_neT (a := 9) c13 rfl; have tc18 := lv_neT (a := 10) c18 rfl; have tc22 := lv_neT (a := 11) c22 rfl; have tc29 := lv_neT (a := 12) c29 rfl; have tc30 := lv_neT (a := 13) c30 rfl; omega) (by decide) ?_
  exact absurd h (by intro q; cases q)
/-- Panyard.meanMemory -/
def f_X7_meanMemory_L17b (N : Nt) (ih6 : Int32 → Int32 → Int32 → St → Option (UInt64 × St)) (ih17 : Int32 → Int32 → Int32 → Int32 → St → Option (UInt64 × St)) (y4 : Int32) (y3 : Int32) (y2 : Int32) (y1 : Int32) (u : St) : Option (UInt64 × St) :=
  if (u 1 0 0) ≤ y4 then
    nm (y3 + 1) fun v5 =>
    ih6 v5 y2 y1 u
  else
    gd (inb y3 8) <|
    gd ((ix y3) < N 15) <|
    gd (inb y4 8) <|
    gd ((ix y4) < N 14) <|
    if (u 30 (ix y3) 0) = (u 20 (ix y4) 0) then
      nm (y1 + (u 40 (8 * 0 + (ix y3)) (ix y4))) fun v12 =>
      nm (y2 + 1) fun v13 =>
      nm (y4 + 1) fun v14 =>
      ih17 v14 y3 v13 v12 u
    else
      nm (y4 + 1) fun v11 =>
      ih17 v11 y3 y2 y1 u
def f_X7_meanMemory_L17 (N : Nt) (ih6 : Int32 → Int32 → Int32 → St → Option (UInt64 × St)) : Nat → Int32 → Int32 → Int32 → Int32 → St → Option (UInt64 × St) := lp (fun _ _ _ _ _ => none) (f_X7_meanMemory_L17b N ih6)
def f_X7_meanMemory_L6b (N : Nt) (ih6 : Int32 → Int32 → Int32 → St → Option (UInt64 × St)) (y3 : Int32) (y2 : Int32) (y1 : Int32) (u : St) : Option (UInt64 × St) :=
  if (u 2 0 0) ≤ y3 then
    if y2 = 0 then
      some (0, u)
    else
      gd ((FP.ddiv (FP.i2d y1) (FP.i2d y2)) &&& 0x7fffffffffffffff ≤ 0x7ff0000000000000) <|
      some ((FP.ddiv (FP.i2d y1) (FP.i2d y2)), u)
  else
    f_X7_meanMemory_L17 N ih6 1000000 0 y3 y2 y1 u
def f_X7_meanMemory_L6 (N : Nt) : Nat → Int32 → Int32 → Int32 → St → Option (UInt64 × St) := lp (fun _ _ _ _ => none) (f_X7_meanMemory_L6b N)
def f_X7_meanMemory (N : Nt) (u : St) : Option (UInt64 × St) :=
  f_X7_meanMemory_L6 N 1000000 0 0 0 u
set_option maxRecDepth 100000 in
set_option maxHeartbeats 4000000 in
theorem c_X7_meanMemory (l : Launch) (z : Zt) (ad : Ad) (N : Nt) (X : Gt) (u : St) {r9 : UInt64} {u9 : St} (h : f_X7_meanMemory N u = some (r9, u9)) : MC l z yX7_meanMemory cX7_meanMemory 5 (some .double) { frames := 0, cells := 0, slots := 0, locals := 0 } 0 0 [.ref (ad 0 0)] ad (GC z ad N X u) (QD z ad (GC z ad N X u9) r9) := by
  refine Met.ofW (cc := cX7_meanMemory) (maxL := 5) (ret := (some .double)) (by decide) rfl ?_
  intro p e s m args below meth c s₁ B hml hv
  obtain ⟨rfl, hSW, hW⟩ := hv
  have hx := B.exec; have hb := B.bytes; have hr := B.returns; have hlocks := B.notSynchronized
  have hown : s.vm.findClass RX7 = some m.cls := findClass_of_methodNamed B.named
  obtain ⟨hT, hK, hST, hB0⟩ := id hSW
  have hS : va_S (zA z) s.heap s.heap [] := va_S.rf
  have hl := lv_entry ([.ref (ad 0 0)]) (n := 5) (Nat.le_of_ble_eq_true rfl)
  rw [lg_entry_eq]
  generalize (lg_sl ([.ref (ad 0 0)]) ++ List.replicate (5 - (lg_sl ([.ref (ad 0 0)])).length) Slot.unset).toArray = ls at hl ⊢
  have hl : lv_has ls 5 [(0, .ref (ad 0 0))] := hl
  let WW : Heap → List Loc → JFrame → Prop := fun H locs g => W p l e (headSpec [Cond.code yX7_meanMemory cX7_meanMemory 5 (some .double)] { frames := 0, cells := 0, slots := 0, locals := 0 }).room s m [.ref (ad 0 0)].toArray below meth c H locs 0 0 (MQ below (QD z ad (GC z ad N X u9) r9) [.ref (ad 0 0)].toArray s 0 0 (zA z)) g
  have hL17b : ∀ (ih6 : Int32 → Int32 → Int32 → St → Option (UInt64 × St)) (hih6 : ∀ (y3 : Int32) (y2 : Int32) (y1 : Int32) (u : St) (H : Heap) (locs : List Loc) (ls : Array Slot), lv_has ls 5 [(3, .int y3), (2, .int y2), (1, .int y1), (0, .ref (ad 0 0))] → GW z ad (GC z ad N X u) H → va_S (zA z) s.heap H locs → ih6 y3 y2 y1 u = some (r9, u9) → WW H locs (F0 m 6 ls [])), ∀ (ih17 : Int32 → Int32 → Int32 → Int32 → St → Option (UInt64 × St)) (hih17 : ∀ (y4 : Int32) (y3 : Int32) (y2 : Int32) (y1 : Int32) (u : St) (H : Heap) (locs : List Loc) (ls : Array Slot), lv_has ls 5 [(4, .int y4), (3, .int y3), (2, .int y2), (1, .int y1), (0, .ref (ad 0 0))] → GW z ad (GC z ad N X u) H → va_S (zA z) s.heap H locs → ih17 y4 y3 y2 y1 u = some (r9, u9) → WW H locs (F0 m 17 ls [])), ∀ (y4 : Int32) (y3 : Int32) (y2 : Int32) (y1 : Int32) (u : St) (H : Heap) (locs : List Loc) (ls : Array Slot), lv_has ls 5 [(4, .int y4), (3, .int y3), (2, .int y2), (1, .int y1), (0, .ref (ad 0 0))] → GW z ad (GC z ad N X u) H → va_S (zA z) s.heap H locs → f_X7_meanMemory_L17b N ih6 ih17 y4 y3 y2 y1 u = some (r9, u9) → WW H locs (F0 m 17 ls []) := by
    intro ih6 hih6 ih17 hih17 y4 y3 y2 y1 u H locs ls hl hW hS h
    change W p l e _ s m _ below meth c H locs 0 0 _ (F0 m 17 ls [])
    unfold f_X7_meanMemory_L17b at h
    refine lv_iload hx hb dX7_meanMemory_17 (lv_at hl 0 rfl) ?_
    refine lv_aload_n hx hb dX7_meanMemory_19 rfl (lv_at hl 4 rfl) ?_
    refine nb_get hx hb hT hK hown hW fl_X7_133 kr_0 (v := .int (u 1 0 0)) rfl dX7_meanMemory_20 ?_
    refine lv_icmp_ge (tgt := 72) hx hb dX7_meanMemory_23 (by decide) (fun c4 => ?_) (fun c4 => ?_)
    · replace h := ite_t h c4
      obtain ⟨v5, ev5, h⟩ := nm_s h
      refine lv_iinc (v := v5) (lv' := [(3, .int v5), (4, .int y4), (2, .int y2), (1, .int y1), (0, .ref (ad 0 0))]) hx hb dX7_meanMemory_72 hl (k := 1) rfl (by rw [ev5]; rfl) (by decide) rfl (fun ls hl => ?_)
      refine lv_goto (tgt := 6) hx hb dX7_meanMemory_75 (by decide) ?_
      exact hih6 _ _ _ _ _ _ _ (lv_sub hl [0, 2, 3, 4] rfl) hW hS h
    · replace h := ite_f h c4
      refine lv_aload_n hx hb dX7_meanMemory_26 rfl (lv_at hl 4 rfl) ?_
      refine nb_get hx hb hT hK hown hW fl_X7_23 kr_0 (v := .ref (ad 3 0)) rfl dX7_meanMemory_27 ?_
      refine lv_iload_n hx hb dX7_meanMemory_30 rfl (lv_at hl 1 rfl) ?_
      obtain ⟨g6, h⟩ := gd_s h
      obtain ⟨g7, h⟩ := gd_s h
      refine nb_aald hx hb hK hW 4 kr_3 rfl rfl (inb_in g6) (a := ad 15 (ix y3)) (qrow_at g7) dX7_meanMemory_31 ?_
      refine nb_get hx hb hT hK hown hW fl_X7_190 (kr_15 g7) (v := .int (u 30 (ix y3) 0)) rfl dX7_meanMemory_32 ?_
      refine lv_aload_n hx hb dX7_meanMemory_35 rfl (lv_at hl 4 rfl) ?_
      refine nb_get hx hb hT hK hown hW fl_X7_17 kr_0 (v := .ref (ad 2 0)) rfl dX7_meanMemory_36 ?_
      refine lv_iload hx hb dX7_meanMemory_39 (lv_at hl 0 rfl) ?_
      obtain ⟨g8, h⟩ := gd_s h
      obtain ⟨g09, h⟩ := gd_s h
      refine nb_aald hx hb hK hW 3 kr_2 rfl rfl (inb_in g8) (a := ad 14 (ix y4)) (qrow_at g09) dX7_meanMemory_41 ?_
      refine nb_get hx hb hT hK hown hW fl_X7_208 (kr_14 g09) (v := .int (u 20 (ix y4) 0)) rfl dX7_meanMemory_42 ?_
      refine lv_icmp_ne (tgt := 66) hx hb dX7_meanMemory_45 (by decide) (fun c10 => ?_) (fun c10 => ?_)
      · replace h := ite_f h c10
        obtain ⟨v11, ev11, h⟩ := nm_s h
        refine lv_iinc (v := v11) (lv' := [(4, .int v11), (3, .int y3), (2, .int y2), (1, .int y1), (0, .ref (ad 0 0))]) hx hb dX7_meanMemory_66 hl (k := 0) rfl (by rw [ev11]; rfl) (by decide) rfl (fun ls hl => ?_)
        refine lv_goto (tgt := 17) hx hb dX7_meanMemory_69 (by decide) ?_
        exact hih17 _ _ _ _ _ _ _ _ (lv_sub hl [0, 1, 2, 3, 4] rfl) hW hS h
      · replace h := ite_t h c10
        refine lv_iload_n hx hb dX7_meanMemory_48 rfl (lv_at hl 3 rfl) ?_
        refine lv_aload_n hx hb dX7_meanMemory_49 rfl (lv_at hl 4 rfl) ?_
        refine nb_get hx hb hT hK hown hW fl_X7_37 kr_0 (v := .ref (ad 10 0)) rfl dX7_meanMemory_50 ?_
        refine nb_get hx hb hT hK hown hW fl_X7_225 (kr_10 (by decide)) (v := .ref (ad 11 0)) rfl dX7_meanMemory_53 ?_
        refine lv_iload_n hx hb dX7_meanMemory_56 rfl (lv_at hl 1 rfl) ?_
        refine nb_aald hx hb hK hW 1 (kr_11 (by decide)) rfl rfl (inb_in g6) (a := ad 20 (8 * 0 + (ix y3))) (qrow_at (inb_lt g6)) dX7_meanMemory_57 ?_
        refine lv_iload hx hb dX7_meanMemory_58 (lv_at hl 0 rfl) ?_
        refine nb_iald hx hb hK hW 0 (kr_20 (row_lt (by decide) (inb_lt g6))) rfl (inb_in g8) dX7_meanMemory_60 ?_
        refine lv_iadd hx hb dX7_meanMemory_61 ?_
        refine lv_topi (fun v12 ev12 => ?_)
        replace h := nm_at ev12 h
        refine lv_istore_n (lv' := [(1, .int v12), (4, .int y4), (3, .int y3), (2, .int y2), (0, .ref (ad 0 0))]) hx hb dX7_meanMemory_62 rfl hl (by decide) rfl (fun ls hl => ?_)
        obtain ⟨v13, ev13, h⟩ := nm_s h
        refine lv_iinc (v := v13) (lv' := [(2, .int v13), (1, .int v12), (4, .int y4), (3, .int y3), (0, .ref (ad 0 0))]) hx hb dX7_meanMemory_63 hl (k := 3) rfl (by rw [ev13]; rfl) (by decide) rfl (fun ls hl => ?_)
        obtain ⟨v14, ev14, h⟩ := nm_s h
        refine lv_iinc (v := v14) (lv' := [(4, .int v14), (2, .int v13), (1, .int v12), (3, .int y3), (0, .ref (ad 0 0))]) hx hb dX7_meanMemory_66 hl (k := 2) rfl (by rw [ev14]; rfl) (by decide) rfl (fun ls hl => ?_)
        refine lv_goto (tgt := 17) hx hb dX7_meanMemory_69 (by decide) ?_
        exact hih17 _ _ _ _ _ _ _ _ (lv_sub hl [0, 3, 1, 2, 4] rfl) hW hS h
  have hL17 : ∀ (ih6 : Int32 → Int32 → Int32 → St → Option (UInt64 × St)) (hih6 : ∀ (y3 : Int32) (y2 : Int32) (y1 : Int32) (u : St) (H : Heap) (locs : List Loc) (ls : Array Slot), lv_has ls 5 [(3, .int y3), (2, .int y2), (1, .int y1), (0, .ref (ad 0 0))] → GW z ad (GC z ad N X u) H → va_S (zA z) s.heap H locs → ih6 y3 y2 y1 u = some (r9, u9) → WW H locs (F0 m 6 ls [])), ∀ (n : Nat), ∀ (y4 : Int32) (y3 : Int32) (y2 : Int32) (y1 : Int32) (u : St) (H : Heap) (locs : List Loc) (ls : Array Slot), lv_has ls 5 [(4, .int y4), (3, .int y3), (2, .int y2), (1, .int y1), (0, .ref (ad 0 0))] → GW z ad (GC z ad N X u) H → va_S (zA z) s.heap H locs → f_X7_meanMemory_L17 N ih6 n y4 y3 y2 y1 u = some (r9, u9) → WW H locs (F0 m 17 ls []) := by
    intro ih6 hih6 n
    induction n with
    | zero => intro y4 y3 y2 y1 u H locs ls hl hW hS h; exact absurd h (by intro q; cases q)
    | succ n ihn => intro y4 y3 y2 y1 u H locs ls hl hW hS h; exact hL17b ih6 hih6 (f_X7_meanMemory_L17 N ih6 n) ihn y4 y3 y2 y1 u H locs ls hl hW hS h
  have hL6b : ∀ (ih6 : Int32 → Int32 → Int32 → St → Option (UInt64 × St)) (hih6 : ∀ (y3 : Int32) (y2 : Int32) (y1 : Int32) (u : St) (H : Heap) (locs : List Loc) (ls : Array Slot), lv_has ls 5 [(3, .int y3), (2, .int y2), (1, .int y1), (0, .ref (ad 0 0))] → GW z ad (GC z ad N X u) H → va_S (zA z) s.heap H locs → ih6 y3 y2 y1 u = some (r9, u9) → WW H locs (F0 m 6 ls [])), ∀ (y3 : Int32) (y2 : Int32) (y1 : Int32) (u : St) (H : Heap) (locs : List Loc) (ls : Array Slot), lv_has ls 5 [(3, .int y3), (2, .int y2), (1, .int y1), (0, .ref (ad 0 0))] → GW z ad (GC z ad N X u) H → va_S (zA z) s.heap H locs → f_X7_meanMemory_L6b N ih6 y3 y2 y1 u = some (r9, u9) → WW H locs (F0 m 6 ls []) := by
    intro ih6 hih6 y3 y2 y1 u H locs ls hl hW hS h
    change W p l e _ s m _ below meth c H locs 0 0 _ (F0 m 6 ls [])
    unfold f_X7_meanMemory_L6b at h
    refine lv_iload_n hx hb dX7_meanMemory_6 rfl (lv_at hl 0 rfl) ?_
    refine lv_aload_n hx hb dX7_meanMemory_7 rfl (lv_at hl 3 rfl) ?_
    refine nb_get hx hb hT hK hown hW fl_X7_147 kr_0 (v := .int (u 2 0 0)) rfl dX7_meanMemory_8 ?_
    refine lv_icmp_ge (tgt := 78) hx hb dX7_meanMemory_11 (by decide) (fun c1 => ?_) (fun c1 => ?_)
    · replace h := ite_t h c1
      refine lv_iload_n hx hb dX7_meanMemory_78 rfl (lv_at hl 1 rfl) ?_
      refine lv_if_ne (tgt := 86) hx hb dX7_meanMemory_79 (by decide) (fun c2 => ?_) (fun c2 => ?_)
      · replace h := ite_f h c2
        refine lv_iload_n hx hb dX7_meanMemory_86 rfl (lv_at hl 2 rfl) ?_
        refine lv_i2d hx hb dX7_meanMemory_87 ?_
        refine lv_iload_n hx hb dX7_meanMemory_88 rfl (lv_at hl 1 rfl) ?_
        refine lv_i2d hx hb dX7_meanMemory_89 ?_
        obtain ⟨g3, h⟩ := gd_s h
        refine lv_ddiv hx hb dX7_meanMemory_90 g3 ?_
        exact ne_dret hx hb hr hlocks hW hS dX7_meanMemory_91 h
      · replace h := ite_t h c2
        refine lv_dconst0 hx hb dX7_meanMemory_82 ?_
        refine lv_goto (tgt := 91) hx hb dX7_meanMemory_83 (by decide) ?_
        exact ne_dret hx hb hr hlocks hW hS dX7_meanMemory_91 h
    · replace h := ite_f h c1
      refine lv_iconst (v := 0) hx hb dX7_meanMemory_14 (by decide) ?_
      refine lv_istore (lv' := [(4, .int 0), (3, .int y3), (2, .int y2), (1, .int y1), (0, .ref (ad 0 0))]) hx hb dX7_meanMemory_15 hl (by decide) rfl (fun ls hl => ?_)
      exact hL17 ih6 hih6 1000000 _ _ _ _ _ _ _ _ (lv_sub hl [0, 1, 2, 3, 4] rfl) hW hS h
  have hL6 : ∀ (n : Nat), ∀ (y3 : Int32) (y2 : Int32) (y1 : Int32) (u : St) (H : Heap) (locs : List Loc) (ls : Array Slot), lv_has ls 5 [(3, .int y3), (2, .int y2), (1, .int y1), (0, .ref (ad 0 0))] → GW z ad (GC z ad N X u) H → va_S (zA z) s.heap H locs → f_X7_meanMemory_L6 N n y3 y2 y1 u = some (r9, u9) → WW H locs (F0 m 6 ls []) := by
    intro n
    induction n with
    | zero => intro y3 y2 y1 u H locs ls hl hW hS h; exact absurd h (by intro q; cases q)
    | succ n ihn => intro y3 y2 y1 u H locs ls hl hW hS h; exact hL6b (f_X7_meanMemory_L6 N n) ihn y3 y2 y1 u H locs ls hl hW hS h
  unfold f_X7_meanMemory at h
  refine lv_iconst (v := 0) hx hb dX7_meanMemory_0 (by decide) ?_
  refine lv_istore_n (lv' := [(1, .int 0), (0, .ref (ad 0 0))]) hx hb dX7_meanMemory_1 rfl hl (by decide) rfl (fun ls hl => ?_)
  refine lv_iconst (v := 0) hx hb dX7_meanMemory_2 (by decide) ?_
  refine lv_istore_n (lv' := [(2, .int 0), (1, .int 0), (0, .ref (ad 0 0))]) hx hb dX7_meanMemory_3 rfl hl (by decide) rfl (fun ls hl => ?_)
  refine lv_iconst (v := 0) hx hb dX7_meanMemory_4 (by decide) ?_
  refine lv_istore_n (lv' := [(3, .int 0), (2, .int 0), (1, .int 0), (0, .ref (ad 0 0))]) hx hb dX7_meanMemory_5 rfl hl (by decide) rfl (fun ls hl => ?_)
  exact hL6 1000000 _ _ _ _ _ _ _ (lv_sub hl [0, 1, 2, 3] rfl) hW hS h
/-- Panyard$Minds.copyFrom -/
def f_X2_copyFrom_L2b (N : Nt) (k0 : Nat) (k1 : Nat) (ih2 : Int32 → St → Option (Unit × St)) (y2 : Int32) (u : St) : Option (Unit × St) :=
  if 8 ≤ y2 then
    some ((), u)
  else
    gd (inb y2 8) <|
    nm (scpy u 40 (8 * k1 + (ix y2)) (8 * k0 + (ix y2)) 8) fun u3 =>
    nm (sset u3 41 k0 (ix y2) (u3 41 k1 (ix y2))) fun u4 =>
    nm (y2 + 1) fun v5 =>
    ih2 v5 u4
def f_X2_copyFrom_L2 (N : Nt) (k0 : Nat) (k1 : Nat) : Nat → Int32 → St → Option (Unit × St) := lp (fun _ _ => none) (f_X2_copyFrom_L2b N k0 k1)
def f_X2_copyFrom (N : Nt) (u : St) (k0 : Nat) (k1 : Nat) : Option (Unit × St) :=
  f_X2_copyFrom_L2 N k0 k1 1000000 0 u
set_option maxRecDepth 100000 in
set_option maxHeartbeats 4000000 in
theorem c_X2_copyFrom (l : Launch) (z : Zt) (ad : Ad) (N : Nt) (X : Gt) (u : St) (k0 : Nat) (k1 : Nat) (hk0 : k0 < 2) (hk1 : k1 < 2) {r9 : Unit} {u9 : St} (h : f_X2_copyFrom N u k0 k1 = some (r9, u9)) : MC l z yX2_copyFrom cX2_copyFrom 3 none { frames := 1, cells := 0, slots := 0, locals := 60 } 0 0 [.ref (ad 10 k0), .ref (ad 10 k1)] ad (GC z ad N X u) (QV z ad (GC z ad N X u9)) := by
  refine Met.ofW (cc := cX2_copyFrom) (maxL := 3) (ret := none) (by decide) rfl ?_
  intro p e s m args below meth c s₁ B hml hv
  obtain ⟨rfl, hSW, hW⟩ := hv
  have hx := B.exec; have hb := B.bytes; have hr := B.returns; have hlocks := B.notSynchronized
  have hown : s.vm.findClass RX2 = some m.cls := findClass_of_methodNamed B.named
  obtain ⟨hT, hK, hST, hB0⟩ := id hSW
  have hS : va_S (zA z) s.heap s.heap [] := va_S.rf
  have hl := lv_entry ([.ref (ad 10 k0), .ref (ad 10 k1)]) (n := 3) (Nat.le_of_ble_eq_true rfl)
  rw [lg_entry_eq]
  generalize (lg_sl ([.ref (ad 10 k0), .ref (ad 10 k1)]) ++ List.replicate (3 - (lg_sl ([.ref (ad 10 k0), .ref (ad 10 k1)])).length) Slot.unset).toArray = ls at hl ⊢
  have hl : lv_has ls 3 [(0, .ref (ad 10 k0)), (1, .ref (ad 10 k1))] := hl
  let WW : Heap → List Loc → JFrame → Prop := fun H locs g => W p l e (headSpec [Cond.code yX2_copyFrom cX2_copyFrom 3 none] { frames := 1, cells := 0, slots := 0, locals := 60 }).room s m [.ref (ad 10 k0), .ref (ad 10 k1)].toArray below meth c H locs 0 0 (MQ below (QV z ad (GC z ad N X u9)) [.ref (ad 10 k0), .ref (ad 10 k1)].toArray s 0 0 (zA z)) g
  have hL2b : ∀ (ih2 : Int32 → St → Option (Unit × St)) (hih2 : ∀ (y2 : Int32) (u : St) (H : Heap) (locs : List Loc) (ls : Array Slot), lv_has ls 3 [(2, .int y2), (0, .ref (ad 10 k0)), (1, .ref (ad 10 k1))] → GW z ad (GC z ad N X u) H → va_S (zA z) s.heap H locs → ih2 y2 u = some (r9, u9) → WW H locs (F0 m 2 ls [])), ∀ (y2 : Int32) (u : St) (H : Heap) (locs : List Loc) (ls : Array Slot), lv_has ls 3 [(2, .int y2), (0, .ref (ad 10 k0)), (1, .ref (ad 10 k1))] → GW z ad (GC z ad N X u) H → va_S (zA z) s.heap H locs → f_X2_copyFrom_L2b N k0 k1 ih2 y2 u = some (r9, u9) → WW H locs (F0 m 2 ls []) := by
    intro ih2 hih2 y2 u H locs ls hl hW hS h
    change W p l e _ s m _ below meth c H locs 0 0 _ (F0 m 2 ls [])
    unfold f_X2_copyFrom_L2b at h
    refine lv_iload_n hx hb dX2_copyFrom_2 rfl (lv_at hl 0 rfl) ?_
    refine lv_bipush (v := 8) hx hb dX2_copyFrom_3 (by decide) ?_
    refine lv_icmp_ge (tgt := 45) hx hb dX2_copyFrom_5 (by decide) (fun c1 => ?_) (fun c1 => ?_)
    · replace h := ite_t h c1
      exact ne_vret hx hb hr hlocks hW hS dX2_copyFrom_45 h
    · replace h := ite_f h c1
      refine lv_aload_n hx hb dX2_copyFrom_8 rfl (lv_at hl 2 rfl) ?_
      refine nb_get hx hb hT hK hown hW fl_X2_11 (kr_10 hk1) (v := .ref (ad 11 k1)) rfl dX2_copyFrom_9 ?_
      refine lv_iload_n hx hb dX2_copyFrom_12 rfl (lv_at hl 0 rfl) ?_
      obtain ⟨g2, h⟩ := gd_s h
      refine nb_aald hx hb hK hW 1 (kr_11 hk1) rfl rfl (inb_in g2) (a := ad 20 (8 * k1 + (ix y2))) (qrow_at (inb_lt g2)) dX2_copyFrom_13 ?_
      refine lv_iconst (v := 0) hx hb dX2_copyFrom_14 (by decide) ?_
      refine lv_aload_n hx hb dX2_copyFrom_15 rfl (lv_at hl 1 rfl) ?_
      refine nb_get hx hb hT hK hown hW fl_X2_11 (kr_10 hk0) (v := .ref (ad 11 k0)) rfl dX2_copyFrom_16 ?_
      refine lv_iload_n hx hb dX2_copyFrom_19 rfl (lv_at hl 0 rfl) ?_
      refine nb_aald hx hb hK hW 1 (kr_11 hk0) rfl rfl (inb_in g2) (a := ad 20 (8 * k0 + (ix y2))) (qrow_at (inb_lt g2)) dX2_copyFrom_20 ?_
      refine lv_iconst (v := 0) hx hb dX2_copyFrom_21 (by decide) ?_
      refine lv_bipush (v := 8) hx hb dX2_copyFrom_22 (by decide) ?_
      obtain ⟨u3, eu3, h⟩ := nm_s h
      refine nb_copy hx hb hml hl.1 hown hT hK hW hS 0 (kr_20 (row_lt hk1 (inb_lt g2))) (kr_20 (row_lt hk0 (inb_lt g2))) rfl (N9 := 8) (by decide) ⟨by decide, by decide⟩ (by decide) lk_X2_20 mf_arraycopy ⟨Nat.le_of_ble_eq_true rfl, Nat.le_of_ble_eq_true rfl⟩ ((gy_40 (row_lt hk0 (inb_lt g2))).trans (congrArg (GC z ad N X) eu3.symm)) dX2_copyFrom_24 (fun H locs hW hS => ?_)
      refine lv_aload_n hx hb dX2_copyFrom_27 rfl (lv_at hl 1 rfl) ?_
      refine nb_get hx hb hT hK hown hW fl_X2_16 (kr_10 hk0) (v := .ref (ad 21 k0)) rfl dX2_copyFrom_28 ?_
      refine lv_iload_n hx hb dX2_copyFrom_31 rfl (lv_at hl 0 rfl) ?_
      refine lv_aload_n hx hb dX2_copyFrom_32 rfl (lv_at hl 2 rfl) ?_
      refine nb_get hx hb hT hK hown hW fl_X2_16 (kr_10 hk1) (v := .ref (ad 21 k1)) rfl dX2_copyFrom_33 ?_
      refine lv_iload_n hx hb dX2_copyFrom_36 rfl (lv_at hl 0 rfl) ?_
      refine nb_iald hx hb hK hW 0 (kr_21 hk1) rfl (inb_in g2) dX2_copyFrom_37 ?_
      obtain ⟨u4, eu4, h⟩ := nm_s h
      refine nb_iast hx hb hK hW hS 0 (kr_21 hk0) rfl (inb_in g2) ((gp_41 hk0).trans (congrArg (GC z ad N X) eu4.symm)) dX2_copyFrom_38 (fun H locs hW hS => ?_)
      obtain ⟨v5, ev5, h⟩ := nm_s h
      refine lv_iinc (v := v5) (lv' := [(2, .int v5), (0, .ref (ad 10 k0)), (1, .ref (ad 10 k1))]) hx hb dX2_copyFrom_39 hl (k := 0) rfl (by rw [ev5]; rfl) (by decide) rfl (fun ls hl => ?_)
      refine lv_goto (tgt := 2) hx hb dX2_copyFrom_42 (by decide) ?_
      exact hih2 _ _ _ _ _ (lv_sub hl [0, 1, 2] rfl) hW hS h
  have hL2 : ∀ (n : Nat), ∀ (y2 : Int32) (u : St) (H : Heap) (locs : List Loc) (ls : Array Slot), lv_has ls 3 [(2, .int y2), (0, .ref (ad 10 k0)), (1, .ref (ad 10 k1))] → GW z ad (GC z ad N X u) H → va_S (zA z) s.heap H locs → f_X2_copyFrom_L2 N k0 k1 n y2 u = some (r9, u9) → WW H locs (F0 m 2 ls []) := by
    intro n
    induction n with
    | zero => intro y2 u H locs ls hl hW hS h; exact absurd h (by intro q; cases q)
    | succ n ihn => intro y2 u H locs ls hl hW hS h; exact hL2b (f_X2_copyFrom_L2 N k0 k1 n) ihn y2 u H locs ls hl hW hS h
  unfold f_X2_copyFrom at h
  refine lv_iconst (v := 0) hx hb dX2_copyFrom_0 (by decide) ?_
  refine lv_istore_n (lv' := [(2, .int 0), (0, .ref (ad 10 k0)), (1, .ref (ad 10 k1))]) hx hb dX2_copyFrom_1 rfl hl (by decide) rfl (fun ls hl => ?_)
  exact hL2 1000000 _ _ _ _ _ (lv_sub hl [0, 1, 2] rfl) hW hS h
/-- Panyard.wouldTotal -/
def f_X7_wouldTotal_L34b (N : Nt) (ih34 : Int32 → Int32 → St → Option (Except String Int32 × St)) (y2 : Int32) (y1 : Int32) (u : St) : Option (Except String Int32 × St) :=
  if y1 ≤ y2 then
    sb (f_X7_weigh N u 1) fun r09 u11 =>
    sb (f_X7_tone N u11) fun r12 u14 =>
    sb (f_X7_heard N u14 0) fun r15 u17 =>
    some (.ok (r12 + r15), u17)
  else
    sb (f_X2_sleep N u 1 (u 1 0 0)) fun r18 u20 =>
    nm (y2 + 1) fun v21 =>
    ih34 v21 y1 u20
def f_X7_wouldTotal_L34 (N : Nt) : Nat → Int32 → Int32 → St → Option (Except String Int32 × St) := lp (fun _ _ _ => none) (f_X7_wouldTotal_L34b N)
def f_X7_wouldTotal (N : Nt) (u : St) (x1 : Int32) : Option (Except String Int32 × St) :=
  sb (f_X7_isWithin N u x1 0 60) fun r1 u3 =>
  if r1 = 0 then
    some (.error "java/lang/IllegalArgumentException", u3)
  else
    sb (f_X2_copyFrom N u3 1 0) fun r5 u7 =>
    f_X7_wouldTotal_L34 N 1000000 0 x1 u7
set_option maxRecDepth 100000 in
set_option maxHeartbeats 4000000 in
theorem c_X7_wouldTotal (l : Launch) (z : Zt) (ad : Ad) (N : Nt) (X : Gt) (u : St) (x1 : Int32) {r9 : Int32} {u9 : St} (h : f_X7_wouldTotal N u x1 = some (.ok r9, u9)) : MC l z yX7_wouldTotal cX7_wouldTotal 3 (some .int) { frames := 4, cells := 0, slots := 0, locals := 94 } 0 0 [.ref (ad 0 0), .int x1] ad (GC z ad N X u) (QI z ad (GC z ad N X u9) r9) := by
  refine Met.ofW (cc := cX7_wouldTotal) (maxL := 3) (ret := (some .int)) (by decide) rfl ?_
  intro p e s m args below meth c s₁ B hml hv
  obtain ⟨rfl, hSW, hW⟩ := hv
  have hx := B.exec; have hb := B.bytes; have hr := B.returns; have hlocks := B.notSynchronized
  have hown : s.vm.findClass RX7 = some m.cls := findClass_of_methodNamed B.named
  obtain ⟨hT, hK, hST, hB0⟩ := id hSW
  have hS : va_S (zA z) s.heap s.heap [] := va_S.rf
  have hl := lv_entry ([.ref (ad 0 0), .int x1]) (n := 3) (Nat.le_of_ble_eq_true rfl)
  rw [lg_entry_eq]
  generalize (lg_sl ([.ref (ad 0 0), .int x1]) ++ List.replicate (3 - (lg_sl ([.ref (ad 0 0), .int x1])).length) Slot.unset).toArray = ls at hl ⊢
  have hl : lv_has ls 3 [(0, .ref (ad 0 0)), (1, .int x1)] := hl
  let WW : Heap → List Loc → JFrame → Prop := fun H locs g => W p l e (headSpec [Cond.code yX7_wouldTotal cX7_wouldTotal 3 (some .int)] { frames := 4, cells := 0, slots := 0, locals := 94 }).room s m [.ref (ad 0 0), .int x1].toArray below meth c H locs 0 0 (MQ below (QI z ad (GC z ad N X u9) r9) [.ref (ad 0 0), .int x1].toArray s 0 0 (zA z)) g
  have hL34b : ∀ (ih34 : Int32 → Int32 → St → Option (Except String Int32 × St)) (hih34 : ∀ (y2 : Int32) (y1 : Int32) (u : St) (H : Heap) (locs : List Loc) (ls : Array Slot), lv_has ls 3 [(2, .int y2), (0, .ref (ad 0 0)), (1, .int y1)] → GW z ad (GC z ad N X u) H → va_S (zA z) s.heap H locs → ih34 y2 y1 u = some (.ok r9, u9) → WW H locs (F0 m 34 ls [])), ∀ (y2 : Int32) (y1 : Int32) (u : St) (H : Heap) (locs : List Loc) (ls : Array Slot), lv_has ls 3 [(2, .int y2), (0, .ref (ad 0 0)), (1, .int y1)] → GW z ad (GC z ad N X u) H → va_S (zA z) s.heap H locs → f_X7_wouldTotal_L34b N ih34 y2 y1 u = some (.ok r9, u9) → WW H locs (F0 m 34 ls []) := by
    intro ih34 hih34 y2 y1 u H locs ls hl hW hS h
    change W p l e _ s m _ below meth c H locs 0 0 _ (F0 m 34 ls [])
    unfold f_X7_wouldTotal_L34b at h
    refine lv_iload_n hx hb dX7_wouldTotal_34 rfl (lv_at hl 0 rfl) ?_
    refine lv_iload_n hx hb dX7_wouldTotal_35 rfl (lv_at hl 2 rfl) ?_
    refine lv_icmp_ge (tgt := 60) hx hb dX7_wouldTotal_36 (by decide) (fun c8 => ?_) (fun c8 => ?_)
    · replace h := ite_t h c8
      refine lv_aload_n hx hb dX7_wouldTotal_60 rfl (lv_at hl 1 rfl) ?_
      refine lv_aload_n hx hb dX7_wouldTotal_61 rfl (lv_at hl 1 rfl) ?_
      refine nb_get hx hb hT hK hown hW fl_X7_69 kr_0 (v := .ref (ad 10 1)) rfl dX7_wouldTotal_62 ?_
      obtain ⟨r09, u11, h10, h⟩ := sb_s h
      refine nb_cv (nb_runV (As := [.ref (ad 10 1)]) (rest := []) hx hb hml hown hSW hS hW (c_X7_weigh l z ad N X u 1 (by decide) h10) mf_X7_weigh lk_X7_345 kr_0 rfl rfl ⟨rfl, rfl⟩ ⟨Nat.le_of_ble_eq_true rfl, Nat.le_of_ble_eq_true rfl⟩ hl.1 (Nat.le_of_ble_eq_true rfl) dX7_wouldTotal_65 ⟨Nat.le_of_ble_eq_true rfl, Nat.le_of_ble_eq_true rfl⟩) hS (fun H locs (hW : GW z ad (GC z ad N X u11) H) hS => ?_)
      refine lv_aload_n hx hb dX7_wouldTotal_68 rfl (lv_at hl 1 rfl) ?_
      obtain ⟨r12, u14, h13, h⟩ := sb_s h
      refine nb_ci (nb_runV (As := []) (rest := []) hx hb hml hown hSW hS hW (c_X7_tone l z ad N X u11 h13) mf_X7_tone lk_X7_359 kr_0 rfl rfl ⟨rfl, rfl⟩ ⟨Nat.le_of_ble_eq_true rfl, Nat.le_of_ble_eq_true rfl⟩ hl.1 (Nat.le_of_ble_eq_true rfl) dX7_wouldTotal_69 ⟨Nat.le_of_ble_eq_true rfl, Nat.le_of_ble_eq_true rfl⟩) hS (fun H locs (hW : GW z ad (GC z ad N X u14) H) hS => ?_)
      refine lv_aload_n hx hb dX7_wouldTotal_72 rfl (lv_at hl 1 rfl) ?_
      refine lv_aload_n hx hb dX7_wouldTotal_73 rfl (lv_at hl 1 rfl) ?_
      refine nb_get hx hb hT hK hown hW fl_X7_30 kr_0 (v := .ref (ad 8 0)) rfl dX7_wouldTotal_74 ?_
      obtain ⟨r15, u17, h16, h⟩ := sb_s h
      refine nb_ci (nb_runV (As := [.ref (ad 8 0)]) (rest := [.int r12]) hx hb hml hown hSW hS hW (c_X7_heard l z ad N X u14 0 (by decide) h16) mf_X7_heard lk_X7_386 kr_0 rfl rfl ⟨rfl, rfl⟩ ⟨Nat.le_of_ble_eq_true rfl, Nat.le_of_ble_eq_true rfl⟩ hl.1 (Nat.le_of_ble_eq_true rfl) dX7_wouldTotal_77 ⟨Nat.le_of_ble_eq_true rfl, Nat.le_of_ble_eq_true rfl⟩) hS (fun H locs (hW : GW z ad (GC z ad N X u17) H) hS => ?_)
      refine lv_iadd hx hb dX7_wouldTotal_80 ?_
      exact ne_iretX hx hb hr rfl hlocks hW hS dX7_wouldTotal_81 h
    · replace h := ite_f h c8
      refine lv_aload_n hx hb dX7_wouldTotal_39 rfl (lv_at hl 1 rfl) ?_
      refine nb_get hx hb hT hK hown hW fl_X7_69 kr_0 (v := .ref (ad 10 1)) rfl dX7_wouldTotal_40 ?_
      refine lv_aload_n hx hb dX7_wouldTotal_43 rfl (lv_at hl 1 rfl) ?_
      refine nb_get hx hb hT hK hown hW fl_X7_17 kr_0 (v := .ref (ad 2 0)) rfl dX7_wouldTotal_44 ?_
      refine lv_aload_n hx hb dX7_wouldTotal_47 rfl (lv_at hl 1 rfl) ?_
      refine nb_get hx hb hT hK hown hW fl_X7_133 kr_0 (v := .int (u 1 0 0)) rfl dX7_wouldTotal_48 ?_
      obtain ⟨r18, u20, h19, h⟩ := sb_s h
      refine nb_cv (nb_runV (As := [.ref (ad 2 0), .int (u 1 0 0)]) (rest := []) hx hb hml hown hSW hS hW (c_X2_sleep l z ad N X u 1 (u 1 0 0) (by decide) h19) mf_X2_sleep lk_X7_251 (kr_10 (by decide)) rfl rfl ⟨rfl, rfl⟩ ⟨Nat.le_of_ble_eq_true rfl, Nat.le_of_ble_eq_true rfl⟩ hl.1 (Nat.le_of_ble_eq_true rfl) dX7_wouldTotal_51 ⟨Nat.le_of_ble_eq_true rfl, Nat.le_of_ble_eq_true rfl⟩) hS (fun H locs (hW : GW z ad (GC z ad N X u20) H) hS => ?_)
      obtain ⟨v21, ev21, h⟩ := nm_s h
      refine lv_iinc (v := v21) (lv' := [(2, .int v21), (0, .ref (ad 0 0)), (1, .int y1)]) hx hb dX7_wouldTotal_54 hl (k := 0) rfl (by rw [ev21]; rfl) (by decide) rfl (fun ls hl => ?_)
      refine lv_goto (tgt := 34) hx hb dX7_wouldTotal_57 (by decide) ?_
      exact hih34 _ _ _ _ _ _ (lv_sub hl [0, 1, 2] rfl) hW hS h
  have hL34 : ∀ (n : Nat), ∀ (y2 : Int32) (y1 : Int32) (u : St) (H : Heap) (locs : List Loc) (ls : Array Slot), lv_has ls 3 [(2, .int y2), (0, .ref (ad 0 0)), (1, .int y1)] → GW z ad (GC z ad N X u) H → va_S (zA z) s.heap H locs → f_X7_wouldTotal_L34 N n y2 y1 u = some (.ok r9, u9) → WW H locs (F0 m 34 ls []) := by
    intro n
    induction n with
    | zero => intro y2 y1 u H locs ls hl hW hS h; exact absurd h (by intro q; cases q)
    | succ n ihn => intro y2 y1 u H locs ls hl hW hS h; exact hL34b (f_X7_wouldTotal_L34 N n) ihn y2 y1 u H locs ls hl hW hS h
  unfold f_X7_wouldTotal at h
  refine lv_iload_n hx hb dX7_wouldTotal_0 rfl (lv_at hl 1 rfl) ?_
  refine lv_iconst (v := 0) hx hb dX7_wouldTotal_1 (by decide) ?_
  refine lv_bipush (v := 60) hx hb dX7_wouldTotal_2 (by decide) ?_
  obtain ⟨r1, u3, h2, h⟩ := sb_s h
  refine nb_ci (nb_runS (As := [.int x1, .int 0, .int 60]) (rest := []) hx hb hml hown hSW hS hW (c_X7_isWithin l z ad N X u x1 0 60 h2) mf_X7_isWithin lk_X7_96 rfl ⟨rfl, rfl⟩ ⟨Nat.le_of_ble_eq_true rfl, Nat.le_of_ble_eq_true rfl⟩ hl.1 (Nat.le_of_ble_eq_true rfl) dX7_wouldTotal_4 ⟨Nat.le_of_ble_eq_true rfl, Nat.le_of_ble_eq_true rfl⟩) hS (fun H locs (hW : GW z ad (GC z ad N X u3) H) hS => ?_)
  refine lv_if_ne (tgt := 21) hx hb dX7_wouldTotal_7 (by decide) (fun c4 => ?_) (fun c4 => ?_)
  · replace h := ite_f h c4
    refine lv_aload_n hx hb dX7_wouldTotal_21 rfl (lv_at hl 0 rfl) ?_
    refine nb_get hx hb hT hK hown hW fl_X7_69 kr_0 (v := .ref (ad 10 1)) rfl dX7_wouldTotal_22 ?_
    refine lv_aload_n hx hb dX7_wouldTotal_25 rfl (lv_at hl 0 rfl) ?_
    refine nb_get hx hb hT hK hown hW fl_X7_37 kr_0 (v := .ref (ad 10 0)) rfl dX7_wouldTotal_26 ?_
    obtain ⟨r5, u7, h6, h⟩ := sb_s h
    refine nb_cv (nb_runV (As := [.ref (ad 10 0)]) (rest := []) hx hb hml hown hSW hS hW (c_X2_copyFrom l z ad N X u3 1 0 (by decide) (by decide) h6) mf_X2_copyFrom lk_X7_383 (kr_10 (by decide)) rfl rfl ⟨rfl, rfl⟩ ⟨Nat.le_of_ble_eq_true rfl, Nat.le_of_ble_eq_true rfl⟩ hl.1 (Nat.le_of_ble_eq_true rfl) dX7_wouldTotal_29 ⟨Nat.le_of_ble_eq_true rfl, Nat.le_of_ble_eq_true rfl⟩) hS (fun H locs (hW : GW z ad (GC z ad N X u7) H) hS => ?_)
    refine lv_iconst (v := 0) hx hb dX7_wouldTotal_32 (by decide) ?_
    refine lv_istore_n (lv' := [(2, .int 0), (0, .ref (ad 0 0)), (1, .int x1)]) hx hb dX7_wouldTotal_33 rfl hl (by decide) rfl (fun ls hl => ?_)
    exact hL34 1000000 _ _ _ _ _ _ (lv_sub hl [0, 1, 2] rfl) hW hS h
  · replace h := ite_t h c4
    exact absurd h (by intro q; cases q)
/-- Panyard$Arrangement.copyFrom -/
def f_X0_copyFrom (N : Nt) (u : St) (k0 : Nat) (k1 : Nat) : Option (Unit × St) :=
  nm (scpy u 42 k1 k0 10) fun u1 =>
  nm (sset u1 43 k0 0 (u1 43 k1 0)) fun u2 =>
  some ((), u2)
set_option maxRecDepth 100000 in
set_option maxHeartbeats 4000000 in
theorem c_X0_copyFrom (l : Launch) (z : Zt) (ad : Ad) (N : Nt) (X : Gt) (u : St) (k0 : Nat) (k1 : Nat) (hk0 : k0 < 2) (hk1 : k1 < 2) {r9 : Unit} {u9 : St} (h : f_X0_copyFrom N u k0 k1 = some (r9, u9)) : MC l z yX0_copyFrom cX0_copyFrom 2 none { frames := 1, cells := 0, slots := 0, locals := 60 } 0 0 [.ref (ad 8 k0), .ref (ad 8 k1)] ad (GC z ad N X u) (QV z ad (GC z ad N X u9)) := by
  refine Met.ofW (cc := cX0_copyFrom) (maxL := 2) (ret := none) (by decide) rfl ?_
  intro p e s m args below meth c s₁ B hml hv
  obtain ⟨rfl, hSW, hW⟩ := hv
  have hx := B.exec; have hb := B.bytes; have hr := B.returns; have hlocks := B.notSynchronized
  have hown : s.vm.findClass RX0 = some m.cls := findClass_of_methodNamed B.named
  obtain ⟨hT, hK, hST, hB0⟩ := id hSW
  have hS : va_S (zA z) s.heap s.heap [] := va_S.rf
  have hl := lv_entry ([.ref (ad 8 k0), .ref (ad 8 k1)]) (n := 2) (Nat.le_of_ble_eq_true rfl)
  rw [lg_entry_eq]
  generalize (lg_sl ([.ref (ad 8 k0), .ref (ad 8 k1)]) ++ List.replicate (2 - (lg_sl ([.ref (ad 8 k0), .ref (ad 8 k1)])).length) Slot.unset).toArray = ls at hl ⊢
  have hl : lv_has ls 2 [(0, .ref (ad 8 k0)), (1, .ref (ad 8 k1))] := hl
  unfold f_X0_copyFrom at h
  refine lv_aload_n hx hb dX0_copyFrom_0 rfl (lv_at hl 1 rfl) ?_
  refine nb_get hx hb hT hK hown hW fl_X0_9 (kr_8 hk1) (v := .ref (ad 9 k1)) rfl dX0_copyFrom_1 ?_
  refine lv_iconst (v := 0) hx hb dX0_copyFrom_4 (by decide) ?_
  refine lv_aload_n hx hb dX0_copyFrom_5 rfl (lv_at hl 0 rfl) ?_
  refine nb_get hx hb hT hK hown hW fl_X0_9 (kr_8 hk0) (v := .ref (ad 9 k0)) rfl dX0_copyFrom_6 ?_
  refine lv_iconst (v := 0) hx hb dX0_copyFrom_9 (by decide) ?_
  refine lv_bipush (v := 10) hx hb dX0_copyFrom_10 (by decide) ?_
  obtain ⟨u1, eu1, h⟩ := nm_s h
  refine nb_copy hx hb hml hl.1 hown hT hK hW hS 0 (kr_9 hk1) (kr_9 hk0) rfl (N9 := 10) (by decide) ⟨by decide, by decide⟩ (by decide) lk_X0_15 mf_arraycopy ⟨Nat.le_of_ble_eq_true rfl, Nat.le_of_ble_eq_true rfl⟩ ((gy_42 hk0).trans (congrArg (GC z ad N X) eu1.symm)) dX0_copyFrom_12 (fun H locs hW hS => ?_)
  refine lv_aload_n hx hb dX0_copyFrom_15 rfl (lv_at hl 0 rfl) ?_
  refine lv_aload_n hx hb dX0_copyFrom_16 rfl (lv_at hl 1 rfl) ?_
  refine nb_get hx hb hT hK hown hW fl_X0_21 (kr_8 hk1) (v := .int (u1 43 k1 0)) rfl dX0_copyFrom_17 ?_
  obtain ⟨u2, eu2, h⟩ := nm_s h
  refine nb_put hx hb hT hK hown hW hS fl_X0_21 tyX0 tyX0_ok nmX0 (kr_8 hk0) (v := .int (u1 43 k1 0)) rfl rfl rfl (Nat.le_of_ble_eq_true rfl) ((gp_43 hk0).trans (congrArg (GC z ad N X) eu2.symm)) dX0_copyFrom_20 (fun H locs hW hS => ?_)
  exact ne_vret hx hb hr hlocks hW hS dX0_copyFrom_23 h
/-- Panyard$Arrangement.shuffle -/
def f_X0_shuffle_L4b (N : Nt) (k0 : Nat) (ih4 : Int32 → Int32 → St → Option (Unit × St)) (y3 : Int32) (y2 : Int32) (u : St) : Option (Unit × St) :=
  if (u 43 k0 0) ≤ y3 then
    some ((), u)
  else
    nm ((u 43 k0 0) - y3) fun v2 =>
    gd (¬ v2 = 0) <|
    nm (irem y2 v2) fun v4 =>
    nm (y3 + v4) fun v5 =>
    nm (y2 / v2) fun v6 =>
    gd (inb v5 10) <|
    nm (u 42 k0 (ix v5)) fun v8 =>
    gd (inb y3 10) <|
    nm (sset u 42 k0 (ix v5) (u 42 k0 (ix y3))) fun u10 =>
    nm (sset u10 42 k0 (ix y3) v8) fun u11 =>
    nm (y3 + 1) fun v12 =>
    ih4 v12 v6 u11
def f_X0_shuffle_L4 (N : Nt) (k0 : Nat) : Nat → Int32 → Int32 → St → Option (Unit × St) := lp (fun _ _ _ => none) (f_X0_shuffle_L4b N k0)
def f_X0_shuffle (N : Nt) (u : St) (k0 : Nat) (x1 : Int32) : Option (Unit × St) :=
  f_X0_shuffle_L4 N k0 1000000 0 x1 u
set_option maxRecDepth 100000 in
set_option maxHeartbeats 4000000 in
theorem c_X0_shuffle (l : Launch) (z : Zt) (ad : Ad) (N : Nt) (X : Gt) (u : St) (k0 : Nat) (x1 : Int32) (hk0 : k0 < 2) {r9 : Unit} {u9 : St} (h : f_X0_shuffle N u k0 x1 = some (r9, u9)) : MC l z yX0_shuffle cX0_shuffle 7 none { frames := 0, cells := 0, slots := 0, locals := 0 } 0 0 [.ref (ad 8 k0), .int x1] ad (GC z ad N X u) (QV z ad (GC z ad N X u9)) := by
  refine Met.ofW (cc := cX0_shuffle) (maxL := 7) (ret := none) (by decide) rfl ?_
  intro p e s m args below meth c s₁ B hml hv
  obtain ⟨rfl, hSW, hW⟩ := hv
  have hx := B.exec; have hb := B.bytes; have hr := B.returns; have hlocks := B.notSynchronized
  have hown : s.vm.findClass RX0 = some m.cls := findClass_of_methodNamed B.named
  obtain ⟨hT, hK, hST, hB0⟩ := id hSW
  have hS : va_S (zA z) s.heap s.heap [] := va_S.rf
  have hl := lv_entry ([.ref (ad 8 k0), .int x1]) (n := 7) (Nat.le_of_ble_eq_true rfl)
  rw [lg_entry_eq]
  generalize (lg_sl ([.ref (ad 8 k0), .int x1]) ++ List.replicate (7 - (lg_sl ([.ref (ad 8 k0), .int x1])).length) Slot.unset).toArray = ls at hl ⊢
  have hl : lv_has ls 7 [(0, .ref (ad 8 k0)), (1, .int x1)] := hl
  let WW : Heap → List Loc → JFrame → Prop := fun H locs g => W p l e (headSpec [Cond.code yX0_shuffle cX0_shuffle 7 none] { frames := 0, cells := 0, slots := 0, locals := 0 }).room s m [.ref (ad 8 k0), .int x1].toArray below meth c H locs 0 0 (MQ below (QV z ad (GC z ad N X u9)) [.ref (ad 8 k0), .int x1].toArray s 0 0 (zA z)) g
  have hL4b : ∀ (ih4 : Int32 → Int32 → St → Option (Unit × St)) (hih4 : ∀ (y3 : Int32) (y2 : Int32) (u : St) (H : Heap) (locs : List Loc) (ls : Array Slot), lv_has ls 7 [(3, .int y3), (2, .int y2), (0, .ref (ad 8 k0))] → GW z ad (GC z ad N X u) H → va_S (zA z) s.heap H locs → ih4 y3 y2 u = some (r9, u9) → WW H locs (F0 m 4 ls [])), ∀ (y3 : Int32) (y2 : Int32) (u : St) (H : Heap) (locs : List Loc) (ls : Array Slot), lv_has ls 7 [(3, .int y3), (2, .int y2), (0, .ref (ad 8 k0))] → GW z ad (GC z ad N X u) H → va_S (zA z) s.heap H locs → f_X0_shuffle_L4b N k0 ih4 y3 y2 u = some (r9, u9) → WW H locs (F0 m 4 ls []) := by
    intro ih4 hih4 y3 y2 u H locs ls hl hW hS h
    change W p l e _ s m _ below meth c H locs 0 0 _ (F0 m 4 ls [])
    unfold f_X0_shuffle_L4b at h
    refine lv_iload_n hx hb dX0_shuffle_4 rfl (lv_at hl 0 rfl) ?_
    refine lv_aload_n hx hb dX0_shuffle_5 rfl (lv_at hl 2 rfl) ?_
    refine nb_get hx hb hT hK hown hW fl_X0_21 (kr_8 hk0) (v := .int (u 43 k0 0)) rfl dX0_shuffle_6 ?_
    refine lv_icmp_ge (tgt := 69) hx hb dX0_shuffle_9 (by decide) (fun c1 => ?_) (fun c1 => ?_)
    · replace h := ite_t h c1
      exact ne_vret hx hb hr hlocks hW hS dX0_shuffle_69 h
    · replace h := ite_f h c1
      refine lv_aload_n hx hb dX0_shuffle_12 rfl (lv_at hl 2 rfl) ?_
      refine nb_get hx hb hT hK hown hW fl_X0_21 (kr_8 hk0) (v := .int (u 43 k0 0)) rfl dX0_shuffle_13 ?_
      refine lv_iload_n hx hb dX0_shuffle_16 rfl (lv_at hl 0 rfl) ?_
      refine lv_isub hx hb dX0_shuffle_17 ?_
      refine lv_topi (fun v2 ev2 => ?_)
      replace h := nm_at ev2 h
      refine lv_istore (lv' := [(4, .int v2), (3, .int y3), (2, .int y2), (0, .ref (ad 8 k0))]) hx hb dX0_shuffle_18 hl (by decide) rfl (fun ls hl => ?_)
      refine lv_iload_n hx hb dX0_shuffle_20 rfl (lv_at hl 1 rfl) ?_
      refine lv_iload_n hx hb dX0_shuffle_21 rfl (lv_at hl 2 rfl) ?_
      refine lv_iload hx hb dX0_shuffle_22 (lv_at hl 0 rfl) ?_
      obtain ⟨g3, h⟩ := gd_s h
      refine lv_irem hx hb dX0_shuffle_24 g3 ?_
      refine lv_topi (fun v4 ev4 => ?_)
      replace h := nm_at ev4 h
      refine lv_iadd hx hb dX0_shuffle_25 ?_
      refine lv_topi (fun v5 ev5 => ?_)
      replace h := nm_at ev5 h
      refine lv_istore (lv' := [(5, .int v5), (4, .int v2), (3, .int y3), (2, .int y2), (0, .ref (ad 8 k0))]) hx hb dX0_shuffle_26 hl (by decide) rfl (fun ls hl => ?_)
      refine lv_iload_n hx hb dX0_shuffle_28 rfl (lv_at hl 3 rfl) ?_
      refine lv_iload hx hb dX0_shuffle_29 (lv_at hl 1 rfl) ?_
      refine lv_idiv hx hb dX0_shuffle_31 g3 ?_
      refine lv_topi (fun v6 ev6 => ?_)
      replace h := nm_at ev6 h
      refine lv_istore_n (lv' := [(2, .int v6), (5, .int v5), (4, .int v2), (3, .int y3), (0, .ref (ad 8 k0))]) hx hb dX0_shuffle_32 rfl hl (by decide) rfl (fun ls hl => ?_)
      refine lv_aload_n hx hb dX0_shuffle_33 rfl (lv_at hl 4 rfl) ?_
      refine nb_get hx hb hT hK hown hW fl_X0_9 (kr_8 hk0) (v := .ref (ad 9 k0)) rfl dX0_shuffle_34 ?_
      refine lv_iload hx hb dX0_shuffle_37 (lv_at hl 1 rfl) ?_
      obtain ⟨g7, h⟩ := gd_s h
      refine nb_iald hx hb hK hW 0 (kr_9 hk0) rfl (inb_in g7) dX0_shuffle_39 ?_
      refine lv_topi (fun v8 ev8 => ?_)
      replace h := nm_at ev8 h
      refine lv_istore (lv' := [(6, .int v8), (2, .int v6), (5, .int v5), (4, .int v2), (3, .int y3), (0, .ref (ad 8 k0))]) hx hb dX0_shuffle_40 hl (by decide) rfl (fun ls hl => ?_)
      refine lv_aload_n hx hb dX0_shuffle_42 rfl (lv_at hl 5 rfl) ?_
      refine nb_get hx hb hT hK hown hW fl_X0_9 (kr_8 hk0) (v := .ref (ad 9 k0)) rfl dX0_shuffle_43 ?_
      refine lv_iload hx hb dX0_shuffle_46 (lv_at hl 2 rfl) ?_
      refine lv_aload_n hx hb dX0_shuffle_48 rfl (lv_at hl 5 rfl) ?_
      refine nb_get hx hb hT hK hown hW fl_X0_9 (kr_8 hk0) (v := .ref (ad 9 k0)) rfl dX0_shuffle_49 ?_
      refine lv_iload_n hx hb dX0_shuffle_52 rfl (lv_at hl 4 rfl) ?_
      obtain ⟨g09, h⟩ := gd_s h
      refine nb_iald hx hb hK hW 0 (kr_9 hk0) rfl (inb_in g09) dX0_shuffle_53 ?_
      obtain ⟨u10, eu10, h⟩ := nm_s h
      refine nb_iast hx hb hK hW hS 0 (kr_9 hk0) rfl (inb_in g7) ((gp_42 hk0).trans (congrArg (GC z ad N X) eu10.symm)) dX0_shuffle_54 (fun H locs hW hS => ?_)
      refine lv_aload_n hx hb dX0_shuffle_55 rfl (lv_at hl 5 rfl) ?_
      refine nb_get hx hb hT hK hown hW fl_X0_9 (kr_8 hk0) (v := .ref (ad 9 k0)) rfl dX0_shuffle_56 ?_
      refine lv_iload_n hx hb dX0_shuffle_59 rfl (lv_at hl 4 rfl) ?_
      refine lv_iload hx hb dX0_shuffle_60 (lv_at hl 0 rfl) ?_
      obtain ⟨u11, eu11, h⟩ := nm_s h
      refine nb_iast hx hb hK hW hS 0 (kr_9 hk0) rfl (inb_in g09) ((gp_42 hk0).trans (congrArg (GC z ad N X) eu11.symm)) dX0_shuffle_62 (fun H locs hW hS => ?_)
      obtain ⟨v12, ev12, h⟩ := nm_s h
      refine lv_iinc (v := v12) (lv' := [(3, .int v12), (6, .int v8), (2, .int v6), (5, .int v5), (4, .int v2), (0, .ref (ad 8 k0))]) hx hb dX0_shuffle_63 hl (k := 4) rfl (by rw [ev12]; rfl) (by decide) rfl (fun ls hl => ?_)
      refine lv_goto (tgt := 4) hx hb dX0_shuffle_66 (by decide) ?_
      exact hih4 _ _ _ _ _ _ (lv_sub hl [0, 2, 5] rfl) hW hS h
  have hL4 : ∀ (n : Nat), ∀ (y3 : Int32) (y2 : Int32) (u : St) (H : Heap) (locs : List Loc) (ls : Array Slot), lv_has ls 7 [(3, .int y3), (2, .int y2), (0, .ref (ad 8 k0))] → GW z ad (GC z ad N X u) H → va_S (zA z) s.heap H locs → f_X0_shuffle_L4 N k0 n y3 y2 u = some (r9, u9) → WW H locs (F0 m 4 ls []) := by
    intro n
    induction n with
    | zero => intro y3 y2 u H locs ls hl hW hS h; exact absurd h (by intro q; cases q)
    | succ n ihn => intro y3 y2 u H locs ls hl hW hS h; exact hL4b (f_X0_shuffle_L4 N k0 n) ihn y3 y2 u H locs ls hl hW hS h
  unfold f_X0_shuffle at h
  refine lv_iload_n hx hb dX0_shuffle_0 rfl (lv_at hl 1 rfl) ?_
  refine lv_istore_n (lv' := [(2, .int x1), (0, .ref (ad 8 k0)), (1, .int x1)]) hx hb dX0_shuffle_1 rfl hl (by decide) rfl (fun ls hl => ?_)
  refine lv_iconst (v := 0) hx hb dX0_shuffle_2 (by decide) ?_
  refine lv_istore_n (lv' := [(3, .int 0), (2, .int x1), (0, .ref (ad 8 k0)), (1, .int x1)]) hx hb dX0_shuffle_3 rfl hl (by decide) rfl (fun ls hl => ?_)
  exact hL4 1000000 _ _ _ _ _ _ (lv_sub hl [0, 1, 2] rfl) hW hS h
/-- Panyard.bestOrder -/
def f_X7_bestOrder_L56b (N : Nt) (ih56 : Int32 → Int32 → Int32 → St → Option (Except String Int32 × St)) (y4 : Int32) (y3 : Int32) (y2 : Int32) (u : St) : Option (Except String Int32 × St) :=
  if y2 ≤ y4 then
    sb (f_X7_tone N u) fun r8 u10 =>
    some (.ok (r8 + y3), u10)
  else
    sb (f_X0_copyFrom N u 1 0) fun r11 u13 =>
    sb (f_X0_shuffle N u13 1 y4) fun r14 u16 =>
    sb (f_X7_heard N u16 1) fun r17 u19 =>
    nm (mmax y3 r17) fun v20 =>
    nm (y4 + 1) fun v21 =>
    ih56 v21 v20 y2 u19
def f_X7_bestOrder_L56 (N : Nt) : Nat → Int32 → Int32 → Int32 → St → Option (Except String Int32 × St) := lp (fun _ _ _ _ => none) (f_X7_bestOrder_L56b N)
def f_X7_bestOrder_L28b (N : Nt) (ih28 : Int32 → Int32 → Int32 → St → Option (Except String Int32 × St)) (y3 : Int32) (y2 : Int32) (y1 : Int32) (u : St) : Option (Except String Int32 × St) :=
  if y1 < y3 then
    sb (f_X7_weigh N u 0) fun r4 u6 =>
    f_X7_bestOrder_L56 N 1000000 0 0 y2 u6
  else
    nm (y2 * y3) fun v22 =>
    nm (y3 + 1) fun v23 =>
    ih28 v23 v22 y1 u
def f_X7_bestOrder_L28 (N : Nt) : Nat → Int32 → Int32 → Int32 → St → Option (Except String Int32 × St) := lp (fun _ _ _ _ => none) (f_X7_bestOrder_L28b N)
def f_X7_bestOrder (N : Nt) (u : St) : Option (Except String Int32 × St) :=
  nm (u 43 0 0) fun v1 =>
  if v1 ≤ 5 then
    f_X7_bestOrder_L28 N 1000000 2 1 v1 u
  else
    some (.error "java/lang/IllegalStateException", u)
set_option maxRecDepth 100000 in
set_option maxHeartbeats 4000000 in
theorem c_X7_bestOrder (l : Launch) (z : Zt) (ad : Ad) (N : Nt) (X : Gt) (u : St) {r9 : Int32} {u9 : St} (h : f_X7_bestOrder N u = some (.ok r9, u9)) : MC l z yX7_bestOrder cX7_bestOrder 5 (some .int) { frames := 4, cells := 0, slots := 0, locals := 94 } 0 0 [.ref (ad 0 0)] ad (GC z ad N X u) (QI z ad (GC z ad N X u9) r9) := by
  refine Met.ofW (cc := cX7_bestOrder) (maxL := 5) (ret := (some .int)) (by decide) rfl ?_
  intro p e s m args below meth c s₁ B hml hv
  obtain ⟨rfl, hSW, hW⟩ := hv
  have hx := B.exec; have hb := B.bytes; have hr := B.returns; have hlocks := B.notSynchronized
  have hown : s.vm.findClass RX7 = some m.cls := findClass_of_methodNamed B.named
  obtain ⟨hT, hK, hST, hB0⟩ := id hSW
  have hS : va_S (zA z) s.heap s.heap [] := va_S.rf
  have hl := lv_entry ([.ref (ad 0 0)]) (n := 5) (Nat.le_of_ble_eq_true rfl)
  rw [lg_entry_eq]
  generalize (lg_sl ([.ref (ad 0 0)]) ++ List.replicate (5 - (lg_sl ([.ref (ad 0 0)])).length) Slot.unset).toArray = ls at hl ⊢
  have hl : lv_has ls 5 [(0, .ref (ad 0 0))] := hl
  let WW : Heap → List Loc → JFrame → Prop := fun H locs g => W p l e (headSpec [Cond.code yX7_bestOrder cX7_bestOrder 5 (some .int)] { frames := 4, cells := 0, slots := 0, locals := 94 }).room s m [.ref (ad 0 0)].toArray below meth c H locs 0 0 (MQ below (QI z ad (GC z ad N X u9) r9) [.ref (ad 0 0)].toArray s 0 0 (zA z)) g
  have hL56b : ∀ (ih56 : Int32 → Int32 → Int32 → St → Option (Except String Int32 × St)) (hih56 : ∀ (y4 : Int32) (y3 : Int32) (y2 : Int32) (u : St) (H : Heap) (locs : List Loc) (ls : Array Slot), lv_has ls 5 [(4, .int y4), (3, .int y3), (2, .int y2), (0, .ref (ad 0 0))] → GW z ad (GC z ad N X u) H → va_S (zA z) s.heap H locs → ih56 y4 y3 y2 u = some (.ok r9, u9) → WW H locs (F0 m 56 ls [])), ∀ (y4 : Int32) (y3 : Int32) (y2 : Int32) (u : St) (H : Heap) (locs : List Loc) (ls : Array Slot), lv_has ls 5 [(4, .int y4), (3, .int y3), (2, .int y2), (0, .ref (ad 0 0))] → GW z ad (GC z ad N X u) H → va_S (zA z) s.heap H locs → f_X7_bestOrder_L56b N ih56 y4 y3 y2 u = some (.ok r9, u9) → WW H locs (F0 m 56 ls []) := by
    intro ih56 hih56 y4 y3 y2 u H locs ls hl hW hS h
    change W p l e _ s m _ below meth c H locs 0 0 _ (F0 m 56 ls [])
    unfold f_X7_bestOrder_L56b at h
    refine lv_iload hx hb dX7_bestOrder_56 (lv_at hl 0 rfl) ?_
    refine lv_iload_n hx hb dX7_bestOrder_58 rfl (lv_at hl 2 rfl) ?_
    refine lv_icmp_ge (tgt := 101) hx hb dX7_bestOrder_59 (by decide) (fun c7 => ?_) (fun c7 => ?_)
    · replace h := ite_t h c7
      refine lv_aload_n hx hb dX7_bestOrder_101 rfl (lv_at hl 3 rfl) ?_
      obtain ⟨r8, u10, h09, h⟩ := sb_s h
      refine nb_ci (nb_runV (As := []) (rest := []) hx hb hml hown hSW hS hW (c_X7_tone l z ad N X u h09) mf_X7_tone lk_X7_359 kr_0 rfl rfl ⟨rfl, rfl⟩ ⟨Nat.le_of_ble_eq_true rfl, Nat.le_of_ble_eq_true rfl⟩ hl.1 (Nat.le_of_ble_eq_true rfl) dX7_bestOrder_102 ⟨Nat.le_of_ble_eq_true rfl, Nat.le_of_ble_eq_true rfl⟩) hS (fun H locs (hW : GW z ad (GC z ad N X u10) H) hS => ?_)
      refine lv_iload_n hx hb dX7_bestOrder_105 rfl (lv_at hl 1 rfl) ?_
      refine lv_iadd hx hb dX7_bestOrder_106 ?_
      exact ne_iretX hx hb hr rfl hlocks hW hS dX7_bestOrder_107 h
    · replace h := ite_f h c7
      refine lv_aload_n hx hb dX7_bestOrder_62 rfl (lv_at hl 3 rfl) ?_
      refine nb_get hx hb hT hK hown hW fl_X7_66 kr_0 (v := .ref (ad 8 1)) rfl dX7_bestOrder_63 ?_
      refine lv_aload_n hx hb dX7_bestOrder_66 rfl (lv_at hl 3 rfl) ?_
      refine nb_get hx hb hT hK hown hW fl_X7_30 kr_0 (v := .ref (ad 8 0)) rfl dX7_bestOrder_67 ?_
      obtain ⟨r11, u13, h12, h⟩ := sb_s h
      refine nb_cv (nb_runV (As := [.ref (ad 8 0)]) (rest := []) hx hb hml hown hSW hS hW (c_X0_copyFrom l z ad N X u 1 0 (by decide) (by decide) h12) mf_X0_copyFrom lk_X7_391 (kr_8 (by decide)) rfl rfl ⟨rfl, rfl⟩ ⟨Nat.le_of_ble_eq_true rfl, Nat.le_of_ble_eq_true rfl⟩ hl.1 (Nat.le_of_ble_eq_true rfl) dX7_bestOrder_70 ⟨Nat.le_of_ble_eq_true rfl, Nat.le_of_ble_eq_true rfl⟩) hS (fun H locs (hW : GW z ad (GC z ad N X u13) H) hS => ?_)
      refine lv_aload_n hx hb dX7_bestOrder_73 rfl (lv_at hl 3 rfl) ?_
      refine nb_get hx hb hT hK hown hW fl_X7_66 kr_0 (v := .ref (ad 8 1)) rfl dX7_bestOrder_74 ?_
      refine lv_iload hx hb dX7_bestOrder_77 (lv_at hl 0 rfl) ?_
      obtain ⟨r14, u16, h15, h⟩ := sb_s h
      refine nb_cv (nb_runV (As := [.int y4]) (rest := []) hx hb hml hown hSW hS hW (c_X0_shuffle l z ad N X u13 1 y4 (by decide) h15) mf_X0_shuffle lk_X7_394 (kr_8 (by decide)) rfl rfl ⟨rfl, rfl⟩ ⟨Nat.le_of_ble_eq_true rfl, Nat.le_of_ble_eq_true rfl⟩ hl.1 (Nat.le_of_ble_eq_true rfl) dX7_bestOrder_79 ⟨Nat.le_of_ble_eq_true rfl, Nat.le_of_ble_eq_true rfl⟩) hS (fun H locs (hW : GW z ad (GC z ad N X u16) H) hS => ?_)
      refine lv_iload_n hx hb dX7_bestOrder_82 rfl (lv_at hl 1 rfl) ?_
      refine lv_aload_n hx hb dX7_bestOrder_83 rfl (lv_at hl 3 rfl) ?_
      refine lv_aload_n hx hb dX7_bestOrder_84 rfl (lv_at hl 3 rfl) ?_
      refine nb_get hx hb hT hK hown hW fl_X7_66 kr_0 (v := .ref (ad 8 1)) rfl dX7_bestOrder_85 ?_
      obtain ⟨r17, u19, h18, h⟩ := sb_s h
      refine nb_ci (nb_runV (As := [.ref (ad 8 1)]) (rest := [.int y3]) hx hb hml hown hSW hS hW (c_X7_heard l z ad N X u16 1 (by decide) h18) mf_X7_heard lk_X7_386 kr_0 rfl rfl ⟨rfl, rfl⟩ ⟨Nat.le_of_ble_eq_true rfl, Nat.le_of_ble_eq_true rfl⟩ hl.1 (Nat.le_of_ble_eq_true rfl) dX7_bestOrder_88 ⟨Nat.le_of_ble_eq_true rfl, Nat.le_of_ble_eq_true rfl⟩) hS (fun H locs (hW : GW z ad (GC z ad N X u19) H) hS => ?_)
      refine nb_mmax hx hb hml hl.1 hown hT lm_X7_397 mf_Math_max ⟨Nat.le_of_ble_eq_true rfl, Nat.le_of_ble_eq_true rfl⟩ ⟨Nat.le_of_ble_eq_true rfl, Nat.le_of_ble_eq_true rfl⟩ dX7_bestOrder_91 ?_
      refine lv_topi (fun v20 ev20 => ?_)
      replace h := nm_at ev20 h
      refine lv_istore_n (lv' := [(3, .int v20), (4, .int y4), (2, .int y2), (0, .ref (ad 0 0))]) hx hb dX7_bestOrder_94 rfl hl (by decide) rfl (fun ls hl => ?_)
      obtain ⟨v21, ev21, h⟩ := nm_s h
      refine lv_iinc (v := v21) (lv' := [(4, .int v21), (3, .int v20), (2, .int y2), (0, .ref (ad 0 0))]) hx hb dX7_bestOrder_95 hl (k := 1) rfl (by rw [ev21]; rfl) (by decide) rfl (fun ls hl => ?_)
      refine lv_goto (tgt := 56) hx hb dX7_bestOrder_98 (by decide) ?_
      exact hih56 _ _ _ _ _ _ _ (lv_sub hl [0, 1, 2, 3] rfl) hW hS h
  have hL56 : ∀ (n : Nat), ∀ (y4 : Int32) (y3 : Int32) (y2 : Int32) (u : St) (H : Heap) (locs : List Loc) (ls : Array Slot), lv_has ls 5 [(4, .int y4), (3, .int y3), (2, .int y2), (0, .ref (ad 0 0))] → GW z ad (GC z ad N X u) H → va_S (zA z) s.heap H locs → f_X7_bestOrder_L56 N n y4 y3 y2 u = some (.ok r9, u9) → WW H locs (F0 m 56 ls []) := by
    intro n
    induction n with
    | zero => intro y4 y3 y2 u H locs ls hl hW hS h; exact absurd h (by intro q; cases q)
    | succ n ihn => intro y4 y3 y2 u H locs ls hl hW hS h; exact hL56b (f_X7_bestOrder_L56 N n) ihn y4 y3 y2 u H locs ls hl hW hS h
  have hL28b : ∀ (ih28 : Int32 → Int32 → Int32 → St → Option (Except String Int32 × St)) (hih28 : ∀ (y3 : Int32) (y2 : Int32) (y1 : Int32) (u : St) (H : Heap) (locs : List Loc) (ls : Array Slot), lv_has ls 5 [(3, .int y3), (2, .int y2), (1, .int y1), (0, .ref (ad 0 0))] → GW z ad (GC z ad N X u) H → va_S (zA z) s.heap H locs → ih28 y3 y2 y1 u = some (.ok r9, u9) → WW H locs (F0 m 28 ls [])), ∀ (y3 : Int32) (y2 : Int32) (y1 : Int32) (u : St) (H : Heap) (locs : List Loc) (ls : Array Slot), lv_has ls 5 [(3, .int y3), (2, .int y2), (1, .int y1), (0, .ref (ad 0 0))] → GW z ad (GC z ad N X u) H → va_S (zA z) s.heap H locs → f_X7_bestOrder_L28b N ih28 y3 y2 y1 u = some (.ok r9, u9) → WW H locs (F0 m 28 ls []) := by
    intro ih28 hih28 y3 y2 y1 u H locs ls hl hW hS h
    change W p l e _ s m _ below meth c H locs 0 0 _ (F0 m 28 ls [])
    unfold f_X7_bestOrder_L28b at h
    refine lv_iload_n hx hb dX7_bestOrder_28 rfl (lv_at hl 0 rfl) ?_
    refine lv_iload_n hx hb dX7_bestOrder_29 rfl (lv_at hl 2 rfl) ?_
    refine lv_icmp_gt (tgt := 43) hx hb dX7_bestOrder_30 (by decide) (fun c3 => ?_) (fun c3 => ?_)
    · replace h := ite_t h c3
      refine lv_aload_n hx hb dX7_bestOrder_43 rfl (lv_at hl 3 rfl) ?_
      refine lv_aload_n hx hb dX7_bestOrder_44 rfl (lv_at hl 3 rfl) ?_
      refine nb_get hx hb hT hK hown hW fl_X7_37 kr_0 (v := .ref (ad 10 0)) rfl dX7_bestOrder_45 ?_
      obtain ⟨r4, u6, h5, h⟩ := sb_s h
      refine nb_cv (nb_runV (As := [.ref (ad 10 0)]) (rest := []) hx hb hml hown hSW hS hW (c_X7_weigh l z ad N X u 0 (by decide) h5) mf_X7_weigh lk_X7_345 kr_0 rfl rfl ⟨rfl, rfl⟩ ⟨Nat.le_of_ble_eq_true rfl, Nat.le_of_ble_eq_true rfl⟩ hl.1 (Nat.le_of_ble_eq_true rfl) dX7_bestOrder_48 ⟨Nat.le_of_ble_eq_true rfl, Nat.le_of_ble_eq_true rfl⟩) hS (fun H locs (hW : GW z ad (GC z ad N X u6) H) hS => ?_)
      refine lv_iconst (v := 0) hx hb dX7_bestOrder_51 (by decide) ?_
      refine lv_istore_n (lv' := [(3, .int 0), (2, .int y2), (1, .int y1), (0, .ref (ad 0 0))]) hx hb dX7_bestOrder_52 rfl hl (by decide) rfl (fun ls hl => ?_)
      refine lv_iconst (v := 0) hx hb dX7_bestOrder_53 (by decide) ?_
      refine lv_istore (lv' := [(4, .int 0), (3, .int 0), (2, .int y2), (1, .int y1), (0, .ref (ad 0 0))]) hx hb dX7_bestOrder_54 hl (by decide) rfl (fun ls hl => ?_)
      exact hL56 1000000 _ _ _ _ _ _ _ (lv_sub hl [0, 1, 2, 4] rfl) hW hS h
    · replace h := ite_f h c3
      refine lv_iload_n hx hb dX7_bestOrder_33 rfl (lv_at hl 1 rfl) ?_
      refine lv_iload_n hx hb dX7_bestOrder_34 rfl (lv_at hl 0 rfl) ?_
      refine lv_imul hx hb dX7_bestOrder_35 ?_
      refine lv_topi (fun v22 ev22 => ?_)
      replace h := nm_at ev22 h
      refine lv_istore_n (lv' := [(2, .int v22), (3, .int y3), (1, .int y1), (0, .ref (ad 0 0))]) hx hb dX7_bestOrder_36 rfl hl (by decide) rfl (fun ls hl => ?_)
      obtain ⟨v23, ev23, h⟩ := nm_s h
      refine lv_iinc (v := v23) (lv' := [(3, .int v23), (2, .int v22), (1, .int y1), (0, .ref (ad 0 0))]) hx hb dX7_bestOrder_37 hl (k := 1) rfl (by rw [ev23]; rfl) (by decide) rfl (fun ls hl => ?_)
      refine lv_goto (tgt := 28) hx hb dX7_bestOrder_40 (by decide) ?_
      exact hih28 _ _ _ _ _ _ _ (lv_sub hl [0, 1, 2, 3] rfl) hW hS h
  have hL28 : ∀ (n : Nat), ∀ (y3 : Int32) (y2 : Int32) (y1 : Int32) (u : St) (H : Heap) (locs : List Loc) (ls : Array Slot), lv_has ls 5 [(3, .int y3), (2, .int y2), (1, .int y1), (0, .ref (ad 0 0))] → GW z ad (GC z ad N X u) H → va_S (zA z) s.heap H locs → f_X7_bestOrder_L28 N n y3 y2 y1 u = some (.ok r9, u9) → WW H locs (F0 m 28 ls []) := by
    intro n
    induction n with
    | zero => intro y3 y2 y1 u H locs ls hl hW hS h; exact absurd h (by intro q; cases q)
    | succ n ihn => intro y3 y2 y1 u H locs ls hl hW hS h; exact hL28b (f_X7_bestOrder_L28 N n) ihn y3 y2 y1 u H locs ls hl hW hS h
  unfold f_X7_bestOrder at h
  refine lv_aload_n hx hb dX7_bestOrder_0 rfl (lv_at hl 0 rfl) ?_
  refine nb_get hx hb hT hK hown hW fl_X7_30 kr_0 (v := .ref (ad 8 0)) rfl dX7_bestOrder_1 ?_
  refine nb_get hx hb hT hK hown hW fl_X7_160 (kr_8 (by decide)) (v := .int (u 43 0 0)) rfl dX7_bestOrder_4 ?_
  refine lv_topi (fun v1 ev1 => ?_)
  replace h := nm_at ev1 h
  refine lv_istore_n (lv' := [(1, .int v1), (0, .ref (ad 0 0))]) hx hb dX7_bestOrder_7 rfl hl (by decide) rfl (fun ls hl => ?_)
  refine lv_iload_n hx hb dX7_bestOrder_8 rfl (lv_at hl 0 rfl) ?_
  refine lv_iconst (v := 5) hx hb dX7_bestOrder_9 (by decide) ?_
  refine lv_icmp_le (tgt := 24) hx hb dX7_bestOrder_10 (by decide) (fun c2 => ?_) (fun c2 => ?_)
  · replace h := ite_t h c2
    refine lv_iconst (v := 1) hx hb dX7_bestOrder_24 (by decide) ?_
    refine lv_istore_n (lv' := [(2, .int 1), (1, .int v1), (0, .ref (ad 0 0))]) hx hb dX7_bestOrder_25 rfl hl (by decide) rfl (fun ls hl => ?_)
    refine lv_iconst (v := 2) hx hb dX7_bestOrder_26 (by decide) ?_
    refine lv_istore_n (lv' := [(3, .int 2), (2, .int 1), (1, .int v1), (0, .ref (ad 0 0))]) hx hb dX7_bestOrder_27 rfl hl (by decide) rfl (fun ls hl => ?_)
    exact hL28 1000000 _ _ _ _ _ _ _ (lv_sub hl [0, 1, 2, 3] rfl) hW hS h
  · replace h := ite_f h c2
    exact absurd h (by intro q; cases q)
/-- Panyard.heardIfTaught -/
def f_X7_heardIfTaught (N : Nt) (u : St) (x1 : Int32) (x2 : Int32) (x3 : Int32) : Option (Int32 × St) :=
  gd (inb x2 8) <|
  nm (u 70 0 (ix x2)) fun v2 =>
  sb (f_X7_giveLesson N u 1 x1 x2 x3) fun r3 u5 =>
  sb (f_X7_levelOf N u5 x2 1) fun r6 u8 =>
  nm (sset u8 70 0 (ix x2) r6) fun u09 =>
  sb (f_X7_heard N u09 0) fun r10 u12 =>
  nm (sset u12 70 0 (ix x2) v2) fun u13 =>
  some (r10, u13)
set_option maxRecDepth 100000 in
set_option maxHeartbeats 4000000 in
theorem c_X7_heardIfTaught (l : Launch) (z : Zt) (ad : Ad) (N : Nt) (X : Gt) (u : St) (x1 : Int32) (x2 : Int32) (x3 : Int32) {r9 : Int32} {u9 : St} (h : f_X7_heardIfTaught N u x1 x2 x3 = some (r9, u9)) : MC l z yX7_heardIfTaught cX7_heardIfTaught 6 (some .int) { frames := 4, cells := 0, slots := 0, locals := 88 } 0 0 [.ref (ad 0 0), .int x1, .int x2, .int x3] ad (GC z ad N X u) (QI z ad (GC z ad N X u9) r9) := by
  refine Met.ofW (cc := cX7_heardIfTaught) (maxL := 6) (ret := (some .int)) (by decide) rfl ?_
  intro p e s m args below meth c s₁ B hml hv
  obtain ⟨rfl, hSW, hW⟩ := hv
  have hx := B.exec; have hb := B.bytes; have hr := B.returns; have hlocks := B.notSynchronized
  have hown : s.vm.findClass RX7 = some m.cls := findClass_of_methodNamed B.named
  obtain ⟨hT, hK, hST, hB0⟩ := id hSW
  have hS : va_S (zA z) s.heap s.heap [] := va_S.rf
  have hl := lv_entry ([.ref (ad 0 0), .int x1, .int x2, .int x3]) (n := 6) (Nat.le_of_ble_eq_true rfl)
  rw [lg_entry_eq]
  generalize (lg_sl ([.ref (ad 0 0), .int x1, .int x2, .int x3]) ++ List.replicate (6 - (lg_sl ([.ref (ad 0 0), .int x1, .int x2, .int x3])).length) Slot.unset).toArray = ls at hl ⊢
  have hl : lv_has ls 6 [(0, .ref (ad 0 0)), (1, .int x1), (2, .int x2), (3, .int x3)] := hl
  unfold f_X7_heardIfTaught at h
  refine lv_aload_n hx hb dX7_heardIfTaught_0 rfl (lv_at hl 0 rfl) ?_
  refine nb_get hx hb hT hK hown hW fl_X7_72 kr_0 (v := .ref (ad 4 0)) rfl dX7_heardIfTaught_1 ?_
  refine lv_iload_n hx hb dX7_heardIfTaught_4 rfl (lv_at hl 2 rfl) ?_
  obtain ⟨g1, h⟩ := gd_s h
  refine nb_iald hx hb hK hW 0 kr_4 rfl (inb_in g1) dX7_heardIfTaught_5 ?_
  refine lv_topi (fun v2 ev2 => ?_)
  replace h := nm_at ev2 h
  refine lv_istore (lv' := [(4, .int v2), (0, .ref (ad 0 0)), (1, .int x1), (2, .int x2), (3, .int x3)]) hx hb dX7_heardIfTaught_6 hl (by decide) rfl (fun ls hl => ?_)
  refine lv_aload_n hx hb dX7_heardIfTaught_8 rfl (lv_at hl 1 rfl) ?_
  refine lv_aload_n hx hb dX7_heardIfTaught_9 rfl (lv_at hl 1 rfl) ?_
  refine nb_get hx hb hT hK hown hW fl_X7_69 kr_0 (v := .ref (ad 10 1)) rfl dX7_heardIfTaught_10 ?_
  refine lv_iload_n hx hb dX7_heardIfTaught_13 rfl (lv_at hl 2 rfl) ?_
  refine lv_iload_n hx hb dX7_heardIfTaught_14 rfl (lv_at hl 3 rfl) ?_
  refine lv_iload_n hx hb dX7_heardIfTaught_15 rfl (lv_at hl 4 rfl) ?_
  obtain ⟨r3, u5, h4, h⟩ := sb_s h
  refine nb_cv (nb_runV (As := [.ref (ad 10 1), .int x1, .int x2, .int x3]) (rest := []) hx hb hml hown hSW hS hW (c_X7_giveLesson l z ad N X u 1 x1 x2 x3 (by decide) h4) mf_X7_giveLesson lk_X7_221 kr_0 rfl rfl ⟨rfl, rfl⟩ ⟨Nat.le_of_ble_eq_true rfl, Nat.le_of_ble_eq_true rfl⟩ hl.1 (Nat.le_of_ble_eq_true rfl) dX7_heardIfTaught_16 ⟨Nat.le_of_ble_eq_true rfl, Nat.le_of_ble_eq_true rfl⟩) hS (fun H locs (hW : GW z ad (GC z ad N X u5) H) hS => ?_)
  refine lv_aload_n hx hb dX7_heardIfTaught_19 rfl (lv_at hl 1 rfl) ?_
  refine nb_get hx hb hT hK hown hW fl_X7_72 kr_0 (v := .ref (ad 4 0)) rfl dX7_heardIfTaught_20 ?_
  refine lv_iload_n hx hb dX7_heardIfTaught_23 rfl (lv_at hl 3 rfl) ?_
  refine lv_aload_n hx hb dX7_heardIfTaught_24 rfl (lv_at hl 1 rfl) ?_
  refine lv_iload_n hx hb dX7_heardIfTaught_25 rfl (lv_at hl 3 rfl) ?_
  refine lv_aload_n hx hb dX7_heardIfTaught_26 rfl (lv_at hl 1 rfl) ?_
  refine nb_get hx hb hT hK hown hW fl_X7_69 kr_0 (v := .ref (ad 10 1)) rfl dX7_heardIfTaught_27 ?_
  obtain ⟨r6, u8, h7, h⟩ := sb_s h
  refine nb_ci (nb_runV (As := [.int x2, .ref (ad 10 1)]) (rest := [.int x2, .ref (ad 4 0)]) hx hb hml hown hSW hS hW (c_X7_levelOf l z ad N X u5 x2 1 (by decide) h7) mf_X7_levelOf lk_X7_498 kr_0 rfl rfl ⟨rfl, rfl⟩ ⟨Nat.le_of_ble_eq_true rfl, Nat.le_of_ble_eq_true rfl⟩ hl.1 (Nat.le_of_ble_eq_true rfl) dX7_heardIfTaught_30 ⟨Nat.le_of_ble_eq_true rfl, Nat.le_of_ble_eq_true rfl⟩) hS (fun H locs (hW : GW z ad (GC z ad N X u8) H) hS => ?_)
  obtain ⟨u09, eu09, h⟩ := nm_s h
  refine nb_iast hx hb hK hW hS 0 kr_4 rfl (inb_in g1) ((gp_70).trans (congrArg (GC z ad N X) eu09.symm)) dX7_heardIfTaught_33 (fun H locs hW hS => ?_)
  refine lv_aload_n hx hb dX7_heardIfTaught_34 rfl (lv_at hl 1 rfl) ?_
  refine lv_aload_n hx hb dX7_heardIfTaught_35 rfl (lv_at hl 1 rfl) ?_
  refine nb_get hx hb hT hK hown hW fl_X7_30 kr_0 (v := .ref (ad 8 0)) rfl dX7_heardIfTaught_36 ?_
  obtain ⟨r10, u12, h11, h⟩ := sb_s h
  refine nb_ci (nb_runV (As := [.ref (ad 8 0)]) (rest := []) hx hb hml hown hSW hS hW (c_X7_heard l z ad N X u09 0 (by decide) h11) mf_X7_heard lk_X7_386 kr_0 rfl rfl ⟨rfl, rfl⟩ ⟨Nat.le_of_ble_eq_true rfl, Nat.le_of_ble_eq_true rfl⟩ hl.1 (Nat.le_of_ble_eq_true rfl) dX7_heardIfTaught_39 ⟨Nat.le_of_ble_eq_true rfl, Nat.le_of_ble_eq_true rfl⟩) hS (fun H locs (hW : GW z ad (GC z ad N X u12) H) hS => ?_)
  refine lv_istore (lv' := [(5, .int r10), (4, .int v2), (0, .ref (ad 0 0)), (1, .int x1), (2, .int x2), (3, .int x3)]) hx hb dX7_heardIfTaught_42 hl (by decide) rfl (fun ls hl => ?_)
  refine lv_aload_n hx hb dX7_heardIfTaught_44 rfl (lv_at hl 2 rfl) ?_
  refine nb_get hx hb hT hK hown hW fl_X7_72 kr_0 (v := .ref (ad 4 0)) rfl dX7_heardIfTaught_45 ?_
  refine lv_iload_n hx hb dX7_heardIfTaught_48 rfl (lv_at hl 4 rfl) ?_
  refine lv_iload hx hb dX7_heardIfTaught_49 (lv_at hl 1 rfl) ?_
  obtain ⟨u13, eu13, h⟩ := nm_s h
  refine nb_iast hx hb hK hW hS 0 kr_4 rfl (inb_in g1) ((gp_70).trans (congrArg (GC z ad N X) eu13.symm)) dX7_heardIfTaught_51 (fun H locs hW hS => ?_)
  refine lv_iload hx hb dX7_heardIfTaught_52 (lv_at hl 0 rfl) ?_
  exact ne_iret hx hb hr rfl hlocks hW hS dX7_heardIfTaught_54 h
