/-! 25: the reference on its fresh object -/
-- isIn
def g_X11_isIn (x0 : Int32) (x1 : Int32) (x2 : Int32) : Option Int32 :=
  if x0 < x1 then
    some 0
  else
    if x2 < x0 then
      some 0
    else
      some 1
set_option maxRecDepth 100000 in
set_option maxHeartbeats 4000000 in
theorem m_X11_isIn (l : Launch) (z : Zt) (ad : Ad) (G : Gt) (hA : Raw ad) (x0 : Int32) (x1 : Int32) (x2 : Int32) {r9 : Int32} (h : g_X11_isIn x0 x1 x2 = some r9) : MC l z yX11_isIn cX11_isIn 3 (some .boolean) { frames := 0, cells := 0, slots := 0, locals := 0 } 0 0 [.int x0, .int x1, .int x2] ad G (QI z ad G r9) := by
  refine Met.ofW (cc := cX11_isIn) (maxL := 3) (ret := (some .boolean)) (by decide) rfl ?_
  intro p e s m args below meth c s₁ B hml hv
  obtain ⟨rfl, hSW, hW⟩ := hv
  have hx := B.exec; have hb := B.bytes; have hr := B.returns; have hlocks := B.notSynchronized
  have hown : s.vm.findClass RX11 = some m.cls := findClass_of_methodNamed B.named
  obtain ⟨hT, hK, hST, hB0⟩ := id hSW
  have hS : va_S (zA z) s.heap s.heap [] := va_S.rf
  have hl := lv_entry ([.int x0, .int x1, .int x2]) (n := 3) (Nat.le_of_ble_eq_true rfl)
  rw [lg_entry_eq]
  generalize (lg_sl ([.int x0, .int x1, .int x2]) ++ List.replicate (3 - (lg_sl ([.int x0, .int x1, .int x2])).length) Slot.unset).toArray = ls at hl ⊢
  have hl : lv_has ls 3 [(0, .int x0), (1, .int x1), (2, .int x2)] := hl
  unfold g_X11_isIn at h
  refine lv_iload_n hx hb dX11_isIn_0 rfl (lv_at hl 0 rfl) ?_
  refine lv_iload_n hx hb dX11_isIn_1 rfl (lv_at hl 1 rfl) ?_
  refine lv_icmp_lt (tgt := 14) hx hb dX11_isIn_2 (by decide) (fun c1 => ?_) (fun c1 => ?_)
  · replace h := ite_t h c1
    refine lv_iconst (v := 0) hx hb dX11_isIn_14 (by decide) ?_
    cases h; exact nb_iret hx hb hr rfl hlocks hW hS dX11_isIn_15
  · replace h := ite_f h c1
    refine lv_iload_n hx hb dX11_isIn_5 rfl (lv_at hl 0 rfl) ?_
    refine lv_iload_n hx hb dX11_isIn_6 rfl (lv_at hl 2 rfl) ?_
    refine lv_icmp_gt (tgt := 14) hx hb dX11_isIn_7 (by decide) (fun c2 => ?_) (fun c2 => ?_)
    · replace h := ite_t h c2
      refine lv_iconst (v := 0) hx hb dX11_isIn_14 (by decide) ?_
      cases h; exact nb_iret hx hb hr rfl hlocks hW hS dX11_isIn_15
    · replace h := ite_f h c2
      refine lv_iconst (v := 1) hx hb dX11_isIn_10 (by decide) ?_
      refine lv_goto (tgt := 15) hx hb dX11_isIn_11 (by decide) ?_
      cases h; exact nb_iret hx hb hr rfl hlocks hW hS dX11_isIn_15
-- held
def g_X11_held (x0 : Int32) (x1 : Int32) (x2 : Int32) : Option Int32 :=
  nm (mmin x2 x0) fun v1 =>
  nm (mmax x1 v1) fun v2 =>
  some v2
set_option maxRecDepth 100000 in
set_option maxHeartbeats 4000000 in
theorem m_X11_held (l : Launch) (z : Zt) (ad : Ad) (G : Gt) (hA : Raw ad) (x0 : Int32) (x1 : Int32) (x2 : Int32) {r9 : Int32} (h : g_X11_held x0 x1 x2 = some r9) : MC l z yX11_held cX11_held 3 (some .int) { frames := 1, cells := 0, slots := 0, locals := 21 } 0 0 [.int x0, .int x1, .int x2] ad G (QI z ad G r9) := by
  refine Met.ofW (cc := cX11_held) (maxL := 3) (ret := (some .int)) (by decide) rfl ?_
  intro p e s m args below meth c s₁ B hml hv
  obtain ⟨rfl, hSW, hW⟩ := hv
  have hx := B.exec; have hb := B.bytes; have hr := B.returns; have hlocks := B.notSynchronized
  have hown : s.vm.findClass RX11 = some m.cls := findClass_of_methodNamed B.named
  obtain ⟨hT, hK, hST, hB0⟩ := id hSW
  have hS : va_S (zA z) s.heap s.heap [] := va_S.rf
  have hl := lv_entry ([.int x0, .int x1, .int x2]) (n := 3) (Nat.le_of_ble_eq_true rfl)
  rw [lg_entry_eq]
  generalize (lg_sl ([.int x0, .int x1, .int x2]) ++ List.replicate (3 - (lg_sl ([.int x0, .int x1, .int x2])).length) Slot.unset).toArray = ls at hl ⊢
  have hl : lv_has ls 3 [(0, .int x0), (1, .int x1), (2, .int x2)] := hl
  unfold g_X11_held at h
  refine lv_iload_n hx hb dX11_held_0 rfl (lv_at hl 1 rfl) ?_
  refine lv_iload_n hx hb dX11_held_1 rfl (lv_at hl 2 rfl) ?_
  refine lv_iload_n hx hb dX11_held_2 rfl (lv_at hl 0 rfl) ?_
  refine nb_mmin hx hb hml hl.1 hown hT lm_X11_1 mf_Math_min ⟨Nat.le_of_ble_eq_true rfl, Nat.le_of_ble_eq_true rfl⟩ ⟨Nat.le_of_ble_eq_true rfl, Nat.le_of_ble_eq_true rfl⟩ dX11_held_3 ?_
  refine lv_topi (fun v1 ev1 => ?_)
  replace h := nm_at ev1 h
  refine nb_mmax hx hb hml hl.1 hown hT lm_X11_7 mf_Math_max ⟨Nat.le_of_ble_eq_true rfl, Nat.le_of_ble_eq_true rfl⟩ ⟨Nat.le_of_ble_eq_true rfl, Nat.le_of_ble_eq_true rfl⟩ dX11_held_6 ?_
  refine lv_topi (fun v2 ev2 => ?_)
  replace h := nm_at ev2 h
  cases h; exact nb_iret hx hb hr rfl hlocks hW hS dX11_held_9
-- has
def g_X11_has (x0 : Int32) (x1 : Int32) : Option Int32 :=
  if ((x0 >>> (x1 &&& 31)) &&& 1) = 1 then
    some 1
  else
    some 0
set_option maxRecDepth 100000 in
set_option maxHeartbeats 4000000 in
theorem m_X11_has (l : Launch) (z : Zt) (ad : Ad) (G : Gt) (hA : Raw ad) (x0 : Int32) (x1 : Int32) {r9 : Int32} (h : g_X11_has x0 x1 = some r9) : MC l z yX11_has cX11_has 2 (some .boolean) { frames := 0, cells := 0, slots := 0, locals := 0 } 0 0 [.int x0, .int x1] ad G (QI z ad G r9) := by
  refine Met.ofW (cc := cX11_has) (maxL := 2) (ret := (some .boolean)) (by decide) rfl ?_
  intro p e s m args below meth c s₁ B hml hv
  obtain ⟨rfl, hSW, hW⟩ := hv
  have hx := B.exec; have hb := B.bytes; have hr := B.returns; have hlocks := B.notSynchronized
  have hown : s.vm.findClass RX11 = some m.cls := findClass_of_methodNamed B.named
  obtain ⟨hT, hK, hST, hB0⟩ := id hSW
  have hS : va_S (zA z) s.heap s.heap [] := va_S.rf
  have hl := lv_entry ([.int x0, .int x1]) (n := 2) (Nat.le_of_ble_eq_true rfl)
  rw [lg_entry_eq]
  generalize (lg_sl ([.int x0, .int x1]) ++ List.replicate (2 - (lg_sl ([.int x0, .int x1])).length) Slot.unset).toArray = ls at hl ⊢
  have hl : lv_has ls 2 [(0, .int x0), (1, .int x1)] := hl
  unfold g_X11_has at h
  refine lv_iload_n hx hb dX11_has_0 rfl (lv_at hl 0 rfl) ?_
  refine lv_iload_n hx hb dX11_has_1 rfl (lv_at hl 1 rfl) ?_
  refine lv_ishr hx hb dX11_has_2 ?_
  refine lv_iconst (v := 1) hx hb dX11_has_3 (by decide) ?_
  refine lv_iand hx hb dX11_has_4 ?_
  refine lv_iconst (v := 1) hx hb dX11_has_5 (by decide) ?_
  refine lv_icmp_ne (tgt := 13) hx hb dX11_has_6 (by decide) (fun c1 => ?_) (fun c1 => ?_)
  · replace h := ite_f h c1
    refine lv_iconst (v := 0) hx hb dX11_has_13 (by decide) ?_
    cases h; exact nb_iret hx hb hr rfl hlocks hW hS dX11_has_14
  · replace h := ite_t h c1
    refine lv_iconst (v := 1) hx hb dX11_has_9 (by decide) ?_
    refine lv_goto (tgt := 14) hx hb dX11_has_10 (by decide) ?_
    cases h; exact nb_iret hx hb hr rfl hlocks hW hS dX11_has_14
-- isNoFamily
def g_X11_isNoFamily (x0 : Int32) : Option Int32 :=
  ob (g_X11_isIn x0 0 3) fun r2 =>
  if r2 = 0 then
    some 1
  else
    some 0
set_option maxRecDepth 100000 in
set_option maxHeartbeats 4000000 in
theorem m_X11_isNoFamily (l : Launch) (z : Zt) (ad : Ad) (G : Gt) (hA : Raw ad) (x0 : Int32) {r9 : Int32} (h : g_X11_isNoFamily x0 = some r9) : MC l z yX11_isNoFamily cX11_isNoFamily 1 (some .boolean) { frames := 1, cells := 0, slots := 0, locals := 22 } 0 0 [.int x0] ad G (QI z ad G r9) := by
  refine Met.ofW (cc := cX11_isNoFamily) (maxL := 1) (ret := (some .boolean)) (by decide) rfl ?_
  intro p e s m args below meth c s₁ B hml hv
  obtain ⟨rfl, hSW, hW⟩ := hv
  have hx := B.exec; have hb := B.bytes; have hr := B.returns; have hlocks := B.notSynchronized
  have hown : s.vm.findClass RX11 = some m.cls := findClass_of_methodNamed B.named
  obtain ⟨hT, hK, hST, hB0⟩ := id hSW
  have hS : va_S (zA z) s.heap s.heap [] := va_S.rf
  have hl := lv_entry ([.int x0]) (n := 1) (Nat.le_of_ble_eq_true rfl)
  rw [lg_entry_eq]
  generalize (lg_sl ([.int x0]) ++ List.replicate (1 - (lg_sl ([.int x0])).length) Slot.unset).toArray = ls at hl ⊢
  have hl : lv_has ls 1 [(0, .int x0)] := hl
  unfold g_X11_isNoFamily at h
  refine lv_iload_n hx hb dX11_isNoFamily_0 rfl (lv_at hl 0 rfl) ?_
  refine lv_iconst (v := 0) hx hb dX11_isNoFamily_1 (by decide) ?_
  refine lv_iconst (v := 3) hx hb dX11_isNoFamily_2 (by decide) ?_
  obtain ⟨r2, h1, h⟩ := ob_s h
  refine nb_ci (nb_runS (As := [.int x0, .int 0, .int 3]) (rest := []) hx hb hml hown hSW hS hW (m_X11_isIn l z ad _ hA x0 0 3 h1) mf_X11_isIn lk_X11_63 rfl ⟨rfl, rfl⟩ ⟨Nat.le_of_ble_eq_true rfl, Nat.le_of_ble_eq_true rfl⟩ hl.1 (Nat.le_of_ble_eq_true rfl) dX11_isNoFamily_3 ⟨Nat.le_of_ble_eq_true rfl, Nat.le_of_ble_eq_true rfl⟩) hS (fun H locs hW hS => ?_)
  refine lv_if_ne (tgt := 13) hx hb dX11_isNoFamily_6 (by decide) (fun c4 => ?_) (fun c4 => ?_)
  · replace h := ite_f h c4
    refine lv_iconst (v := 0) hx hb dX11_isNoFamily_13 (by decide) ?_
    cases h; exact nb_iret hx hb hr rfl hlocks hW hS dX11_isNoFamily_14
  · replace h := ite_t h c4
    refine lv_iconst (v := 1) hx hb dX11_isNoFamily_9 (by decide) ?_
    refine lv_goto (tgt := 14) hx hb dX11_isNoFamily_10 (by decide) ?_
    cases h; exact nb_iret hx hb hr rfl hlocks hW hS dX11_isNoFamily_14
-- isNoTold
def g_X11_isNoTold (x0 : Int32) (x1 : Int32) : Option Int32 :=
  ob (g_X11_isIn x0 1 9) fun r2 =>
  if r2 = 0 then
    some 1
  else
    ob (g_X11_isIn x1 1 255) fun r6 =>
    if r6 = 0 then
      some 1
    else
      some 0
set_option maxRecDepth 100000 in
set_option maxHeartbeats 4000000 in
theorem m_X11_isNoTold (l : Launch) (z : Zt) (ad : Ad) (G : Gt) (hA : Raw ad) (x0 : Int32) (x1 : Int32) {r9 : Int32} (h : g_X11_isNoTold x0 x1 = some r9) : MC l z yX11_isNoTold cX11_isNoTold 2 (some .boolean) { frames := 1, cells := 0, slots := 0, locals := 22 } 0 0 [.int x0, .int x1] ad G (QI z ad G r9) := by
  refine Met.ofW (cc := cX11_isNoTold) (maxL := 2) (ret := (some .boolean)) (by decide) rfl ?_
  intro p e s m args below meth c s₁ B hml hv
  obtain ⟨rfl, hSW, hW⟩ := hv
  have hx := B.exec; have hb := B.bytes; have hr := B.returns; have hlocks := B.notSynchronized
  have hown : s.vm.findClass RX11 = some m.cls := findClass_of_methodNamed B.named
  obtain ⟨hT, hK, hST, hB0⟩ := id hSW
  have hS : va_S (zA z) s.heap s.heap [] := va_S.rf
  have hl := lv_entry ([.int x0, .int x1]) (n := 2) (Nat.le_of_ble_eq_true rfl)
  rw [lg_entry_eq]
  generalize (lg_sl ([.int x0, .int x1]) ++ List.replicate (2 - (lg_sl ([.int x0, .int x1])).length) Slot.unset).toArray = ls at hl ⊢
  have hl : lv_has ls 2 [(0, .int x0), (1, .int x1)] := hl
  unfold g_X11_isNoTold at h
  refine lv_iload_n hx hb dX11_isNoTold_0 rfl (lv_at hl 0 rfl) ?_
  refine lv_iconst (v := 1) hx hb dX11_isNoTold_1 (by decide) ?_
  refine lv_bipush (v := 9) hx hb dX11_isNoTold_2 (by decide) ?_
  obtain ⟨r2, h1, h⟩ := ob_s h
  refine nb_ci (nb_runS (As := [.int x0, .int 1, .int 9]) (rest := []) hx hb hml hown hSW hS hW (m_X11_isIn l z ad _ hA x0 1 9 h1) mf_X11_isIn lk_X11_63 rfl ⟨rfl, rfl⟩ ⟨Nat.le_of_ble_eq_true rfl, Nat.le_of_ble_eq_true rfl⟩ hl.1 (Nat.le_of_ble_eq_true rfl) dX11_isNoTold_4 ⟨Nat.le_of_ble_eq_true rfl, Nat.le_of_ble_eq_true rfl⟩) hS (fun H locs hW hS => ?_)
  refine lv_if_eq (tgt := 21) hx hb dX11_isNoTold_7 (by decide) (fun c4 => ?_) (fun c4 => ?_)
  · replace h := ite_t h c4
    refine lv_iconst (v := 1) hx hb dX11_isNoTold_21 (by decide) ?_
    refine lv_goto (tgt := 26) hx hb dX11_isNoTold_22 (by decide) ?_
    cases h; exact nb_iret hx hb hr rfl hlocks hW hS dX11_isNoTold_26
  · replace h := ite_f h c4
    refine lv_iload_n hx hb dX11_isNoTold_10 rfl (lv_at hl 1 rfl) ?_
    refine lv_iconst (v := 1) hx hb dX11_isNoTold_11 (by decide) ?_
    refine lv_sipush (v := 255) hx hb dX11_isNoTold_12 (by decide) ?_
    obtain ⟨r6, h5, h⟩ := ob_s h
    refine nb_ci (nb_runS (As := [.int x1, .int 1, .int 255]) (rest := []) hx hb hml hown hSW hS hW (m_X11_isIn l z ad _ hA x1 1 255 h5) mf_X11_isIn lk_X11_63 rfl ⟨rfl, rfl⟩ ⟨Nat.le_of_ble_eq_true rfl, Nat.le_of_ble_eq_true rfl⟩ hl.1 (Nat.le_of_ble_eq_true rfl) dX11_isNoTold_15 ⟨Nat.le_of_ble_eq_true rfl, Nat.le_of_ble_eq_true rfl⟩) hS (fun H locs hW hS => ?_)
    refine lv_if_ne (tgt := 25) hx hb dX11_isNoTold_18 (by decide) (fun c8 => ?_) (fun c8 => ?_)
    · replace h := ite_f h c8
      refine lv_iconst (v := 0) hx hb dX11_isNoTold_25 (by decide) ?_
      cases h; exact nb_iret hx hb hr rfl hlocks hW hS dX11_isNoTold_26
    · replace h := ite_t h c8
      refine lv_iconst (v := 1) hx hb dX11_isNoTold_21 (by decide) ?_
      refine lv_goto (tgt := 26) hx hb dX11_isNoTold_22 (by decide) ?_
      cases h; exact nb_iret hx hb hr rfl hlocks hW hS dX11_isNoTold_26
-- add
def g_X11_add (x0 : Int64) (x2 : Int64) : Option Int64 :=
  some ((x0 * 31) + x2)
set_option maxRecDepth 100000 in
set_option maxHeartbeats 4000000 in
theorem m_X11_add (l : Launch) (z : Zt) (ad : Ad) (G : Gt) (hA : Raw ad) (x0 : Int64) (x2 : Int64) {r9 : Int64} (h : g_X11_add x0 x2 = some r9) : MC l z yX11_add cX11_add 4 (some .long) { frames := 0, cells := 0, slots := 0, locals := 0 } 0 0 [.long x0, .long x2] ad G (QL z ad G r9) := by
  refine Met.ofW (cc := cX11_add) (maxL := 4) (ret := (some .long)) (by decide) rfl ?_
  intro p e s m args below meth c s₁ B hml hv
  obtain ⟨rfl, hSW, hW⟩ := hv
  have hx := B.exec; have hb := B.bytes; have hr := B.returns; have hlocks := B.notSynchronized
  have hown : s.vm.findClass RX11 = some m.cls := findClass_of_methodNamed B.named
  obtain ⟨hT, hK, hST, hB0⟩ := id hSW
  have hS : va_S (zA z) s.heap s.heap [] := va_S.rf
  have hl := lv_entry ([.long x0, .long x2]) (n := 4) (Nat.le_of_ble_eq_true rfl)
  rw [lg_entry_eq]
  generalize (lg_sl ([.long x0, .long x2]) ++ List.replicate (4 - (lg_sl ([.long x0, .long x2])).length) Slot.unset).toArray = ls at hl ⊢
  have hl : lv_has ls 4 [(0, .long x0), (2, .long x2)] := hl
  unfold g_X11_add at h
  refine lv_lload_n hx hb dX11_add_0 rfl (lv_at hl 0 rfl) ?_
  refine lv_ldc2 (v := 31) hx hb hown (hT.use (List.mem_of_getElem? (i := 1663) (by decide +kernel)) rfl) dX11_add_1 ?_
  refine lv_lmul hx hb dX11_add_4 ?_
  refine lv_lload_n hx hb dX11_add_5 rfl (lv_at hl 1 rfl) ?_
  refine lv_ladd hx hb dX11_add_6 ?_
  cases h; exact W.lret hx hb hr (fun t ht _ => ⟨⟨_, (), rfl, rfl, by show GW z ad G t.heap; rw [ht]; exact hW⟩, hS.F ht⟩) hS.2.2 dX11_add_7 hlocks
-- refuse
def g_X11_refuse (M : St) (x1 : Int32) (x2 : Int32) : Option (Int32 × St) :=
  if x1 = 0 then
    if (M 0 0 0) ≤ 0 then
      some (0, M)
    else
      some (1, M)
  else
    if (M 0 0 0) = 0 then
      nm (sset M 0 0 0 x2) fun u5 =>
      if (u5 0 0 0) ≤ 0 then
        some (0, u5)
      else
        some (1, u5)
    else
      if (M 0 0 0) ≤ 0 then
        some (0, M)
      else
        some (1, M)
set_option maxRecDepth 100000 in
set_option maxHeartbeats 4000000 in
theorem m_X11_refuse (l : Launch) (z : Zt) (ad : Ad) (G : Gt) (hA : Raw ad) (A : Nat → Nat) (M : St) (hF : FM z G A M) (x1 : Int32) (x2 : Int32) {r9 : Int32} {M9 : St} (h : g_X11_refuse M x1 x2 = some (r9, M9)) : MC l z yX11_refuse cX11_refuse 3 (some .boolean) { frames := 0, cells := 0, slots := 0, locals := 0 } 0 0 [.ref (A 0), .int x1, .int x2] ad G (PSi z ad G A r9 M9 (fmO M)) := by
  refine Met.ofW (cc := cX11_refuse) (maxL := 3) (ret := (some .boolean)) (by decide) rfl ?_
  intro p e s m args below meth c s₁ B hml hv
  obtain ⟨rfl, hSW, hW⟩ := hv
  have hx := B.exec; have hb := B.bytes; have hr := B.returns; have hlocks := B.notSynchronized
  have hown : s.vm.findClass RX11 = some m.cls := findClass_of_methodNamed B.named
  obtain ⟨hT, hK, hST, hB0⟩ := id hSW
  have hS : va_S (zA z) s.heap s.heap [] := va_S.rf
  have hl := lv_entry ([.ref (A 0), .int x1, .int x2]) (n := 3) (Nat.le_of_ble_eq_true rfl)
  rw [lg_entry_eq]
  generalize (lg_sl ([.ref (A 0), .int x1, .int x2]) ++ List.replicate (3 - (lg_sl ([.ref (A 0), .int x1, .int x2])).length) Slot.unset).toArray = ls at hl ⊢
  have hl : lv_has ls 3 [(0, .ref (A 0)), (1, .int x1), (2, .int x2)] := hl
  have hw : fmO M = fmO M := rfl
  unfold g_X11_refuse at h
  refine lv_iload_n hx hb dX11_refuse_0 rfl (lv_at hl 1 rfl) ?_
  refine lv_if_eq (tgt := 16) hx hb dX11_refuse_1 (by decide) (fun c1 => ?_) (fun c1 => ?_)
  · replace h := ite_t h c1
    refine lv_aload_n hx hb dX11_refuse_16 rfl (lv_at hl 0 rfl) ?_
    refine nb_getr hA hx hb hT hK hown hW fl_X11_56 hF.1 (v := .int (M 0 0 0)) rfl dX11_refuse_17 ?_
    refine lv_if_le (tgt := 27) hx hb dX11_refuse_20 (by decide) (fun c2 => ?_) (fun c2 => ?_)
    · replace h := ite_t h c2
      refine lv_iconst (v := 0) hx hb dX11_refuse_27 (by decide) ?_
      refine W.widen (k := 0) (n := 0) (Nat.le_of_ble_eq_true rfl) (Nat.le_of_ble_eq_true rfl) ?_
      exact fm_is hx hb hr rfl hlocks hW hF hw hS dX11_refuse_28 h
    · replace h := ite_f h c2
      refine lv_iconst (v := 1) hx hb dX11_refuse_23 (by decide) ?_
      refine lv_goto (tgt := 28) hx hb dX11_refuse_24 (by decide) ?_
      refine W.widen (k := 0) (n := 0) (Nat.le_of_ble_eq_true rfl) (Nat.le_of_ble_eq_true rfl) ?_
      exact fm_is hx hb hr rfl hlocks hW hF hw hS dX11_refuse_28 h
  · replace h := ite_f h c1
    refine lv_aload_n hx hb dX11_refuse_4 rfl (lv_at hl 0 rfl) ?_
    refine nb_getr hA hx hb hT hK hown hW fl_X11_56 hF.1 (v := .int (M 0 0 0)) rfl dX11_refuse_5 ?_
    refine lv_if_ne (tgt := 16) hx hb dX11_refuse_8 (by decide) (fun c3 => ?_) (fun c3 => ?_)
    · replace h := ite_f h c3
      refine lv_aload_n hx hb dX11_refuse_16 rfl (lv_at hl 0 rfl) ?_
      refine nb_getr hA hx hb hT hK hown hW fl_X11_56 hF.1 (v := .int (M 0 0 0)) rfl dX11_refuse_17 ?_
      refine lv_if_le (tgt := 27) hx hb dX11_refuse_20 (by decide) (fun c4 => ?_) (fun c4 => ?_)
      · replace h := ite_t h c4
        refine lv_iconst (v := 0) hx hb dX11_refuse_27 (by decide) ?_
        refine W.widen (k := 0) (n := 0) (Nat.le_of_ble_eq_true rfl) (Nat.le_of_ble_eq_true rfl) ?_
        exact fm_is hx hb hr rfl hlocks hW hF hw hS dX11_refuse_28 h
      · replace h := ite_f h c4
        refine lv_iconst (v := 1) hx hb dX11_refuse_23 (by decide) ?_
        refine lv_goto (tgt := 28) hx hb dX11_refuse_24 (by decide) ?_
        refine W.widen (k := 0) (n := 0) (Nat.le_of_ble_eq_true rfl) (Nat.le_of_ble_eq_true rfl) ?_
        exact fm_is hx hb hr rfl hlocks hW hF hw hS dX11_refuse_28 h
    · replace h := ite_t h c3
      refine lv_aload_n hx hb dX11_refuse_11 rfl (lv_at hl 0 rfl) ?_
      refine lv_iload_n hx hb dX11_refuse_12 rfl (lv_at hl 2 rfl) ?_
      obtain ⟨u5, eu5, h⟩ := nm_s h
      refine nb_putr hA hx hb hT hK hown hW hS fl_X11_56 tyX11 tyX11_ok nmX11 hF.1 (v := .int x2) rfl rfl rfl (Nat.le_of_ble_eq_true rfl) dX11_refuse_13 (fun H locs G6 hEG6 hcG6 hW hS => ?_)
      replace hF := hF.put (M' := u5) hEG6 hcG6 (by rw [eu5]; rfl) (by rw [eu5]; rfl)
      replace hw : fmO u5 = fmO M := by rw [eu5]; exact hw
      refine lv_aload_n hx hb dX11_refuse_16 rfl (lv_at hl 0 rfl) ?_
      refine nb_getr hA hx hb hT hK hown hW fl_X11_56 hF.1 (v := .int (u5 0 0 0)) rfl dX11_refuse_17 ?_
      refine lv_if_le (tgt := 27) hx hb dX11_refuse_20 (by decide) (fun c7 => ?_) (fun c7 => ?_)
      · replace h := ite_t h c7
        refine lv_iconst (v := 0) hx hb dX11_refuse_27 (by decide) ?_
        refine W.widen (k := 0) (n := 0) (Nat.le_of_ble_eq_true rfl) (Nat.le_of_ble_eq_true rfl) ?_
        exact fm_is hx hb hr rfl hlocks hW hF hw hS dX11_refuse_28 h
      · replace h := ite_f h c7
        refine lv_iconst (v := 1) hx hb dX11_refuse_23 (by decide) ?_
        refine lv_goto (tgt := 28) hx hb dX11_refuse_24 (by decide) ?_
        refine W.widen (k := 0) (n := 0) (Nat.le_of_ble_eq_true rfl) (Nat.le_of_ble_eq_true rfl) ?_
        exact fm_is hx hb hr rfl hlocks hW hF hw hS dX11_refuse_28 h
-- start
def g_X11_start (M : St) (x1 : Int32) (x2 : Int32) : Option (Int32 × St) :=
  nm (sset M 0 0 0 0) fun u1 =>
  ob2 (g_X11_refuse u1 x1 x2) fun r4 u5 =>
  gd (r4 = 0 ∨ r4 = 1) <|
  some (r4, u5)
set_option maxRecDepth 100000 in
set_option maxHeartbeats 4000000 in
theorem m_X11_start (l : Launch) (z : Zt) (ad : Ad) (G : Gt) (hA : Raw ad) (A : Nat → Nat) (M : St) (hF : FM z G A M) (x1 : Int32) (x2 : Int32) {r9 : Int32} {M9 : St} (h : g_X11_start M x1 x2 = some (r9, M9)) : MC l z yX11_start cX11_start 3 (some .boolean) { frames := 1, cells := 0, slots := 0, locals := 22 } 0 0 [.ref (A 0), .int x1, .int x2] ad G (PSi z ad G A r9 M9 (fmO M)) := by
  refine Met.ofW (cc := cX11_start) (maxL := 3) (ret := (some .boolean)) (by decide) rfl ?_
  intro p e s m args below meth c s₁ B hml hv
  obtain ⟨rfl, hSW, hW⟩ := hv
  have hx := B.exec; have hb := B.bytes; have hr := B.returns; have hlocks := B.notSynchronized
  have hown : s.vm.findClass RX11 = some m.cls := findClass_of_methodNamed B.named
  obtain ⟨hT, hK, hST, hB0⟩ := id hSW
  have hS : va_S (zA z) s.heap s.heap [] := va_S.rf
  have hl := lv_entry ([.ref (A 0), .int x1, .int x2]) (n := 3) (Nat.le_of_ble_eq_true rfl)
  rw [lg_entry_eq]
  generalize (lg_sl ([.ref (A 0), .int x1, .int x2]) ++ List.replicate (3 - (lg_sl ([.ref (A 0), .int x1, .int x2])).length) Slot.unset).toArray = ls at hl ⊢
  have hl : lv_has ls 3 [(0, .ref (A 0)), (1, .int x1), (2, .int x2)] := hl
  have hw : fmO M = fmO M := rfl
  unfold g_X11_start at h
  refine lv_aload_n hx hb dX11_start_0 rfl (lv_at hl 0 rfl) ?_
  refine lv_iconst (v := 0) hx hb dX11_start_1 (by decide) ?_
  obtain ⟨u1, eu1, h⟩ := nm_s h
  refine nb_putr hA hx hb hT hK hown hW hS fl_X11_56 tyX11 tyX11_ok nmX11 hF.1 (v := .int 0) rfl rfl rfl (Nat.le_of_ble_eq_true rfl) dX11_start_2 (fun H locs G2 hEG2 hcG2 hW hS => ?_)
  replace hF := hF.put (M' := u1) hEG2 hcG2 (by rw [eu1]; rfl) (by rw [eu1]; rfl)
  replace hw : fmO u1 = fmO M := by rw [eu1]; exact hw
  refine lv_aload_n hx hb dX11_start_5 rfl (lv_at hl 0 rfl) ?_
  refine lv_iload_n hx hb dX11_start_6 rfl (lv_at hl 1 rfl) ?_
  refine lv_iload_n hx hb dX11_start_7 rfl (lv_at hl 2 rfl) ?_
  obtain ⟨r4, u5, h3, h⟩ := ob2_s h
  refine fm_cs (nb_runVr (As := [.int x1, .int x2]) (rest := []) hA hx hb hml hown hSW hS hW (m_X11_refuse l z ad _ hA A u1 hF x1 x2 h3) mf_X11_refuse lk_X11_59 hF.1 rfl rfl ⟨rfl, rfl⟩ ⟨Nat.le_of_ble_eq_true rfl, Nat.le_of_ble_eq_true rfl⟩ hl.1 (Nat.le_of_ble_eq_true rfl) dX11_start_8 ⟨Nat.le_of_ble_eq_true rfl, Nat.le_of_ble_eq_true rfl⟩) hS (fun H locs G6 hF hw2 hW hS => ?_)
  replace hw := hw2.trans hw
  clear hw2
  obtain ⟨g7, h⟩ := gd_s h
  refine W.widen (k := 0) (n := 0) (Nat.le_of_ble_eq_true rfl) (Nat.le_of_ble_eq_true rfl) ?_
  exact fm_is hx hb hr (nbool g7).1 hlocks hW hF hw hS dX11_start_11 h
-- isNoPan
def g_X11_isNoPan (M : St) (x1 : Int32) : Option Int32 :=
  ob (g_X11_isIn x1 0 (-1)) fun r2 =>
  if r2 = 0 then
    some 1
  else
    some 0
set_option maxRecDepth 100000 in
set_option maxHeartbeats 4000000 in
theorem m_X11_isNoPan (l : Launch) (z : Zt) (ad : Ad) (G : Gt) (hA : Raw ad) (A : Nat → Nat) (M : St) (hF : FM z G A M) (x1 : Int32) {r9 : Int32} (h : g_X11_isNoPan M x1 = some r9) : MC l z yX11_isNoPan cX11_isNoPan 2 (some .boolean) { frames := 2, cells := 0, slots := 0, locals := 81 } 0 0 [.ref (A 0), .int x1] ad G (PQi z ad G r9) := by
  refine Met.ofW (cc := cX11_isNoPan) (maxL := 2) (ret := (some .boolean)) (by decide) rfl ?_
  intro p e s m args below meth c s₁ B hml hv
  obtain ⟨rfl, hSW, hW⟩ := hv
  have hx := B.exec; have hb := B.bytes; have hr := B.returns; have hlocks := B.notSynchronized
  have hown : s.vm.findClass RX11 = some m.cls := findClass_of_methodNamed B.named
  obtain ⟨hT, hK, hST, hB0⟩ := id hSW
  have hS : va_S (zA z) s.heap s.heap [] := va_S.rf
  have hl := lv_entry ([.ref (A 0), .int x1]) (n := 2) (Nat.le_of_ble_eq_true rfl)
  rw [lg_entry_eq]
  generalize (lg_sl ([.ref (A 0), .int x1]) ++ List.replicate (2 - (lg_sl ([.ref (A 0), .int x1])).length) Slot.unset).toArray = ls at hl ⊢
  have hl : lv_has ls 2 [(0, .ref (A 0)), (1, .int x1)] := hl
  have hX : Ext0 G G := Ext0.re
  unfold g_X11_isNoPan at h
  refine lv_iload_n hx hb dX11_isNoPan_0 rfl (lv_at hl 1 rfl) ?_
  refine lv_iconst (v := 0) hx hb dX11_isNoPan_1 (by decide) ?_
  refine lv_aload_n hx hb dX11_isNoPan_2 rfl (lv_at hl 0 rfl) ?_
  refine nb_getr hA hx hb hT hK hown hW fl_X11_19 hF.1 (v := .ref (A 1)) rfl dX11_isNoPan_3 ?_
  refine nb_ci (nb_runVr (As := []) (rest := [.int 0, .int x1]) hA hx hb hml hown hSW hS hW (m_size l z ad _ hA (A 1) (hF.2.1 0 (by decide))) mf_Jx4a65c_size_8abf5 lk_X11_67 (hF.2.1 0 (by decide)) rfl rfl ⟨rfl, rfl⟩ ⟨Nat.le_of_ble_eq_true rfl, Nat.le_of_ble_eq_true rfl⟩ hl.1 (Nat.le_of_ble_eq_true rfl) dX11_isNoPan_6 ⟨Nat.le_of_ble_eq_true rfl, Nat.le_of_ble_eq_true rfl⟩) hS (fun H locs hW hS => ?_)
  refine lv_iconst (v := 1) hx hb dX11_isNoPan_9 (by decide) ?_
  refine lv_isub hx hb dX11_isNoPan_10 ?_
  refine lv_topc (v := (-1)) (by decide) ?_
  obtain ⟨r2, h1, h⟩ := ob_s h
  refine nb_ci (nb_runS (As := [.int x1, .int 0, .int (-1)]) (rest := []) hx hb hml hown hSW hS hW (m_X11_isIn l z ad _ hA x1 0 (-1) h1) mf_X11_isIn lk_X11_63 rfl ⟨rfl, rfl⟩ ⟨Nat.le_of_ble_eq_true rfl, Nat.le_of_ble_eq_true rfl⟩ hl.1 (Nat.le_of_ble_eq_true rfl) dX11_isNoPan_11 ⟨Nat.le_of_ble_eq_true rfl, Nat.le_of_ble_eq_true rfl⟩) hS (fun H locs hW hS => ?_)
  refine lv_if_ne (tgt := 21) hx hb dX11_isNoPan_14 (by decide) (fun c4 => ?_) (fun c4 => ?_)
  · replace h := ite_f h c4
    refine lv_iconst (v := 0) hx hb dX11_isNoPan_21 (by decide) ?_
    refine W.widen (k := 0) (n := 0) (Nat.le_of_ble_eq_true rfl) (Nat.le_of_ble_eq_true rfl) ?_
    exact fm_iq hx hb hr rfl hlocks hW hX hS dX11_isNoPan_22 h
  · replace h := ite_t h c4
    refine lv_iconst (v := 1) hx hb dX11_isNoPan_17 (by decide) ?_
    refine lv_goto (tgt := 22) hx hb dX11_isNoPan_18 (by decide) ?_
    refine W.widen (k := 0) (n := 0) (Nat.le_of_ble_eq_true rfl) (Nat.le_of_ble_eq_true rfl) ?_
    exact fm_iq hx hb hr rfl hlocks hW hX hS dX11_isNoPan_22 h
-- isNoPhrase
def g_X11_isNoPhrase (M : St) (x1 : Int32) : Option Int32 :=
  ob (g_X11_isIn x1 0 (-1)) fun r2 =>
  if r2 = 0 then
    some 1
  else
    some 0
set_option maxRecDepth 100000 in
set_option maxHeartbeats 4000000 in
theorem m_X11_isNoPhrase (l : Launch) (z : Zt) (ad : Ad) (G : Gt) (hA : Raw ad) (A : Nat → Nat) (M : St) (hF : FM z G A M) (x1 : Int32) {r9 : Int32} (h : g_X11_isNoPhrase M x1 = some r9) : MC l z yX11_isNoPhrase cX11_isNoPhrase 2 (some .boolean) { frames := 2, cells := 0, slots := 0, locals := 81 } 0 0 [.ref (A 0), .int x1] ad G (PQi z ad G r9) := by
  refine Met.ofW (cc := cX11_isNoPhrase) (maxL := 2) (ret := (some .boolean)) (by decide) rfl ?_
  intro p e s m args below meth c s₁ B hml hv
  obtain ⟨rfl, hSW, hW⟩ := hv
  have hx := B.exec; have hb := B.bytes; have hr := B.returns; have hlocks := B.notSynchronized
  have hown : s.vm.findClass RX11 = some m.cls := findClass_of_methodNamed B.named
  obtain ⟨hT, hK, hST, hB0⟩ := id hSW
  have hS : va_S (zA z) s.heap s.heap [] := va_S.rf
  have hl := lv_entry ([.ref (A 0), .int x1]) (n := 2) (Nat.le_of_ble_eq_true rfl)
  rw [lg_entry_eq]
  generalize (lg_sl ([.ref (A 0), .int x1]) ++ List.replicate (2 - (lg_sl ([.ref (A 0), .int x1])).length) Slot.unset).toArray = ls at hl ⊢
  have hl : lv_has ls 2 [(0, .ref (A 0)), (1, .int x1)] := hl
  have hX : Ext0 G G := Ext0.re
  unfold g_X11_isNoPhrase at h
  refine lv_iload_n hx hb dX11_isNoPhrase_0 rfl (lv_at hl 1 rfl) ?_
  refine lv_iconst (v := 0) hx hb dX11_isNoPhrase_1 (by decide) ?_
  refine lv_aload_n hx hb dX11_isNoPhrase_2 rfl (lv_at hl 0 rfl) ?_
  refine nb_getr hA hx hb hT hK hown hW fl_X11_25 hF.1 (v := .ref (A 2)) rfl dX11_isNoPhrase_3 ?_
  refine nb_ci (nb_runVr (As := []) (rest := [.int 0, .int x1]) hA hx hb hml hown hSW hS hW (m_size l z ad _ hA (A 2) (hF.2.1 1 (by decide))) mf_Jx4a65c_size_8abf5 lk_X11_67 (hF.2.1 1 (by decide)) rfl rfl ⟨rfl, rfl⟩ ⟨Nat.le_of_ble_eq_true rfl, Nat.le_of_ble_eq_true rfl⟩ hl.1 (Nat.le_of_ble_eq_true rfl) dX11_isNoPhrase_6 ⟨Nat.le_of_ble_eq_true rfl, Nat.le_of_ble_eq_true rfl⟩) hS (fun H locs hW hS => ?_)
  refine lv_iconst (v := 1) hx hb dX11_isNoPhrase_9 (by decide) ?_
  refine lv_isub hx hb dX11_isNoPhrase_10 ?_
  refine lv_topc (v := (-1)) (by decide) ?_
  obtain ⟨r2, h1, h⟩ := ob_s h
  refine nb_ci (nb_runS (As := [.int x1, .int 0, .int (-1)]) (rest := []) hx hb hml hown hSW hS hW (m_X11_isIn l z ad _ hA x1 0 (-1) h1) mf_X11_isIn lk_X11_63 rfl ⟨rfl, rfl⟩ ⟨Nat.le_of_ble_eq_true rfl, Nat.le_of_ble_eq_true rfl⟩ hl.1 (Nat.le_of_ble_eq_true rfl) dX11_isNoPhrase_11 ⟨Nat.le_of_ble_eq_true rfl, Nat.le_of_ble_eq_true rfl⟩) hS (fun H locs hW hS => ?_)
  refine lv_if_ne (tgt := 21) hx hb dX11_isNoPhrase_14 (by decide) (fun c4 => ?_) (fun c4 => ?_)
  · replace h := ite_f h c4
    refine lv_iconst (v := 0) hx hb dX11_isNoPhrase_21 (by decide) ?_
    refine W.widen (k := 0) (n := 0) (Nat.le_of_ble_eq_true rfl) (Nat.le_of_ble_eq_true rfl) ?_
    exact fm_iq hx hb hr rfl hlocks hW hX hS dX11_isNoPhrase_22 h
  · replace h := ite_t h c4
    refine lv_iconst (v := 1) hx hb dX11_isNoPhrase_17 (by decide) ?_
    refine lv_goto (tgt := 22) hx hb dX11_isNoPhrase_18 (by decide) ?_
    refine W.widen (k := 0) (n := 0) (Nat.le_of_ble_eq_true rfl) (Nat.le_of_ble_eq_true rfl) ?_
    exact fm_iq hx hb hr rfl hlocks hW hX hS dX11_isNoPhrase_22 h
-- isNoPlayer
def g_X11_isNoPlayer (M : St) (x1 : Int32) : Option Int32 :=
  ob (g_X11_isIn x1 0 (-1)) fun r2 =>
  if r2 = 0 then
    some 1
  else
    some 0
set_option maxRecDepth 100000 in
set_option maxHeartbeats 4000000 in
theorem m_X11_isNoPlayer (l : Launch) (z : Zt) (ad : Ad) (G : Gt) (hA : Raw ad) (A : Nat → Nat) (M : St) (hF : FM z G A M) (x1 : Int32) {r9 : Int32} (h : g_X11_isNoPlayer M x1 = some r9) : MC l z yX11_isNoPlayer cX11_isNoPlayer 2 (some .boolean) { frames := 2, cells := 0, slots := 0, locals := 81 } 0 0 [.ref (A 0), .int x1] ad G (PQi z ad G r9) := by
  refine Met.ofW (cc := cX11_isNoPlayer) (maxL := 2) (ret := (some .boolean)) (by decide) rfl ?_
  intro p e s m args below meth c s₁ B hml hv
  obtain ⟨rfl, hSW, hW⟩ := hv
  have hx := B.exec; have hb := B.bytes; have hr := B.returns; have hlocks := B.notSynchronized
  have hown : s.vm.findClass RX11 = some m.cls := findClass_of_methodNamed B.named
  obtain ⟨hT, hK, hST, hB0⟩ := id hSW
  have hS : va_S (zA z) s.heap s.heap [] := va_S.rf
  have hl := lv_entry ([.ref (A 0), .int x1]) (n := 2) (Nat.le_of_ble_eq_true rfl)
  rw [lg_entry_eq]
  generalize (lg_sl ([.ref (A 0), .int x1]) ++ List.replicate (2 - (lg_sl ([.ref (A 0), .int x1])).length) Slot.unset).toArray = ls at hl ⊢
  have hl : lv_has ls 2 [(0, .ref (A 0)), (1, .int x1)] := hl
  have hX : Ext0 G G := Ext0.re
  unfold g_X11_isNoPlayer at h
  refine lv_iload_n hx hb dX11_isNoPlayer_0 rfl (lv_at hl 1 rfl) ?_
  refine lv_iconst (v := 0) hx hb dX11_isNoPlayer_1 (by decide) ?_
  refine lv_aload_n hx hb dX11_isNoPlayer_2 rfl (lv_at hl 0 rfl) ?_
  refine nb_getr hA hx hb hT hK hown hW fl_X11_31 hF.1 (v := .ref (A 4)) rfl dX11_isNoPlayer_3 ?_
  refine nb_ci (nb_runVr (As := []) (rest := [.int 0, .int x1]) hA hx hb hml hown hSW hS hW (m_size l z ad _ hA (A 4) (hF.2.1 3 (by decide))) mf_Jx4a65c_size_8abf5 lk_X11_67 (hF.2.1 3 (by decide)) rfl rfl ⟨rfl, rfl⟩ ⟨Nat.le_of_ble_eq_true rfl, Nat.le_of_ble_eq_true rfl⟩ hl.1 (Nat.le_of_ble_eq_true rfl) dX11_isNoPlayer_6 ⟨Nat.le_of_ble_eq_true rfl, Nat.le_of_ble_eq_true rfl⟩) hS (fun H locs hW hS => ?_)
  refine lv_iconst (v := 1) hx hb dX11_isNoPlayer_9 (by decide) ?_
  refine lv_isub hx hb dX11_isNoPlayer_10 ?_
  refine lv_topc (v := (-1)) (by decide) ?_
  obtain ⟨r2, h1, h⟩ := ob_s h
  refine nb_ci (nb_runS (As := [.int x1, .int 0, .int (-1)]) (rest := []) hx hb hml hown hSW hS hW (m_X11_isIn l z ad _ hA x1 0 (-1) h1) mf_X11_isIn lk_X11_63 rfl ⟨rfl, rfl⟩ ⟨Nat.le_of_ble_eq_true rfl, Nat.le_of_ble_eq_true rfl⟩ hl.1 (Nat.le_of_ble_eq_true rfl) dX11_isNoPlayer_11 ⟨Nat.le_of_ble_eq_true rfl, Nat.le_of_ble_eq_true rfl⟩) hS (fun H locs hW hS => ?_)
  refine lv_if_ne (tgt := 21) hx hb dX11_isNoPlayer_14 (by decide) (fun c4 => ?_) (fun c4 => ?_)
  · replace h := ite_f h c4
    refine lv_iconst (v := 0) hx hb dX11_isNoPlayer_21 (by decide) ?_
    refine W.widen (k := 0) (n := 0) (Nat.le_of_ble_eq_true rfl) (Nat.le_of_ble_eq_true rfl) ?_
    exact fm_iq hx hb hr rfl hlocks hW hX hS dX11_isNoPlayer_22 h
  · replace h := ite_t h c4
    refine lv_iconst (v := 1) hx hb dX11_isNoPlayer_17 (by decide) ?_
    refine lv_goto (tgt := 22) hx hb dX11_isNoPlayer_18 (by decide) ?_
    refine W.widen (k := 0) (n := 0) (Nat.le_of_ble_eq_true rfl) (Nat.le_of_ble_eq_true rfl) ?_
    exact fm_iq hx hb hr rfl hlocks hW hX hS dX11_isNoPlayer_22 h
-- sounding
def g_X11_sounding (M : St) : Option Int32 :=
  some 0
set_option maxRecDepth 100000 in
set_option maxHeartbeats 4000000 in
theorem m_X11_sounding (l : Launch) (z : Zt) (ad : Ad) (G : Gt) (hA : Raw ad) (A : Nat → Nat) (M : St) (hF : FM z G A M) {r9 : Int32} (h : g_X11_sounding M = some r9) : MC l z yX11_sounding cX11_sounding 4 (some .int) { frames := 3, cells := 1, slots := 4, locals := 81 } 1 4 [.ref (A 0)] ad G (PQi z ad G r9) := by
  refine Met.ofW (cc := cX11_sounding) (maxL := 4) (ret := (some .int)) (by decide) rfl ?_
  intro p e s m args below meth c s₁ B hml hv
  obtain ⟨rfl, hSW, hW⟩ := hv
  have hx := B.exec; have hb := B.bytes; have hr := B.returns; have hlocks := B.notSynchronized
  have hown : s.vm.findClass RX11 = some m.cls := findClass_of_methodNamed B.named
  obtain ⟨hT, hK, hST, hB0⟩ := id hSW
  have hS : va_S (zA z) s.heap s.heap [] := va_S.rf
  have hl := lv_entry ([.ref (A 0)]) (n := 4) (Nat.le_of_ble_eq_true rfl)
  rw [lg_entry_eq]
  generalize (lg_sl ([.ref (A 0)]) ++ List.replicate (4 - (lg_sl ([.ref (A 0)])).length) Slot.unset).toArray = ls at hl ⊢
  have hl : lv_has ls 4 [(0, .ref (A 0))] := hl
  have hX : Ext0 G G := Ext0.re
  unfold g_X11_sounding at h
  refine lv_iconst (v := 0) hx hb dX11_sounding_0 (by decide) ?_
  refine lv_istore_n (lv' := [(1, .int 0), (0, .ref (A 0))]) hx hb dX11_sounding_1 rfl hl (by decide) rfl (fun ls hl => ?_)
  refine lv_aload_n hx hb dX11_sounding_2 rfl (lv_at hl 1 rfl) ?_
  refine nb_getr hA hx hb hT hK hown hW fl_X11_31 hF.1 (v := .ref (A 4)) rfl dX11_sounding_3 ?_
  refine fm_cr (nb_runVr (As := []) (rest := []) hA hx hb hml hown hSW hS hW (m_iterator l z ad _ hA (A 4) (hF.2.1 3 (by decide))) mf_Jx4a65c_iterator_32c93 lk_X11_138 (hF.2.1 3 (by decide)) rfl rfl ⟨rfl, rfl⟩ ⟨Nat.le_of_ble_eq_true rfl, Nat.le_of_ble_eq_true rfl⟩ hl.1 (Nat.le_of_ble_eq_true rfl) dX11_sounding_6 ⟨Nat.le_of_ble_eq_true rfl, Nat.le_of_ble_eq_true rfl⟩) hS (fun H locs G2 q1 hEq1 hcq1 hW hS => ?_)
  replace hF := hF.ext0 hEq1
  replace hX := hX.tr hEq1
  refine lv_astore_n (lv' := [(2, .ref q1), (1, .int 0), (0, .ref (A 0))]) hx hb dX11_sounding_9 rfl hl (by decide) rfl (fun ls hl => ?_)
  refine lv_aload_n hx hb dX11_sounding_10 rfl (lv_at hl 0 rfl) ?_
  refine fm_hn (rest := []) hA hx hb hml hown hSW hS hW hcq1 (hF.2.1 3 (by decide)) mh_X11_142 ⟨Nat.le_of_ble_eq_true rfl, Nat.le_of_ble_eq_true rfl⟩ hl.1 (Nat.le_of_ble_eq_true rfl) dX11_sounding_11 ⟨Nat.le_of_ble_eq_true rfl, Nat.le_of_ble_eq_true rfl⟩ (fun H locs hW hS => ?_)
  refine lv_if_eq (tgt := 48) hx hb dX11_sounding_16 (by decide) (fun _ => ?_) (fun hc => absurd (by decide) hc)
  refine lv_iload_n hx hb dX11_sounding_48 rfl (lv_at hl 1 rfl) ?_
  refine W.widen (k := 1) (n := 4) (Nat.le_of_ble_eq_true rfl) (Nat.le_of_ble_eq_true rfl) ?_
  exact fm_iq hx hb hr rfl hlocks hW hX hS dX11_sounding_49 h
-- tone
def g_X11_tone (M : St) : Option Int32 :=
  ob (g_X11_sounding M) fun r4 =>
  if r4 = 0 then
    some 0
  else
    ob (g_X11_sounding M) fun r8 =>
    none
set_option maxRecDepth 100000 in
set_option maxHeartbeats 4000000 in
theorem m_X11_tone (l : Launch) (z : Zt) (ad : Ad) (G : Gt) (hA : Raw ad) (A : Nat → Nat) (M : St) (hF : FM z G A M) {r9 : Int32} (h : g_X11_tone M = some r9) : MC l z yX11_tone cX11_tone 4 (some .int) { frames := 4, cells := 3, slots := 12, locals := 104 } 3 12 [.ref (A 0)] ad G (PQi z ad G r9) := by
  refine Met.ofW (cc := cX11_tone) (maxL := 4) (ret := (some .int)) (by decide) rfl ?_
  intro p e s m args below meth c s₁ B hml hv
  obtain ⟨rfl, hSW, hW⟩ := hv
  have hx := B.exec; have hb := B.bytes; have hr := B.returns; have hlocks := B.notSynchronized
  have hown : s.vm.findClass RX11 = some m.cls := findClass_of_methodNamed B.named
  obtain ⟨hT, hK, hST, hB0⟩ := id hSW
  have hS : va_S (zA z) s.heap s.heap [] := va_S.rf
  have hl := lv_entry ([.ref (A 0)]) (n := 4) (Nat.le_of_ble_eq_true rfl)
  rw [lg_entry_eq]
  generalize (lg_sl ([.ref (A 0)]) ++ List.replicate (4 - (lg_sl ([.ref (A 0)])).length) Slot.unset).toArray = ls at hl ⊢
  have hl : lv_has ls 4 [(0, .ref (A 0))] := hl
  have hX : Ext0 G G := Ext0.re
  unfold g_X11_tone at h
  refine lv_iconst (v := 0) hx hb dX11_tone_0 (by decide) ?_
  refine lv_istore_n (lv' := [(1, .int 0), (0, .ref (A 0))]) hx hb dX11_tone_1 rfl hl (by decide) rfl (fun ls hl => ?_)
  refine lv_aload_n hx hb dX11_tone_2 rfl (lv_at hl 1 rfl) ?_
  refine nb_getr hA hx hb hT hK hown hW fl_X11_31 hF.1 (v := .ref (A 4)) rfl dX11_tone_3 ?_
  refine fm_cr (nb_runVr (As := []) (rest := []) hA hx hb hml hown hSW hS hW (m_iterator l z ad _ hA (A 4) (hF.2.1 3 (by decide))) mf_Jx4a65c_iterator_32c93 lk_X11_138 (hF.2.1 3 (by decide)) rfl rfl ⟨rfl, rfl⟩ ⟨Nat.le_of_ble_eq_true rfl, Nat.le_of_ble_eq_true rfl⟩ hl.1 (Nat.le_of_ble_eq_true rfl) dX11_tone_6 ⟨Nat.le_of_ble_eq_true rfl, Nat.le_of_ble_eq_true rfl⟩) hS (fun H locs G2 q1 hEq1 hcq1 hW hS => ?_)
  replace hF := hF.ext0 hEq1
  replace hX := hX.tr hEq1
  refine lv_astore_n (lv' := [(2, .ref q1), (1, .int 0), (0, .ref (A 0))]) hx hb dX11_tone_9 rfl hl (by decide) rfl (fun ls hl => ?_)
  refine lv_aload_n hx hb dX11_tone_10 rfl (lv_at hl 0 rfl) ?_
  refine fm_hn (rest := []) hA hx hb hml hown hSW hS hW hcq1 (hF.2.1 3 (by decide)) mh_X11_142 ⟨Nat.le_of_ble_eq_true rfl, Nat.le_of_ble_eq_true rfl⟩ hl.1 (Nat.le_of_ble_eq_true rfl) dX11_tone_11 ⟨Nat.le_of_ble_eq_true rfl, Nat.le_of_ble_eq_true rfl⟩ (fun H locs hW hS => ?_)
  refine lv_if_eq (tgt := 64) hx hb dX11_tone_16 (by decide) (fun _ => ?_) (fun hc => absurd (by decide) hc)
  refine lv_aload_n hx hb dX11_tone_64 rfl (lv_at hl 2 rfl) ?_
  obtain ⟨r4, h3, h⟩ := ob_s h
  refine fm_ci (nb_runVr (As := []) (rest := []) hA hx hb hml hown hSW hS hW (m_X11_sounding l z ad _ hA A M hF h3) mf_X11_sounding lk_X11_223 hF.1 rfl rfl ⟨rfl, rfl⟩ ⟨Nat.le_of_ble_eq_true rfl, Nat.le_of_ble_eq_true rfl⟩ hl.1 (Nat.le_of_ble_eq_true rfl) dX11_tone_65 ⟨Nat.le_of_ble_eq_true rfl, Nat.le_of_ble_eq_true rfl⟩) hS (fun H locs G5 hEG5 hW hS => ?_)
  replace hF := hF.ext0 hEG5
  replace hX := hX.tr hEG5
  replace hcq1 := hEG5 _ _ _ hcq1
  refine lv_if_ne (tgt := 75) hx hb dX11_tone_68 (by decide) (fun c6 => ?_) (fun c6 => ?_)
  · replace h := ite_f h c6
    refine lv_bipush (v := 12) hx hb dX11_tone_75 (by decide) ?_
    refine lv_iload_n hx hb dX11_tone_77 rfl (lv_at hl 1 rfl) ?_
    refine lv_imul hx hb dX11_tone_78 ?_
    refine lv_topc (v := 0) (by decide) ?_
    refine lv_aload_n hx hb dX11_tone_79 rfl (lv_at hl 2 rfl) ?_
    obtain ⟨r8, h7, h⟩ := ob_s h
    refine fm_ci (nb_runVr (As := []) (rest := [.int 0]) hA hx hb hml hown hSW hS hW (m_X11_sounding l z ad _ hA A M hF h7) mf_X11_sounding lk_X11_223 hF.1 rfl rfl ⟨rfl, rfl⟩ ⟨Nat.le_of_ble_eq_true rfl, Nat.le_of_ble_eq_true rfl⟩ hl.1 (Nat.le_of_ble_eq_true rfl) dX11_tone_80 ⟨Nat.le_of_ble_eq_true rfl, Nat.le_of_ble_eq_true rfl⟩) hS (fun H locs G09 hEG09 hW hS => ?_)
    replace hF := hF.ext0 hEG09
    replace hX := hX.tr hEG09
    replace hcq1 := hEG09 _ _ _ hcq1
    exact absurd h (by intro q; cases q)
  · replace h := ite_t h c6
    refine lv_iconst (v := 0) hx hb dX11_tone_71 (by decide) ?_
    refine lv_goto (tgt := 84) hx hb dX11_tone_72 (by decide) ?_
    refine W.widen (k := 3) (n := 12) (Nat.le_of_ble_eq_true rfl) (Nat.le_of_ble_eq_true rfl) ?_
    exact fm_iq hx hb hr rfl hlocks hW hX hS dX11_tone_84 h
-- arrangement
def g_X11_arrangement (M : St) : Option Int32 :=
  ob (g_X11_held 0 0 100) fun r2 =>
  some r2
set_option maxRecDepth 100000 in
set_option maxHeartbeats 4000000 in
theorem m_X11_arrangement (l : Launch) (z : Zt) (ad : Ad) (G : Gt) (hA : Raw ad) (A : Nat → Nat) (M : St) (hF : FM z G A M) (b1 : Nat) (hb1 : G 99 b1 = some (.inl (z.2.2 0, 0, .inl (fun _ => 0)))) {r9 : Int32} (h : g_X11_arrangement M = some r9) : MC l z yX11_arrangement cX11_arrangement 5 (some .int) { frames := 2, cells := 0, slots := 0, locals := 43 } 0 0 [.ref (A 0), .ref b1] ad G (PQi z ad G r9) := by
  refine Met.ofW (cc := cX11_arrangement) (maxL := 5) (ret := (some .int)) (by decide) rfl ?_
  intro p e s m args below meth c s₁ B hml hv
  obtain ⟨rfl, hSW, hW⟩ := hv
  have hx := B.exec; have hb := B.bytes; have hr := B.returns; have hlocks := B.notSynchronized
  have hown : s.vm.findClass RX11 = some m.cls := findClass_of_methodNamed B.named
  obtain ⟨hT, hK, hST, hB0⟩ := id hSW
  have hS : va_S (zA z) s.heap s.heap [] := va_S.rf
  have hl := lv_entry ([.ref (A 0), .ref b1]) (n := 5) (Nat.le_of_ble_eq_true rfl)
  rw [lg_entry_eq]
  generalize (lg_sl ([.ref (A 0), .ref b1]) ++ List.replicate (5 - (lg_sl ([.ref (A 0), .ref b1])).length) Slot.unset).toArray = ls at hl ⊢
  have hl : lv_has ls 5 [(0, .ref (A 0)), (1, .ref b1)] := hl
  have hX : Ext0 G G := Ext0.re
  unfold g_X11_arrangement at h
  refine lv_iconst (v := 0) hx hb dX11_arrangement_0 (by decide) ?_
  refine lv_istore_n (lv' := [(2, .int 0), (0, .ref (A 0)), (1, .ref b1)]) hx hb dX11_arrangement_1 rfl hl (by decide) rfl (fun ls hl => ?_)
  refine lv_iconst (v := 0) hx hb dX11_arrangement_2 (by decide) ?_
  refine lv_istore_n (lv' := [(3, .int 0), (2, .int 0), (0, .ref (A 0)), (1, .ref b1)]) hx hb dX11_arrangement_3 rfl hl (by decide) rfl (fun ls hl => ?_)
  refine lv_iconst (v := 0) hx hb dX11_arrangement_4 (by decide) ?_
  refine lv_istore (lv' := [(4, .int 0), (3, .int 0), (2, .int 0), (0, .ref (A 0)), (1, .ref b1)]) hx hb dX11_arrangement_5 hl (by decide) rfl (fun ls hl => ?_)
  refine lv_iload hx hb dX11_arrangement_7 (lv_at hl 0 rfl) ?_
  refine lv_aload_n hx hb dX11_arrangement_9 rfl (lv_at hl 4 rfl) ?_
  refine nb_alenr hA hx hb hK hW 0 hb1 rfl (v := 0) rfl dX11_arrangement_10 ?_
  refine lv_icmp_ge (tgt := 83) hx hb dX11_arrangement_11 (by decide) (fun _ => ?_) (fun hc => absurd (by decide) hc)
  refine lv_iload_n hx hb dX11_arrangement_83 rfl (lv_at hl 2 rfl) ?_
  refine lv_iconst (v := 0) hx hb dX11_arrangement_84 (by decide) ?_
  refine lv_bipush (v := 100) hx hb dX11_arrangement_85 (by decide) ?_
  obtain ⟨r2, h1, h⟩ := ob_s h
  refine nb_ci (nb_runS (As := [.int 0, .int 0, .int 100]) (rest := []) hx hb hml hown hSW hS hW (m_X11_held l z ad _ hA 0 0 100 h1) mf_X11_held lk_X11_248 rfl ⟨rfl, rfl⟩ ⟨Nat.le_of_ble_eq_true rfl, Nat.le_of_ble_eq_true rfl⟩ hl.1 (Nat.le_of_ble_eq_true rfl) dX11_arrangement_87 ⟨Nat.le_of_ble_eq_true rfl, Nat.le_of_ble_eq_true rfl⟩) hS (fun H locs hW hS => ?_)
  refine W.widen (k := 0) (n := 0) (Nat.le_of_ble_eq_true rfl) (Nat.le_of_ble_eq_true rfl) ?_
  exact fm_iq hx hb hr rfl hlocks hW hX hS dX11_arrangement_90 h
-- mark
def g_X11_mark (M : St) (x1 : Int32) : Option Int32 :=
  if x1 = 1 then
    ob (g_X11_tone M) fun r7 =>
    some r7
  else
    if x1 = 2 then
      ob (g_X11_arrangement M) fun r4 =>
      some r4
    else
      some 0
set_option maxRecDepth 100000 in
set_option maxHeartbeats 4000000 in
theorem m_X11_mark (l : Launch) (z : Zt) (ad : Ad) (G : Gt) (hA : Raw ad) (A : Nat → Nat) (M : St) (hF : FM z G A M) (x1 : Int32) (b2 : Nat) (hb2 : G 99 b2 = some (.inl (z.2.2 0, 0, .inl (fun _ => 0)))) {r9 : Int32} (h : g_X11_mark M x1 = some r9) : MC l z yX11_mark cX11_mark 7 (some .int) { frames := 5, cells := 3, slots := 12, locals := 127 } 3 12 [.ref (A 0), .int x1, .ref b2] ad G (PQi z ad G r9) := by
  refine Met.ofW (cc := cX11_mark) (maxL := 7) (ret := (some .int)) (by decide) rfl ?_
  intro p e s m args below meth c s₁ B hml hv
  obtain ⟨rfl, hSW, hW⟩ := hv
  have hx := B.exec; have hb := B.bytes; have hr := B.returns; have hlocks := B.notSynchronized
  have hown : s.vm.findClass RX11 = some m.cls := findClass_of_methodNamed B.named
  obtain ⟨hT, hK, hST, hB0⟩ := id hSW
  have hS : va_S (zA z) s.heap s.heap [] := va_S.rf
  have hl := lv_entry ([.ref (A 0), .int x1, .ref b2]) (n := 7) (Nat.le_of_ble_eq_true rfl)
  rw [lg_entry_eq]
  generalize (lg_sl ([.ref (A 0), .int x1, .ref b2]) ++ List.replicate (7 - (lg_sl ([.ref (A 0), .int x1, .ref b2])).length) Slot.unset).toArray = ls at hl ⊢
  have hl : lv_has ls 7 [(0, .ref (A 0)), (1, .int x1), (2, .ref b2)] := hl
  have hX : Ext0 G G := Ext0.re
  unfold g_X11_mark at h
  refine lv_iload_n hx hb dX11_mark_0 rfl (lv_at hl 1 rfl) ?_
  refine lv_iconst (v := 1) hx hb dX11_mark_1 (by decide) ?_
  refine lv_icmp_ne (tgt := 10) hx hb dX11_mark_2 (by decide) (fun c1 => ?_) (fun c1 => ?_)
  · replace h := ite_f h c1
    refine lv_iload_n hx hb dX11_mark_10 rfl (lv_at hl 1 rfl) ?_
    refine lv_iconst (v := 2) hx hb dX11_mark_11 (by decide) ?_
    refine lv_icmp_ne (tgt := 21) hx hb dX11_mark_12 (by decide) (fun c2 => ?_) (fun c2 => ?_)
    · replace h := ite_f h c2
      refine lv_iconst (v := 0) hx hb dX11_mark_21 (by decide) ?_
      refine lv_istore_n (lv' := [(3, .int 0), (0, .ref (A 0)), (1, .int x1), (2, .ref b2)]) hx hb dX11_mark_22 rfl hl (by decide) rfl (fun ls hl => ?_)
      refine lv_sipush (v := 400) hx hb dX11_mark_23 (by decide) ?_
      refine lv_istore (lv' := [(4, .int 400), (3, .int 0), (0, .ref (A 0)), (1, .int x1), (2, .ref b2)]) hx hb dX11_mark_26 hl (by decide) rfl (fun ls hl => ?_)
      refine lv_iconst (v := 0) hx hb dX11_mark_28 (by decide) ?_
      refine lv_istore (lv' := [(5, .int 0), (4, .int 400), (3, .int 0), (0, .ref (A 0)), (1, .int x1), (2, .ref b2)]) hx hb dX11_mark_29 hl (by decide) rfl (fun ls hl => ?_)
      refine lv_iload hx hb dX11_mark_31 (lv_at hl 0 rfl) ?_
      refine lv_aload_n hx hb dX11_mark_33 rfl (lv_at hl 5 rfl) ?_
      refine nb_alenr hA hx hb hK hW 0 hb2 rfl (v := 0) rfl dX11_mark_34 ?_
      refine lv_icmp_ge (tgt := 70) hx hb dX11_mark_35 (by decide) (fun _ => ?_) (fun hc => absurd (by decide) hc)
      refine lv_aload_n hx hb dX11_mark_70 rfl (lv_at hl 5 rfl) ?_
      refine nb_alenr hA hx hb hK hW 0 hb2 rfl (v := 0) rfl dX11_mark_71 ?_
      refine lv_if_ne (tgt := 77) hx hb dX11_mark_72 (by decide) (fun hc => absurd (by decide) hc) (fun _ => ?_)
      refine lv_iconst (v := 0) hx hb dX11_mark_75 (by decide) ?_
      refine W.widen (k := 3) (n := 12) (Nat.le_of_ble_eq_true rfl) (Nat.le_of_ble_eq_true rfl) ?_
      exact fm_iq hx hb hr rfl hlocks hW hX hS dX11_mark_76 h
    · replace h := ite_t h c2
      refine lv_aload_n hx hb dX11_mark_15 rfl (lv_at hl 0 rfl) ?_
      refine lv_aload_n hx hb dX11_mark_16 rfl (lv_at hl 2 rfl) ?_
      obtain ⟨r4, h3, h⟩ := ob_s h
      refine fm_ci (nb_runVr (As := [.ref b2]) (rest := []) hA hx hb hml hown hSW hS hW (m_X11_arrangement l z ad _ hA A M hF b2 hb2 h3) mf_X11_arrangement lk_X11_255 hF.1 rfl rfl ⟨rfl, rfl⟩ ⟨Nat.le_of_ble_eq_true rfl, Nat.le_of_ble_eq_true rfl⟩ hl.1 (Nat.le_of_ble_eq_true rfl) dX11_mark_17 ⟨Nat.le_of_ble_eq_true rfl, Nat.le_of_ble_eq_true rfl⟩) hS (fun H locs G5 hEG5 hW hS => ?_)
      replace hF := hF.ext0 hEG5
      replace hX := hX.tr hEG5
      replace hb2 := hEG5 _ _ _ hb2
      refine W.widen (k := 3) (n := 12) (Nat.le_of_ble_eq_true rfl) (Nat.le_of_ble_eq_true rfl) ?_
      exact fm_iq hx hb hr rfl hlocks hW hX hS dX11_mark_20 h
  · replace h := ite_t h c1
    refine lv_aload_n hx hb dX11_mark_5 rfl (lv_at hl 0 rfl) ?_
    obtain ⟨r7, h6, h⟩ := ob_s h
    refine fm_ci (nb_runVr (As := []) (rest := []) hA hx hb hml hown hSW hS hW (m_X11_tone l z ad _ hA A M hF h6) mf_X11_tone lk_X11_252 hF.1 rfl rfl ⟨rfl, rfl⟩ ⟨Nat.le_of_ble_eq_true rfl, Nat.le_of_ble_eq_true rfl⟩ hl.1 (Nat.le_of_ble_eq_true rfl) dX11_mark_6 ⟨Nat.le_of_ble_eq_true rfl, Nat.le_of_ble_eq_true rfl⟩) hS (fun H locs G8 hEG8 hW hS => ?_)
    replace hF := hF.ext0 hEG8
    replace hX := hX.tr hEG8
    replace hb2 := hEG8 _ _ _ hb2
    refine W.widen (k := 3) (n := 12) (Nat.le_of_ble_eq_true rfl) (Nat.le_of_ble_eq_true rfl) ?_
    exact fm_iq hx hb hr rfl hlocks hW hX hS dX11_mark_9 h
-- total
def g_X11_total (M : St) : Option Int32 :=
  ob (g_X11_mark M 0) fun r2 =>
  ob (g_X11_mark M 1) fun r5 =>
  ob (g_X11_mark M 2) fun r8 =>
  ob (g_X11_mark M 3) fun r11 =>
  some (((r2 + r5) + r8) + r11)
set_option maxRecDepth 100000 in
set_option maxHeartbeats 4000000 in
theorem m_X11_total (l : Launch) (z : Zt) (ad : Ad) (G : Gt) (hA : Raw ad) (A : Nat → Nat) (M : St) (hF : FM z G A M) (b1 : Nat) (hb1 : G 99 b1 = some (.inl (z.2.2 0, 0, .inl (fun _ => 0)))) {r9 : Int32} (h : g_X11_total M = some r9) : MC l z yX11_total cX11_total 2 (some .int) { frames := 6, cells := 12, slots := 48, locals := 153 } 12 48 [.ref (A 0), .ref b1] ad G (PQi z ad G r9) := by
  refine Met.ofW (cc := cX11_total) (maxL := 2) (ret := (some .int)) (by decide) rfl ?_
  intro p e s m args below meth c s₁ B hml hv
  obtain ⟨rfl, hSW, hW⟩ := hv
  have hx := B.exec; have hb := B.bytes; have hr := B.returns; have hlocks := B.notSynchronized
  have hown : s.vm.findClass RX11 = some m.cls := findClass_of_methodNamed B.named
  obtain ⟨hT, hK, hST, hB0⟩ := id hSW
  have hS : va_S (zA z) s.heap s.heap [] := va_S.rf
  have hl := lv_entry ([.ref (A 0), .ref b1]) (n := 2) (Nat.le_of_ble_eq_true rfl)
  rw [lg_entry_eq]
  generalize (lg_sl ([.ref (A 0), .ref b1]) ++ List.replicate (2 - (lg_sl ([.ref (A 0), .ref b1])).length) Slot.unset).toArray = ls at hl ⊢
  have hl : lv_has ls 2 [(0, .ref (A 0)), (1, .ref b1)] := hl
  have hX : Ext0 G G := Ext0.re
  unfold g_X11_total at h
  refine lv_aload_n hx hb dX11_total_0 rfl (lv_at hl 0 rfl) ?_
  refine lv_iconst (v := 0) hx hb dX11_total_1 (by decide) ?_
  refine lv_aload_n hx hb dX11_total_2 rfl (lv_at hl 1 rfl) ?_
  obtain ⟨r2, h1, h⟩ := ob_s h
  refine fm_ci (nb_runVr (As := [.int 0, .ref b1]) (rest := []) hA hx hb hml hown hSW hS hW (m_X11_mark l z ad _ hA A M hF 0 b1 hb1 h1) mf_X11_mark lk_X11_262 hF.1 rfl rfl ⟨rfl, rfl⟩ ⟨Nat.le_of_ble_eq_true rfl, Nat.le_of_ble_eq_true rfl⟩ hl.1 (Nat.le_of_ble_eq_true rfl) dX11_total_3 ⟨Nat.le_of_ble_eq_true rfl, Nat.le_of_ble_eq_true rfl⟩) hS (fun H locs G3 hEG3 hW hS => ?_)
  replace hF := hF.ext0 hEG3
  replace hX := hX.tr hEG3
  replace hb1 := hEG3 _ _ _ hb1
  refine lv_aload_n hx hb dX11_total_6 rfl (lv_at hl 0 rfl) ?_
  refine lv_iconst (v := 1) hx hb dX11_total_7 (by decide) ?_
  refine lv_aload_n hx hb dX11_total_8 rfl (lv_at hl 1 rfl) ?_
  obtain ⟨r5, h4, h⟩ := ob_s h
  refine fm_ci (nb_runVr (As := [.int 1, .ref b1]) (rest := [.int r2]) hA hx hb hml hown hSW hS hW (m_X11_mark l z ad _ hA A M hF 1 b1 hb1 h4) mf_X11_mark lk_X11_262 hF.1 rfl rfl ⟨rfl, rfl⟩ ⟨Nat.le_of_ble_eq_true rfl, Nat.le_of_ble_eq_true rfl⟩ hl.1 (Nat.le_of_ble_eq_true rfl) dX11_total_9 ⟨Nat.le_of_ble_eq_true rfl, Nat.le_of_ble_eq_true rfl⟩) hS (fun H locs G6 hEG6 hW hS => ?_)
  replace hF := hF.ext0 hEG6
  replace hX := hX.tr hEG6
  replace hb1 := hEG6 _ _ _ hb1
  refine lv_iadd hx hb dX11_total_12 ?_
  refine lv_aload_n hx hb dX11_total_13 rfl (lv_at hl 0 rfl) ?_
  refine lv_iconst (v := 2) hx hb dX11_total_14 (by decide) ?_
  refine lv_aload_n hx hb dX11_total_15 rfl (lv_at hl 1 rfl) ?_
  obtain ⟨r8, h7, h⟩ := ob_s h
  refine fm_ci (nb_runVr (As := [.int 2, .ref b1]) (rest := [.int (r2 + r5)]) hA hx hb hml hown hSW hS hW (m_X11_mark l z ad _ hA A M hF 2 b1 hb1 h7) mf_X11_mark lk_X11_262 hF.1 rfl rfl ⟨rfl, rfl⟩ ⟨Nat.le_of_ble_eq_true rfl, Nat.le_of_ble_eq_true rfl⟩ hl.1 (Nat.le_of_ble_eq_true rfl) dX11_total_16 ⟨Nat.le_of_ble_eq_true rfl, Nat.le_of_ble_eq_true rfl⟩) hS (fun H locs G09 hEG09 hW hS => ?_)
  replace hF := hF.ext0 hEG09
  replace hX := hX.tr hEG09
  replace hb1 := hEG09 _ _ _ hb1
  refine lv_iadd hx hb dX11_total_19 ?_
  refine lv_aload_n hx hb dX11_total_20 rfl (lv_at hl 0 rfl) ?_
  refine lv_iconst (v := 3) hx hb dX11_total_21 (by decide) ?_
  refine lv_aload_n hx hb dX11_total_22 rfl (lv_at hl 1 rfl) ?_
  obtain ⟨r11, h10, h⟩ := ob_s h
  refine fm_ci (nb_runVr (As := [.int 3, .ref b1]) (rest := [.int ((r2 + r5) + r8)]) hA hx hb hml hown hSW hS hW (m_X11_mark l z ad _ hA A M hF 3 b1 hb1 h10) mf_X11_mark lk_X11_262 hF.1 rfl rfl ⟨rfl, rfl⟩ ⟨Nat.le_of_ble_eq_true rfl, Nat.le_of_ble_eq_true rfl⟩ hl.1 (Nat.le_of_ble_eq_true rfl) dX11_total_23 ⟨Nat.le_of_ble_eq_true rfl, Nat.le_of_ble_eq_true rfl⟩) hS (fun H locs G12 hEG12 hW hS => ?_)
  replace hF := hF.ext0 hEG12
  replace hX := hX.tr hEG12
  replace hb1 := hEG12 _ _ _ hb1
  refine lv_iadd hx hb dX11_total_26 ?_
  refine W.widen (k := 12) (n := 48) (Nat.le_of_ble_eq_true rfl) (Nat.le_of_ble_eq_true rfl) ?_
  exact fm_iq hx hb hr rfl hlocks hW hX hS dX11_total_27 h
-- row
def g_X11_row (M : St) : Option Unit :=
  some ()
set_option maxRecDepth 100000 in
set_option maxHeartbeats 4000000 in
theorem m_X11_row (l : Launch) (z : Zt) (ad : Ad) (G : Gt) (hA : Raw ad) (A : Nat → Nat) (M : St) (hF : FM z G A M) {r9 : Unit} (h : g_X11_row M = some r9) : MC l z yX11_row cX11_row 3 (some (.array .int)) { frames := 2, cells := 1, slots := 0, locals := 81 } 1 0 [.ref (A 0)] ad G (PQr z ad G (.inl (z.2.2 0, 0, .inl (fun _ => 0)))) := by
  refine Met.ofW (cc := cX11_row) (maxL := 3) (ret := (some (.array .int))) (by decide) rfl ?_
  intro p e s m args below meth c s₁ B hml hv
  obtain ⟨rfl, hSW, hW⟩ := hv
  have hx := B.exec; have hb := B.bytes; have hr := B.returns; have hlocks := B.notSynchronized
  have hown : s.vm.findClass RX11 = some m.cls := findClass_of_methodNamed B.named
  obtain ⟨hT, hK, hST, hB0⟩ := id hSW
  have hS : va_S (zA z) s.heap s.heap [] := va_S.rf
  have hl := lv_entry ([.ref (A 0)]) (n := 3) (Nat.le_of_ble_eq_true rfl)
  rw [lg_entry_eq]
  generalize (lg_sl ([.ref (A 0)]) ++ List.replicate (3 - (lg_sl ([.ref (A 0)])).length) Slot.unset).toArray = ls at hl ⊢
  have hl : lv_has ls 3 [(0, .ref (A 0))] := hl
  have hX : Ext0 G G := Ext0.re
  unfold g_X11_row at h
  refine lv_aload_n hx hb dX11_row_0 rfl (lv_at hl 0 rfl) ?_
  refine nb_getr hA hx hb hT hK hown hW fl_X11_28 hF.1 (v := .ref (A 3)) rfl dX11_row_1 ?_
  refine nb_ci (nb_runVr (As := []) (rest := []) hA hx hb hml hown hSW hS hW (m_size l z ad _ hA (A 3) (hF.2.1 2 (by decide))) mf_Jx4a65c_size_8abf5 lk_X11_67 (hF.2.1 2 (by decide)) rfl rfl ⟨rfl, rfl⟩ ⟨Nat.le_of_ble_eq_true rfl, Nat.le_of_ble_eq_true rfl⟩ hl.1 (Nat.le_of_ble_eq_true rfl) dX11_row_4 ⟨Nat.le_of_ble_eq_true rfl, Nat.le_of_ble_eq_true rfl⟩) hS (fun H locs hW hS => ?_)
  refine nb_newi hx hb hSW hA hW hS wd_arrI (by decide) (N' := 0) (by decide) (by decide) ⟨Nat.le_of_ble_eq_true rfl, Nat.le_of_ble_eq_true rfl⟩ dX11_row_7 (fun q1 H G2 hnq1 hEq1 hcq1 hW hS => ?_)
  replace hF := hF.ext0 hEq1
  replace hX := hX.tr hEq1
  refine lv_astore_n (lv' := [(1, .ref q1), (0, .ref (A 0))]) hx hb dX11_row_9 rfl hl (by decide) rfl (fun ls hl => ?_)
  refine lv_iconst (v := 0) hx hb dX11_row_10 (by decide) ?_
  refine lv_istore_n (lv' := [(2, .int 0), (1, .ref q1), (0, .ref (A 0))]) hx hb dX11_row_11 rfl hl (by decide) rfl (fun ls hl => ?_)
  refine lv_iload_n hx hb dX11_row_12 rfl (lv_at hl 0 rfl) ?_
  refine lv_aload_n hx hb dX11_row_13 rfl (lv_at hl 1 rfl) ?_
  refine nb_alenr hA hx hb hK hW 0 hcq1 rfl (v := 0) rfl dX11_row_14 ?_
  refine lv_icmp_ge (tgt := 41) hx hb dX11_row_15 (by decide) (fun _ => ?_) (fun hc => absurd (by decide) hc)
  refine lv_aload_n hx hb dX11_row_41 rfl (lv_at hl 1 rfl) ?_
  refine W.widen (k := 1) (n := 0) (Nat.le_of_ble_eq_true rfl) (Nat.le_of_ble_eq_true rfl) ?_
  exact fm_rq hx hb hr (Or.inr ⟨_, rfl⟩) hlocks hW hX hcq1 hS dX11_row_42
-- score
def g_X11_score (M : St) : Option Int32 :=
  ob (g_X11_row M) fun _ =>
  ob (g_X11_total M) fun r6 =>
  some ((r6 - 0) - 0)
set_option maxRecDepth 100000 in
set_option maxHeartbeats 4000000 in
theorem m_X11_score (l : Launch) (z : Zt) (ad : Ad) (G : Gt) (hA : Raw ad) (A : Nat → Nat) (M : St) (hF : FM z G A M) {r9 : Int32} (h : g_X11_score M = some r9) : MC l z yX11_score cX11_score 3 (some .int) { frames := 7, cells := 13, slots := 48, locals := 174 } 13 48 [.ref (A 0)] ad G (PQi z ad G r9) := by
  refine Met.ofW (cc := cX11_score) (maxL := 3) (ret := (some .int)) (by decide) rfl ?_
  intro p e s m args below meth c s₁ B hml hv
  obtain ⟨rfl, hSW, hW⟩ := hv
  have hx := B.exec; have hb := B.bytes; have hr := B.returns; have hlocks := B.notSynchronized
  have hown : s.vm.findClass RX11 = some m.cls := findClass_of_methodNamed B.named
  obtain ⟨hT, hK, hST, hB0⟩ := id hSW
  have hS : va_S (zA z) s.heap s.heap [] := va_S.rf
  have hl := lv_entry ([.ref (A 0)]) (n := 3) (Nat.le_of_ble_eq_true rfl)
  rw [lg_entry_eq]
  generalize (lg_sl ([.ref (A 0)]) ++ List.replicate (3 - (lg_sl ([.ref (A 0)])).length) Slot.unset).toArray = ls at hl ⊢
  have hl : lv_has ls 3 [(0, .ref (A 0))] := hl
  have hX : Ext0 G G := Ext0.re
  unfold g_X11_score at h
  refine lv_aload_n hx hb dX11_score_0 rfl (lv_at hl 0 rfl) ?_
  refine nb_getr hA hx hb hT hK hown hW fl_X11_41 hF.1 (v := .ref (A 7)) rfl dX11_score_1 ?_
  refine lv_iconst (v := 0) hx hb dX11_score_4 (by decide) ?_
  refine nb_iald_r hA hx hb hK hW 0 hF.2.2.2.1 rfl (inb_in (by decide)) dX11_score_5 ?_
  refine lv_aload_n hx hb dX11_score_6 rfl (lv_at hl 0 rfl) ?_
  refine nb_getr hA hx hb hT hK hown hW fl_X11_41 hF.1 (v := .ref (A 7)) rfl dX11_score_7 ?_
  refine lv_iconst (v := 1) hx hb dX11_score_10 (by decide) ?_
  refine nb_iald_r hA hx hb hK hW 0 hF.2.2.2.1 rfl (inb_in (by decide)) dX11_score_11 ?_
  refine lv_aload_n hx hb dX11_score_12 rfl (lv_at hl 0 rfl) ?_
  refine nb_getr hA hx hb hT hK hown hW fl_X11_41 hF.1 (v := .ref (A 7)) rfl dX11_score_13 ?_
  refine lv_iconst (v := 2) hx hb dX11_score_16 (by decide) ?_
  refine nb_iald_r hA hx hb hK hW 0 hF.2.2.2.1 rfl (inb_in (by decide)) dX11_score_17 ?_
  refine nb_mmin hx hb hml hl.1 hown hT lm_X11_1 mf_Math_min ⟨Nat.le_of_ble_eq_true rfl, Nat.le_of_ble_eq_true rfl⟩ ⟨Nat.le_of_ble_eq_true rfl, Nat.le_of_ble_eq_true rfl⟩ dX11_score_18 ?_
  refine lv_topc (v := 0) (by decide) ?_
  refine nb_mmin hx hb hml hl.1 hown hT lm_X11_1 mf_Math_min ⟨Nat.le_of_ble_eq_true rfl, Nat.le_of_ble_eq_true rfl⟩ ⟨Nat.le_of_ble_eq_true rfl, Nat.le_of_ble_eq_true rfl⟩ dX11_score_21 ?_
  refine lv_topc (v := 0) (by decide) ?_
  refine lv_istore_n (lv' := [(1, .int 0), (0, .ref (A 0))]) hx hb dX11_score_24 rfl hl (by decide) rfl (fun ls hl => ?_)
  refine lv_aload_n hx hb dX11_score_25 rfl (lv_at hl 1 rfl) ?_
  refine nb_getr hA hx hb hT hK hown hW fl_X11_41 hF.1 (v := .ref (A 7)) rfl dX11_score_26 ?_
  refine lv_iconst (v := 0) hx hb dX11_score_29 (by decide) ?_
  refine nb_iald_r hA hx hb hK hW 0 hF.2.2.2.1 rfl (inb_in (by decide)) dX11_score_30 ?_
  refine lv_aload_n hx hb dX11_score_31 rfl (lv_at hl 1 rfl) ?_
  refine nb_getr hA hx hb hT hK hown hW fl_X11_41 hF.1 (v := .ref (A 7)) rfl dX11_score_32 ?_
  refine lv_iconst (v := 1) hx hb dX11_score_35 (by decide) ?_
  refine nb_iald_r hA hx hb hK hW 0 hF.2.2.2.1 rfl (inb_in (by decide)) dX11_score_36 ?_
  refine lv_aload_n hx hb dX11_score_37 rfl (lv_at hl 1 rfl) ?_
  refine nb_getr hA hx hb hT hK hown hW fl_X11_41 hF.1 (v := .ref (A 7)) rfl dX11_score_38 ?_
  refine lv_iconst (v := 2) hx hb dX11_score_41 (by decide) ?_
  refine nb_iald_r hA hx hb hK hW 0 hF.2.2.2.1 rfl (inb_in (by decide)) dX11_score_42 ?_
  refine nb_mmax hx hb hml hl.1 hown hT lm_X11_7 mf_Math_max ⟨Nat.le_of_ble_eq_true rfl, Nat.le_of_ble_eq_true rfl⟩ ⟨Nat.le_of_ble_eq_true rfl, Nat.le_of_ble_eq_true rfl⟩ dX11_score_43 ?_
  refine lv_topc (v := 0) (by decide) ?_
  refine nb_mmax hx hb hml hl.1 hown hT lm_X11_7 mf_Math_max ⟨Nat.le_of_ble_eq_true rfl, Nat.le_of_ble_eq_true rfl⟩ ⟨Nat.le_of_ble_eq_true rfl, Nat.le_of_ble_eq_true rfl⟩ dX11_score_46 ?_
  refine lv_topc (v := 0) (by decide) ?_
  refine lv_istore_n (lv' := [(2, .int 0), (1, .int 0), (0, .ref (A 0))]) hx hb dX11_score_49 rfl hl (by decide) rfl (fun ls hl => ?_)
  refine lv_aload_n hx hb dX11_score_50 rfl (lv_at hl 2 rfl) ?_
  refine lv_aload_n hx hb dX11_score_51 rfl (lv_at hl 2 rfl) ?_
  obtain ⟨_, h1, h⟩ := ob_s h
  refine fm_cr (nb_runVr (As := []) (rest := [.ref (A 0)]) hA hx hb hml hown hSW hS hW (m_X11_row l z ad _ hA A M hF h1) mf_X11_row lk_X11_266 hF.1 rfl rfl ⟨rfl, rfl⟩ ⟨Nat.le_of_ble_eq_true rfl, Nat.le_of_ble_eq_true rfl⟩ hl.1 (Nat.le_of_ble_eq_true rfl) dX11_score_52 ⟨Nat.le_of_ble_eq_true rfl, Nat.le_of_ble_eq_true rfl⟩) hS (fun H locs G3 q4 hEG3 hcq4 hW hS => ?_)
  replace hF := hF.ext0 hEG3
  replace hX := hX.tr hEG3
  obtain ⟨r6, h5, h⟩ := ob_s h
  refine fm_ci (nb_runVr (As := [.ref q4]) (rest := []) hA hx hb hml hown hSW hS hW (m_X11_total l z ad _ hA A M hF q4 hcq4 h5) mf_X11_total lk_X11_270 hF.1 rfl rfl ⟨rfl, rfl⟩ ⟨Nat.le_of_ble_eq_true rfl, Nat.le_of_ble_eq_true rfl⟩ hl.1 (Nat.le_of_ble_eq_true rfl) dX11_score_55 ⟨Nat.le_of_ble_eq_true rfl, Nat.le_of_ble_eq_true rfl⟩) hS (fun H locs G7 hEG7 hW hS => ?_)
  replace hF := hF.ext0 hEG7
  replace hX := hX.tr hEG7
  replace hcq4 := hEG7 _ _ _ hcq4
  refine lv_aload_n hx hb dX11_score_58 rfl (lv_at hl 2 rfl) ?_
  refine nb_getr hA hx hb hT hK hown hW fl_X11_41 hF.1 (v := .ref (A 7)) rfl dX11_score_59 ?_
  refine lv_iconst (v := 0) hx hb dX11_score_62 (by decide) ?_
  refine nb_iald_r hA hx hb hK hW 0 hF.2.2.2.1 rfl (inb_in (by decide)) dX11_score_63 ?_
  refine lv_iadd hx hb dX11_score_64 ?_
  refine lv_topc (v := r6) (Int32.add_zero _) ?_
  refine lv_aload_n hx hb dX11_score_65 rfl (lv_at hl 2 rfl) ?_
  refine nb_getr hA hx hb hT hK hown hW fl_X11_41 hF.1 (v := .ref (A 7)) rfl dX11_score_66 ?_
  refine lv_iconst (v := 1) hx hb dX11_score_69 (by decide) ?_
  refine nb_iald_r hA hx hb hK hW 0 hF.2.2.2.1 rfl (inb_in (by decide)) dX11_score_70 ?_
  refine lv_iadd hx hb dX11_score_71 ?_
  refine lv_topc (v := r6) (Int32.add_zero _) ?_
  refine lv_aload_n hx hb dX11_score_72 rfl (lv_at hl 2 rfl) ?_
  refine nb_getr hA hx hb hT hK hown hW fl_X11_41 hF.1 (v := .ref (A 7)) rfl dX11_score_73 ?_
  refine lv_iconst (v := 2) hx hb dX11_score_76 (by decide) ?_
  refine nb_iald_r hA hx hb hK hW 0 hF.2.2.2.1 rfl (inb_in (by decide)) dX11_score_77 ?_
  refine lv_iadd hx hb dX11_score_78 ?_
  refine lv_topc (v := r6) (Int32.add_zero _) ?_
  refine lv_iload_n hx hb dX11_score_79 rfl (lv_at hl 1 rfl) ?_
  refine lv_isub hx hb dX11_score_80 ?_
  refine lv_iload_n hx hb dX11_score_81 rfl (lv_at hl 0 rfl) ?_
  refine lv_isub hx hb dX11_score_82 ?_
  refine W.widen (k := 13) (n := 48) (Nat.le_of_ble_eq_true rfl) (Nat.le_of_ble_eq_true rfl) ?_
  exact fm_iq hx hb hr rfl hlocks hW hX hS dX11_score_83 h
-- allBlows
def g_X11_allBlows (M : St) : Option Int32 :=
  some 0
set_option maxRecDepth 100000 in
set_option maxHeartbeats 4000000 in
theorem m_X11_allBlows (l : Launch) (z : Zt) (ad : Ad) (G : Gt) (hA : Raw ad) (A : Nat → Nat) (M : St) (hF : FM z G A M) {r9 : Int32} (h : g_X11_allBlows M = some r9) : MC l z yX11_allBlows cX11_allBlows 4 (some .int) { frames := 3, cells := 1, slots := 4, locals := 81 } 1 4 [.ref (A 0)] ad G (PQi z ad G r9) := by
  refine Met.ofW (cc := cX11_allBlows) (maxL := 4) (ret := (some .int)) (by decide) rfl ?_
  intro p e s m args below meth c s₁ B hml hv
  obtain ⟨rfl, hSW, hW⟩ := hv
  have hx := B.exec; have hb := B.bytes; have hr := B.returns; have hlocks := B.notSynchronized
  have hown : s.vm.findClass RX11 = some m.cls := findClass_of_methodNamed B.named
  obtain ⟨hT, hK, hST, hB0⟩ := id hSW
  have hS : va_S (zA z) s.heap s.heap [] := va_S.rf
  have hl := lv_entry ([.ref (A 0)]) (n := 4) (Nat.le_of_ble_eq_true rfl)
  rw [lg_entry_eq]
  generalize (lg_sl ([.ref (A 0)]) ++ List.replicate (4 - (lg_sl ([.ref (A 0)])).length) Slot.unset).toArray = ls at hl ⊢
  have hl : lv_has ls 4 [(0, .ref (A 0))] := hl
  have hX : Ext0 G G := Ext0.re
  unfold g_X11_allBlows at h
  refine lv_iconst (v := 0) hx hb dX11_allBlows_0 (by decide) ?_
  refine lv_istore_n (lv' := [(1, .int 0), (0, .ref (A 0))]) hx hb dX11_allBlows_1 rfl hl (by decide) rfl (fun ls hl => ?_)
  refine lv_aload_n hx hb dX11_allBlows_2 rfl (lv_at hl 1 rfl) ?_
  refine nb_getr hA hx hb hT hK hown hW fl_X11_19 hF.1 (v := .ref (A 1)) rfl dX11_allBlows_3 ?_
  refine fm_cr (nb_runVr (As := []) (rest := []) hA hx hb hml hown hSW hS hW (m_iterator l z ad _ hA (A 1) (hF.2.1 0 (by decide))) mf_Jx4a65c_iterator_32c93 lk_X11_138 (hF.2.1 0 (by decide)) rfl rfl ⟨rfl, rfl⟩ ⟨Nat.le_of_ble_eq_true rfl, Nat.le_of_ble_eq_true rfl⟩ hl.1 (Nat.le_of_ble_eq_true rfl) dX11_allBlows_6 ⟨Nat.le_of_ble_eq_true rfl, Nat.le_of_ble_eq_true rfl⟩) hS (fun H locs G2 q1 hEq1 hcq1 hW hS => ?_)
  replace hF := hF.ext0 hEq1
  replace hX := hX.tr hEq1
  refine lv_astore_n (lv' := [(2, .ref q1), (1, .int 0), (0, .ref (A 0))]) hx hb dX11_allBlows_9 rfl hl (by decide) rfl (fun ls hl => ?_)
  refine lv_aload_n hx hb dX11_allBlows_10 rfl (lv_at hl 0 rfl) ?_
  refine fm_hn (rest := []) hA hx hb hml hown hSW hS hW hcq1 (hF.2.1 0 (by decide)) mh_X11_142 ⟨Nat.le_of_ble_eq_true rfl, Nat.le_of_ble_eq_true rfl⟩ hl.1 (Nat.le_of_ble_eq_true rfl) dX11_allBlows_11 ⟨Nat.le_of_ble_eq_true rfl, Nat.le_of_ble_eq_true rfl⟩ (fun H locs hW hS => ?_)
  refine lv_if_eq (tgt := 39) hx hb dX11_allBlows_16 (by decide) (fun _ => ?_) (fun hc => absurd (by decide) hc)
  refine lv_iload_n hx hb dX11_allBlows_39 rfl (lv_at hl 1 rfl) ?_
  refine W.widen (k := 1) (n := 4) (Nat.le_of_ble_eq_true rfl) (Nat.le_of_ble_eq_true rfl) ?_
  exact fm_iq hx hb hr rfl hlocks hW hX hS dX11_allBlows_40 h
-- manyNow
def g_X11_manyNow (M : St) (x1 : Int32) : Option Int32 :=
  nm (M 11 0 0) fun v5 =>
  ob (g_X11_sounding M) fun r11 =>
  nm (M 12 0 0) fun v16 =>
  nm (M 13 0 0) fun v18 =>
  if (M 15 0 0) = 0 then
    ob (g_X11_row M) fun _ =>
    ob (g_X11_total M) fun r26 =>
    ob (g_X11_score M) fun r30 =>
    nm (M 10 0 0) fun v34 =>
    ob (g_X11_allBlows M) fun r36 =>
    gd (inb x1 14) <|
    some ((upd (upd (upd (upd (upd (upd (upd (upd (upd (upd (upd (upd (upd (upd (fun _ => 0) (0 : Int32).toNatClampNeg v5) (1 : Int32).toNatClampNeg 0) (2 : Int32).toNatClampNeg 0) (3 : Int32).toNatClampNeg 0) (4 : Int32).toNatClampNeg 0) (5 : Int32).toNatClampNeg r11) (6 : Int32).toNatClampNeg 0) (7 : Int32).toNatClampNeg v16) (8 : Int32).toNatClampNeg v18) (9 : Int32).toNatClampNeg 0) (10 : Int32).toNatClampNeg r26) (11 : Int32).toNatClampNeg r30) (12 : Int32).toNatClampNeg v34) (13 : Int32).toNatClampNeg r36) (ix x1))
  else
    ob (g_X11_row M) fun _ =>
    ob (g_X11_total M) fun r46 =>
    ob (g_X11_score M) fun r50 =>
    nm (M 10 0 0) fun v54 =>
    ob (g_X11_allBlows M) fun r56 =>
    gd (inb x1 14) <|
    some ((upd (upd (upd (upd (upd (upd (upd (upd (upd (upd (upd (upd (upd (upd (fun _ => 0) (0 : Int32).toNatClampNeg v5) (1 : Int32).toNatClampNeg 0) (2 : Int32).toNatClampNeg 0) (3 : Int32).toNatClampNeg 0) (4 : Int32).toNatClampNeg 0) (5 : Int32).toNatClampNeg r11) (6 : Int32).toNatClampNeg 0) (7 : Int32).toNatClampNeg v16) (8 : Int32).toNatClampNeg v18) (9 : Int32).toNatClampNeg 1) (10 : Int32).toNatClampNeg r46) (11 : Int32).toNatClampNeg r50) (12 : Int32).toNatClampNeg v54) (13 : Int32).toNatClampNeg r56) (ix x1))
set_option maxRecDepth 100000 in
set_option maxHeartbeats 4000000 in
theorem m_X11_manyNow (l : Launch) (z : Zt) (ad : Ad) (G : Gt) (hA : Raw ad) (A : Nat → Nat) (M : St) (hF : FM z G A M) (x1 : Int32) {r9 : Int32} (h : g_X11_manyNow M x1 = some r9) : MC l z yX11_manyNow cX11_manyNow 3 (some .int) { frames := 8, cells := 29, slots := 118, locals := 196 } 29 118 [.ref (A 0), .int x1] ad G (PQi z ad G r9) := by
  refine Met.ofW (cc := cX11_manyNow) (maxL := 3) (ret := (some .int)) (by decide) rfl ?_
  intro p e s m args below meth c s₁ B hml hv
  obtain ⟨rfl, hSW, hW⟩ := hv
  have hx := B.exec; have hb := B.bytes; have hr := B.returns; have hlocks := B.notSynchronized
  have hown : s.vm.findClass RX11 = some m.cls := findClass_of_methodNamed B.named
  obtain ⟨hT, hK, hST, hB0⟩ := id hSW
  have hS : va_S (zA z) s.heap s.heap [] := va_S.rf
  have hl := lv_entry ([.ref (A 0), .int x1]) (n := 3) (Nat.le_of_ble_eq_true rfl)
  rw [lg_entry_eq]
  generalize (lg_sl ([.ref (A 0), .int x1]) ++ List.replicate (3 - (lg_sl ([.ref (A 0), .int x1])).length) Slot.unset).toArray = ls at hl ⊢
  have hl : lv_has ls 3 [(0, .ref (A 0)), (1, .int x1)] := hl
  have hX : Ext0 G G := Ext0.re
  unfold g_X11_manyNow at h
  refine lv_bipush (v := 14) hx hb dX11_manyNow_0 (by decide) ?_
  refine nb_newi hx hb hSW hA hW hS wd_arrI (by decide) (N' := 14) (by decide) (by decide) ⟨Nat.le_of_ble_eq_true rfl, Nat.le_of_ble_eq_true rfl⟩ dX11_manyNow_2 (fun q1 H G2 hnq1 hEq1 hcq1 hW hS => ?_)
  have z3 := none_at hX hnq1
  replace hF := hF.ext0 hEq1
  replace hX := hX.tr hEq1
  refine lv_dup hx hb dX11_manyNow_4 rfl ?_
  refine lv_iconst (v := 0) hx hb dX11_manyNow_5 (by decide) ?_
  refine lv_aload_n hx hb dX11_manyNow_6 rfl (lv_at hl 0 rfl) ?_
  refine nb_getr hA hx hb hT hK hown hW fl_X11_210 hF.1 (v := .int (M 11 0 0)) rfl dX11_manyNow_7 ?_
  refine lv_topi (fun v5 ev5 => ?_)
  replace h := nm_at ev5 h
  refine nb_iastr hA hx hb hK hW hS 0 hcq1 rfl (inb_in (by decide)) dX11_manyNow_10 (fun H locs G4 hEG4 hcG4 hW hS => ?_)
  replace hF := hF.st hEG4 hcq1 (by decide)
  replace hX := ext0_new hX hEG4 z3
  replace hcq1 := hcG4
  refine lv_dup hx hb dX11_manyNow_11 rfl ?_
  refine lv_iconst (v := 1) hx hb dX11_manyNow_12 (by decide) ?_
  refine lv_aload_n hx hb dX11_manyNow_13 rfl (lv_at hl 0 rfl) ?_
  refine nb_getr hA hx hb hT hK hown hW fl_X11_19 hF.1 (v := .ref (A 1)) rfl dX11_manyNow_14 ?_
  refine nb_ci (nb_runVr (As := []) (rest := [.int 1, .ref q1, .ref q1]) hA hx hb hml hown hSW hS hW (m_size l z ad _ hA (A 1) (hF.2.1 0 (by decide))) mf_Jx4a65c_size_8abf5 lk_X11_67 (hF.2.1 0 (by decide)) rfl rfl ⟨rfl, rfl⟩ ⟨Nat.le_of_ble_eq_true rfl, Nat.le_of_ble_eq_true rfl⟩ hl.1 (Nat.le_of_ble_eq_true rfl) dX11_manyNow_17 ⟨Nat.le_of_ble_eq_true rfl, Nat.le_of_ble_eq_true rfl⟩) hS (fun H locs hW hS => ?_)
  refine nb_iastr hA hx hb hK hW hS 0 hcq1 rfl (inb_in (by decide)) dX11_manyNow_20 (fun H locs G6 hEG6 hcG6 hW hS => ?_)
  replace hF := hF.st hEG6 hcq1 (by decide)
  replace hX := ext0_new hX hEG6 z3
  replace hcq1 := hcG6
  refine lv_dup hx hb dX11_manyNow_21 rfl ?_
  refine lv_iconst (v := 2) hx hb dX11_manyNow_22 (by decide) ?_
  refine lv_aload_n hx hb dX11_manyNow_23 rfl (lv_at hl 0 rfl) ?_
  refine nb_getr hA hx hb hT hK hown hW fl_X11_25 hF.1 (v := .ref (A 2)) rfl dX11_manyNow_24 ?_
  refine nb_ci (nb_runVr (As := []) (rest := [.int 2, .ref q1, .ref q1]) hA hx hb hml hown hSW hS hW (m_size l z ad _ hA (A 2) (hF.2.1 1 (by decide))) mf_Jx4a65c_size_8abf5 lk_X11_67 (hF.2.1 1 (by decide)) rfl rfl ⟨rfl, rfl⟩ ⟨Nat.le_of_ble_eq_true rfl, Nat.le_of_ble_eq_true rfl⟩ hl.1 (Nat.le_of_ble_eq_true rfl) dX11_manyNow_27 ⟨Nat.le_of_ble_eq_true rfl, Nat.le_of_ble_eq_true rfl⟩) hS (fun H locs hW hS => ?_)
  refine nb_iastr hA hx hb hK hW hS 0 hcq1 rfl (inb_in (by decide)) dX11_manyNow_30 (fun H locs G7 hEG7 hcG7 hW hS => ?_)
  replace hF := hF.st hEG7 hcq1 (by decide)
  replace hX := ext0_new hX hEG7 z3
  replace hcq1 := hcG7
  refine lv_dup hx hb dX11_manyNow_31 rfl ?_
  refine lv_iconst (v := 3) hx hb dX11_manyNow_32 (by decide) ?_
  refine lv_aload_n hx hb dX11_manyNow_33 rfl (lv_at hl 0 rfl) ?_
  refine nb_getr hA hx hb hT hK hown hW fl_X11_28 hF.1 (v := .ref (A 3)) rfl dX11_manyNow_34 ?_
  refine nb_ci (nb_runVr (As := []) (rest := [.int 3, .ref q1, .ref q1]) hA hx hb hml hown hSW hS hW (m_size l z ad _ hA (A 3) (hF.2.1 2 (by decide))) mf_Jx4a65c_size_8abf5 lk_X11_67 (hF.2.1 2 (by decide)) rfl rfl ⟨rfl, rfl⟩ ⟨Nat.le_of_ble_eq_true rfl, Nat.le_of_ble_eq_true rfl⟩ hl.1 (Nat.le_of_ble_eq_true rfl) dX11_manyNow_37 ⟨Nat.le_of_ble_eq_true rfl, Nat.le_of_ble_eq_true rfl⟩) hS (fun H locs hW hS => ?_)
  refine nb_iastr hA hx hb hK hW hS 0 hcq1 rfl (inb_in (by decide)) dX11_manyNow_40 (fun H locs G8 hEG8 hcG8 hW hS => ?_)
  replace hF := hF.st hEG8 hcq1 (by decide)
  replace hX := ext0_new hX hEG8 z3
  replace hcq1 := hcG8
  refine lv_dup hx hb dX11_manyNow_41 rfl ?_
  refine lv_iconst (v := 4) hx hb dX11_manyNow_42 (by decide) ?_
  refine lv_aload_n hx hb dX11_manyNow_43 rfl (lv_at hl 0 rfl) ?_
  refine nb_getr hA hx hb hT hK hown hW fl_X11_31 hF.1 (v := .ref (A 4)) rfl dX11_manyNow_44 ?_
  refine nb_ci (nb_runVr (As := []) (rest := [.int 4, .ref q1, .ref q1]) hA hx hb hml hown hSW hS hW (m_size l z ad _ hA (A 4) (hF.2.1 3 (by decide))) mf_Jx4a65c_size_8abf5 lk_X11_67 (hF.2.1 3 (by decide)) rfl rfl ⟨rfl, rfl⟩ ⟨Nat.le_of_ble_eq_true rfl, Nat.le_of_ble_eq_true rfl⟩ hl.1 (Nat.le_of_ble_eq_true rfl) dX11_manyNow_47 ⟨Nat.le_of_ble_eq_true rfl, Nat.le_of_ble_eq_true rfl⟩) hS (fun H locs hW hS => ?_)
  refine nb_iastr hA hx hb hK hW hS 0 hcq1 rfl (inb_in (by decide)) dX11_manyNow_50 (fun H locs G09 hEG09 hcG09 hW hS => ?_)
  replace hF := hF.st hEG09 hcq1 (by decide)
  replace hX := ext0_new hX hEG09 z3
  replace hcq1 := hcG09
  refine lv_dup hx hb dX11_manyNow_51 rfl ?_
  refine lv_iconst (v := 5) hx hb dX11_manyNow_52 (by decide) ?_
  refine lv_aload_n hx hb dX11_manyNow_53 rfl (lv_at hl 0 rfl) ?_
  obtain ⟨r11, h10, h⟩ := ob_s h
  refine fm_ci (nb_runVr (As := []) (rest := [.int 5, .ref q1, .ref q1]) hA hx hb hml hown hSW hS hW (m_X11_sounding l z ad _ hA A M hF h10) mf_X11_sounding lk_X11_223 hF.1 rfl rfl ⟨rfl, rfl⟩ ⟨Nat.le_of_ble_eq_true rfl, Nat.le_of_ble_eq_true rfl⟩ hl.1 (Nat.le_of_ble_eq_true rfl) dX11_manyNow_54 ⟨Nat.le_of_ble_eq_true rfl, Nat.le_of_ble_eq_true rfl⟩) hS (fun H locs G12 hEG12 hW hS => ?_)
  replace hF := hF.ext0 hEG12
  replace hX := hX.tr hEG12
  replace hcq1 := hEG12 _ _ _ hcq1
  refine nb_iastr hA hx hb hK hW hS 0 hcq1 rfl (inb_in (by decide)) dX11_manyNow_57 (fun H locs G13 hEG13 hcG13 hW hS => ?_)
  replace hF := hF.st hEG13 hcq1 (by decide)
  replace hX := ext0_new hX hEG13 z3
  replace hcq1 := hcG13
  refine lv_dup hx hb dX11_manyNow_58 rfl ?_
  refine lv_bipush (v := 6) hx hb dX11_manyNow_59 (by decide) ?_
  refine lv_aload_n hx hb dX11_manyNow_61 rfl (lv_at hl 0 rfl) ?_
  refine nb_getr hA hx hb hT hK hown hW fl_X11_34 hF.1 (v := .ref (A 5)) rfl dX11_manyNow_62 ?_
  refine nb_ci (nb_runVr (As := []) (rest := [.int 6, .ref q1, .ref q1]) hA hx hb hml hown hSW hS hW (m_size l z ad _ hA (A 5) (hF.2.1 4 (by decide))) mf_Jx4a65c_size_8abf5 lk_X11_67 (hF.2.1 4 (by decide)) rfl rfl ⟨rfl, rfl⟩ ⟨Nat.le_of_ble_eq_true rfl, Nat.le_of_ble_eq_true rfl⟩ hl.1 (Nat.le_of_ble_eq_true rfl) dX11_manyNow_65 ⟨Nat.le_of_ble_eq_true rfl, Nat.le_of_ble_eq_true rfl⟩) hS (fun H locs hW hS => ?_)
  refine nb_iastr hA hx hb hK hW hS 0 hcq1 rfl (inb_in (by decide)) dX11_manyNow_68 (fun H locs G14 hEG14 hcG14 hW hS => ?_)
  replace hF := hF.st hEG14 hcq1 (by decide)
  replace hX := ext0_new hX hEG14 z3
  replace hcq1 := hcG14
  refine lv_dup hx hb dX11_manyNow_69 rfl ?_
  refine lv_bipush (v := 7) hx hb dX11_manyNow_70 (by decide) ?_
  refine lv_aload_n hx hb dX11_manyNow_72 rfl (lv_at hl 0 rfl) ?_
  refine nb_getr hA hx hb hT hK hown hW fl_X11_49 hF.1 (v := .int (M 12 0 0)) rfl dX11_manyNow_73 ?_
  refine lv_topi (fun v16 ev16 => ?_)
  replace h := nm_at ev16 h
  refine nb_iastr hA hx hb hK hW hS 0 hcq1 rfl (inb_in (by decide)) dX11_manyNow_76 (fun H locs G15 hEG15 hcG15 hW hS => ?_)
  replace hF := hF.st hEG15 hcq1 (by decide)
  replace hX := ext0_new hX hEG15 z3
  replace hcq1 := hcG15
  refine lv_dup hx hb dX11_manyNow_77 rfl ?_
  refine lv_bipush (v := 8) hx hb dX11_manyNow_78 (by decide) ?_
  refine lv_aload_n hx hb dX11_manyNow_80 rfl (lv_at hl 0 rfl) ?_
  refine nb_getr hA hx hb hT hK hown hW fl_X11_282 hF.1 (v := .int (M 13 0 0)) rfl dX11_manyNow_81 ?_
  refine lv_topi (fun v18 ev18 => ?_)
  replace h := nm_at ev18 h
  refine nb_iastr hA hx hb hK hW hS 0 hcq1 rfl (inb_in (by decide)) dX11_manyNow_84 (fun H locs G17 hEG17 hcG17 hW hS => ?_)
  replace hF := hF.st hEG17 hcq1 (by decide)
  replace hX := ext0_new hX hEG17 z3
  replace hcq1 := hcG17
  refine lv_dup hx hb dX11_manyNow_85 rfl ?_
  refine lv_bipush (v := 9) hx hb dX11_manyNow_86 (by decide) ?_
  refine lv_aload_n hx hb dX11_manyNow_88 rfl (lv_at hl 0 rfl) ?_
  refine nb_getr hA hx hb hT hK hown hW fl_X11_273 hF.1 (v := .int (M 15 0 0)) rfl dX11_manyNow_89 ?_
  refine lv_if_eq (tgt := 99) hx hb dX11_manyNow_92 (by decide) (fun c19 => ?_) (fun c19 => ?_)
  · replace h := ite_t h c19
    refine lv_iconst (v := 0) hx hb dX11_manyNow_99 (by decide) ?_
    refine nb_iastr hA hx hb hK hW hS 0 hcq1 rfl (inb_in (by decide)) dX11_manyNow_100 (fun H locs G20 hEG20 hcG20 hW hS => ?_)
    replace hF := hF.st hEG20 hcq1 (by decide)
    replace hX := ext0_new hX hEG20 z3
    replace hcq1 := hcG20
    refine lv_dup hx hb dX11_manyNow_101 rfl ?_
    refine lv_bipush (v := 10) hx hb dX11_manyNow_102 (by decide) ?_
    refine lv_aload_n hx hb dX11_manyNow_104 rfl (lv_at hl 0 rfl) ?_
    refine lv_aload_n hx hb dX11_manyNow_105 rfl (lv_at hl 0 rfl) ?_
    obtain ⟨_, h21, h⟩ := ob_s h
    refine fm_cr (nb_runVr (As := []) (rest := [.ref (A 0), .int 10, .ref q1, .ref q1]) hA hx hb hml hown hSW hS hW (m_X11_row l z ad _ hA A M hF h21) mf_X11_row lk_X11_266 hF.1 rfl rfl ⟨rfl, rfl⟩ ⟨Nat.le_of_ble_eq_true rfl, Nat.le_of_ble_eq_true rfl⟩ hl.1 (Nat.le_of_ble_eq_true rfl) dX11_manyNow_106 ⟨Nat.le_of_ble_eq_true rfl, Nat.le_of_ble_eq_true rfl⟩) hS (fun H locs G23 q24 hEG23 hcq24 hW hS => ?_)
    replace hF := hF.ext0 hEG23
    replace hX := hX.tr hEG23
    replace hcq1 := hEG23 _ _ _ hcq1
    obtain ⟨r26, h25, h⟩ := ob_s h
    refine fm_ci (nb_runVr (As := [.ref q24]) (rest := [.int 10, .ref q1, .ref q1]) hA hx hb hml hown hSW hS hW (m_X11_total l z ad _ hA A M hF q24 hcq24 h25) mf_X11_total lk_X11_270 hF.1 rfl rfl ⟨rfl, rfl⟩ ⟨Nat.le_of_ble_eq_true rfl, Nat.le_of_ble_eq_true rfl⟩ hl.1 (Nat.le_of_ble_eq_true rfl) dX11_manyNow_109 ⟨Nat.le_of_ble_eq_true rfl, Nat.le_of_ble_eq_true rfl⟩) hS (fun H locs G27 hEG27 hW hS => ?_)
    replace hF := hF.ext0 hEG27
    replace hX := hX.tr hEG27
    replace hcq1 := hEG27 _ _ _ hcq1
    replace hcq24 := hEG27 _ _ _ hcq24
    refine nb_iastr hA hx hb hK hW hS 0 hcq1 rfl (inb_in (by decide)) dX11_manyNow_112 (fun H locs G28 hEG28 hcG28 hW hS => ?_)
    replace hF := hF.st hEG28 hcq1 (by decide)
    replace hX := ext0_new hX hEG28 z3
    replace hcq1 := hcG28
    refine lv_dup hx hb dX11_manyNow_113 rfl ?_
    refine lv_bipush (v := 11) hx hb dX11_manyNow_114 (by decide) ?_
    refine lv_aload_n hx hb dX11_manyNow_116 rfl (lv_at hl 0 rfl) ?_
    obtain ⟨r30, h29, h⟩ := ob_s h
    refine fm_ci (nb_runVr (As := []) (rest := [.int 11, .ref q1, .ref q1]) hA hx hb hml hown hSW hS hW (m_X11_score l z ad _ hA A M hF h29) mf_X11_score lk_X11_279 hF.1 rfl rfl ⟨rfl, rfl⟩ ⟨Nat.le_of_ble_eq_true rfl, Nat.le_of_ble_eq_true rfl⟩ hl.1 (Nat.le_of_ble_eq_true rfl) dX11_manyNow_117 ⟨Nat.le_of_ble_eq_true rfl, Nat.le_of_ble_eq_true rfl⟩) hS (fun H locs G31 hEG31 hW hS => ?_)
    replace hF := hF.ext0 hEG31
    replace hX := hX.tr hEG31
    replace hcq1 := hEG31 _ _ _ hcq1
    refine nb_iastr hA hx hb hK hW hS 0 hcq1 rfl (inb_in (by decide)) dX11_manyNow_120 (fun H locs G32 hEG32 hcG32 hW hS => ?_)
    replace hF := hF.st hEG32 hcq1 (by decide)
    replace hX := ext0_new hX hEG32 z3
    replace hcq1 := hcG32
    refine lv_dup hx hb dX11_manyNow_121 rfl ?_
    refine lv_bipush (v := 12) hx hb dX11_manyNow_122 (by decide) ?_
    refine lv_aload_n hx hb dX11_manyNow_124 rfl (lv_at hl 0 rfl) ?_
    refine nb_getr hA hx hb hT hK hown hW fl_X11_216 hF.1 (v := .int (M 10 0 0)) rfl dX11_manyNow_125 ?_
    refine lv_topi (fun v34 ev34 => ?_)
    replace h := nm_at ev34 h
    refine nb_iastr hA hx hb hK hW hS 0 hcq1 rfl (inb_in (by decide)) dX11_manyNow_128 (fun H locs G33 hEG33 hcG33 hW hS => ?_)
    replace hF := hF.st hEG33 hcq1 (by decide)
    replace hX := ext0_new hX hEG33 z3
    replace hcq1 := hcG33
    refine lv_dup hx hb dX11_manyNow_129 rfl ?_
    refine lv_bipush (v := 13) hx hb dX11_manyNow_130 (by decide) ?_
    refine lv_aload_n hx hb dX11_manyNow_132 rfl (lv_at hl 0 rfl) ?_
    obtain ⟨r36, h35, h⟩ := ob_s h
    refine fm_ci (nb_runVr (As := []) (rest := [.int 13, .ref q1, .ref q1]) hA hx hb hml hown hSW hS hW (m_X11_allBlows l z ad _ hA A M hF h35) mf_X11_allBlows lk_X11_306 hF.1 rfl rfl ⟨rfl, rfl⟩ ⟨Nat.le_of_ble_eq_true rfl, Nat.le_of_ble_eq_true rfl⟩ hl.1 (Nat.le_of_ble_eq_true rfl) dX11_manyNow_133 ⟨Nat.le_of_ble_eq_true rfl, Nat.le_of_ble_eq_true rfl⟩) hS (fun H locs G37 hEG37 hW hS => ?_)
    replace hF := hF.ext0 hEG37
    replace hX := hX.tr hEG37
    replace hcq1 := hEG37 _ _ _ hcq1
    refine nb_iastr hA hx hb hK hW hS 0 hcq1 rfl (inb_in (by decide)) dX11_manyNow_136 (fun H locs G38 hEG38 hcG38 hW hS => ?_)
    replace hF := hF.st hEG38 hcq1 (by decide)
    replace hX := ext0_new hX hEG38 z3
    replace hcq1 := hcG38
    refine lv_astore_n (lv' := [(2, .ref q1), (0, .ref (A 0)), (1, .int x1)]) hx hb dX11_manyNow_137 rfl hl (by decide) rfl (fun ls hl => ?_)
    refine lv_aload_n hx hb dX11_manyNow_138 rfl (lv_at hl 0 rfl) ?_
    refine lv_iload_n hx hb dX11_manyNow_139 rfl (lv_at hl 2 rfl) ?_
    obtain ⟨g39, h⟩ := gd_s h
    refine nb_iald_r hA hx hb hK hW 0 hcq1 rfl (inb_in g39) dX11_manyNow_140 ?_
    refine W.widen (k := 29) (n := 118) (Nat.le_of_ble_eq_true rfl) (Nat.le_of_ble_eq_true rfl) ?_
    exact fm_iq hx hb hr rfl hlocks hW hX hS dX11_manyNow_141 h
  · replace h := ite_f h c19
    refine lv_iconst (v := 1) hx hb dX11_manyNow_95 (by decide) ?_
    refine lv_goto (tgt := 100) hx hb dX11_manyNow_96 (by decide) ?_
    refine nb_iastr hA hx hb hK hW hS 0 hcq1 rfl (inb_in (by decide)) dX11_manyNow_100 (fun H locs G40 hEG40 hcG40 hW hS => ?_)
    replace hF := hF.st hEG40 hcq1 (by decide)
    replace hX := ext0_new hX hEG40 z3
    replace hcq1 := hcG40
    refine lv_dup hx hb dX11_manyNow_101 rfl ?_
    refine lv_bipush (v := 10) hx hb dX11_manyNow_102 (by decide) ?_
    refine lv_aload_n hx hb dX11_manyNow_104 rfl (lv_at hl 0 rfl) ?_
    refine lv_aload_n hx hb dX11_manyNow_105 rfl (lv_at hl 0 rfl) ?_
    obtain ⟨_, h41, h⟩ := ob_s h
    refine fm_cr (nb_runVr (As := []) (rest := [.ref (A 0), .int 10, .ref q1, .ref q1]) hA hx hb hml hown hSW hS hW (m_X11_row l z ad _ hA A M hF h41) mf_X11_row lk_X11_266 hF.1 rfl rfl ⟨rfl, rfl⟩ ⟨Nat.le_of_ble_eq_true rfl, Nat.le_of_ble_eq_true rfl⟩ hl.1 (Nat.le_of_ble_eq_true rfl) dX11_manyNow_106 ⟨Nat.le_of_ble_eq_true rfl, Nat.le_of_ble_eq_true rfl⟩) hS (fun H locs G43 q44 hEG43 hcq44 hW hS => ?_)
    replace hF := hF.ext0 hEG43
    replace hX := hX.tr hEG43
    replace hcq1 := hEG43 _ _ _ hcq1
    obtain ⟨r46, h45, h⟩ := ob_s h
    refine fm_ci (nb_runVr (As := [.ref q44]) (rest := [.int 10, .ref q1, .ref q1]) hA hx hb hml hown hSW hS hW (m_X11_total l z ad _ hA A M hF q44 hcq44 h45) mf_X11_total lk_X11_270 hF.1 rfl rfl ⟨rfl, rfl⟩ ⟨Nat.le_of_ble_eq_true rfl, Nat.le_of_ble_eq_true rfl⟩ hl.1 (Nat.le_of_ble_eq_true rfl) dX11_manyNow_109 ⟨Nat.le_of_ble_eq_true rfl, Nat.le_of_ble_eq_true rfl⟩) hS (fun H locs G47 hEG47 hW hS => ?_)
    replace hF := hF.ext0 hEG47
    replace hX := hX.tr hEG47
    replace hcq1 := hEG47 _ _ _ hcq1
    replace hcq44 := hEG47 _ _ _ hcq44
    refine nb_iastr hA hx hb hK hW hS 0 hcq1 rfl (inb_in (by decide)) dX11_manyNow_112 (fun H locs G48 hEG48 hcG48 hW hS => ?_)
    replace hF := hF.st hEG48 hcq1 (by decide)
    replace hX := ext0_new hX hEG48 z3
    replace hcq1 := hcG48
    refine lv_dup hx hb dX11_manyNow_113 rfl ?_
    refine lv_bipush (v := 11) hx hb dX11_manyNow_114 (by decide) ?_
    refine lv_aload_n hx hb dX11_manyNow_116 rfl (lv_at hl 0 rfl) ?_
    obtain ⟨r50, h49, h⟩ := ob_s h
    refine fm_ci (nb_runVr (As := []) (rest := [.int 11, .ref q1, .ref q1]) hA hx hb hml hown hSW hS hW (m_X11_score l z ad _ hA A M hF h49) mf_X11_score lk_X11_279 hF.1 rfl rfl ⟨rfl, rfl⟩ ⟨Nat.le_of_ble_eq_true rfl, Nat.le_of_ble_eq_true rfl⟩ hl.1 (Nat.le_of_ble_eq_true rfl) dX11_manyNow_117 ⟨Nat.le_of_ble_eq_true rfl, Nat.le_of_ble_eq_true rfl⟩) hS (fun H locs G51 hEG51 hW hS => ?_)
    replace hF := hF.ext0 hEG51
    replace hX := hX.tr hEG51
    replace hcq1 := hEG51 _ _ _ hcq1
    refine nb_iastr hA hx hb hK hW hS 0 hcq1 rfl (inb_in (by decide)) dX11_manyNow_120 (fun H locs G52 hEG52 hcG52 hW hS => ?_)
    replace hF := hF.st hEG52 hcq1 (by decide)
    replace hX := ext0_new hX hEG52 z3
    replace hcq1 := hcG52
    refine lv_dup hx hb dX11_manyNow_121 rfl ?_
    refine lv_bipush (v := 12) hx hb dX11_manyNow_122 (by decide) ?_
    refine lv_aload_n hx hb dX11_manyNow_124 rfl (lv_at hl 0 rfl) ?_
    refine nb_getr hA hx hb hT hK hown hW fl_X11_216 hF.1 (v := .int (M 10 0 0)) rfl dX11_manyNow_125 ?_
    refine lv_topi (fun v54 ev54 => ?_)
    replace h := nm_at ev54 h
    refine nb_iastr hA hx hb hK hW hS 0 hcq1 rfl (inb_in (by decide)) dX11_manyNow_128 (fun H locs G53 hEG53 hcG53 hW hS => ?_)
    replace hF := hF.st hEG53 hcq1 (by decide)
    replace hX := ext0_new hX hEG53 z3
    replace hcq1 := hcG53
    refine lv_dup hx hb dX11_manyNow_129 rfl ?_
    refine lv_bipush (v := 13) hx hb dX11_manyNow_130 (by decide) ?_
    refine lv_aload_n hx hb dX11_manyNow_132 rfl (lv_at hl 0 rfl) ?_
    obtain ⟨r56, h55, h⟩ := ob_s h
    refine fm_ci (nb_runVr (As := []) (rest := [.int 13, .ref q1, .ref q1]) hA hx hb hml hown hSW hS hW (m_X11_allBlows l z ad _ hA A M hF h55) mf_X11_allBlows lk_X11_306 hF.1 rfl rfl ⟨rfl, rfl⟩ ⟨Nat.le_of_ble_eq_true rfl, Nat.le_of_ble_eq_true rfl⟩ hl.1 (Nat.le_of_ble_eq_true rfl) dX11_manyNow_133 ⟨Nat.le_of_ble_eq_true rfl, Nat.le_of_ble_eq_true rfl⟩) hS (fun H locs G57 hEG57 hW hS => ?_)
    replace hF := hF.ext0 hEG57
    replace hX := hX.tr hEG57
    replace hcq1 := hEG57 _ _ _ hcq1
    refine nb_iastr hA hx hb hK hW hS 0 hcq1 rfl (inb_in (by decide)) dX11_manyNow_136 (fun H locs G58 hEG58 hcG58 hW hS => ?_)
    replace hF := hF.st hEG58 hcq1 (by decide)
    replace hX := ext0_new hX hEG58 z3
    replace hcq1 := hcG58
    refine lv_astore_n (lv' := [(2, .ref q1), (0, .ref (A 0)), (1, .int x1)]) hx hb dX11_manyNow_137 rfl hl (by decide) rfl (fun ls hl => ?_)
    refine lv_aload_n hx hb dX11_manyNow_138 rfl (lv_at hl 0 rfl) ?_
    refine lv_iload_n hx hb dX11_manyNow_139 rfl (lv_at hl 2 rfl) ?_
    obtain ⟨g59, h⟩ := gd_s h
    refine nb_iald_r hA hx hb hK hW 0 hcq1 rfl (inb_in g59) dX11_manyNow_140 ?_
    refine W.widen (k := 29) (n := 118) (Nat.le_of_ble_eq_true rfl) (Nat.le_of_ble_eq_true rfl) ?_
    exact fm_iq hx hb hr rfl hlocks hW hX hS dX11_manyNow_141 h
-- best
def g_X11_best (M : St) (x2 : Int32) : Option Int32 :=
  if x2 < (-1) then
    if 0 ≤ x2 then
      some (-1)
    else
      none
  else
    ob (g_X11_total M) fun r4 =>
    some r4
set_option maxRecDepth 100000 in
set_option maxHeartbeats 4000000 in
theorem m_X11_best (l : Launch) (z : Zt) (ad : Ad) (G : Gt) (hA : Raw ad) (A : Nat → Nat) (M : St) (hF : FM z G A M) (x2 : Int32) (b1 : Nat) (hb1 : G 99 b1 = some (.inl (z.2.2 0, 0, .inl (fun _ => 0)))) {r9 : Int32} (h : g_X11_best M x2 = some r9) : MC l z yX11_best cX11_best 5 (some .int) { frames := 7, cells := 12, slots := 48, locals := 174 } 12 48 [.ref (A 0), .ref b1, .int x2] ad G (PQi z ad G r9) := by
  refine Met.ofW (cc := cX11_best) (maxL := 5) (ret := (some .int)) (by decide) rfl ?_
  intro p e s m args below meth c s₁ B hml hv
  obtain ⟨rfl, hSW, hW⟩ := hv
  have hx := B.exec; have hb := B.bytes; have hr := B.returns; have hlocks := B.notSynchronized
  have hown : s.vm.findClass RX11 = some m.cls := findClass_of_methodNamed B.named
  obtain ⟨hT, hK, hST, hB0⟩ := id hSW
  have hS : va_S (zA z) s.heap s.heap [] := va_S.rf
  have hl := lv_entry ([.ref (A 0), .ref b1, .int x2]) (n := 5) (Nat.le_of_ble_eq_true rfl)
  rw [lg_entry_eq]
  generalize (lg_sl ([.ref (A 0), .ref b1, .int x2]) ++ List.replicate (5 - (lg_sl ([.ref (A 0), .ref b1, .int x2])).length) Slot.unset).toArray = ls at hl ⊢
  have hl : lv_has ls 5 [(0, .ref (A 0)), (1, .ref b1), (2, .int x2)] := hl
  have hX : Ext0 G G := Ext0.re
  unfold g_X11_best at h
  refine lv_iload_n hx hb dX11_best_0 rfl (lv_at hl 2 rfl) ?_
  refine lv_aload_n hx hb dX11_best_1 rfl (lv_at hl 1 rfl) ?_
  refine nb_alenr hA hx hb hK hW 0 hb1 rfl (v := 0) rfl dX11_best_2 ?_
  refine lv_iconst (v := 1) hx hb dX11_best_3 (by decide) ?_
  refine lv_isub hx hb dX11_best_4 ?_
  refine lv_topc (v := (-1)) (by decide) ?_
  refine lv_icmp_lt (tgt := 14) hx hb dX11_best_5 (by decide) (fun c1 => ?_) (fun c1 => ?_)
  · replace h := ite_t h c1
    refine lv_iconst (v := (-1)) hx hb dX11_best_14 (by decide) ?_
    refine lv_istore_n (lv' := [(3, .int (-1)), (0, .ref (A 0)), (1, .ref b1), (2, .int x2)]) hx hb dX11_best_15 rfl hl (by decide) rfl (fun ls hl => ?_)
    refine lv_iload_n hx hb dX11_best_16 rfl (lv_at hl 3 rfl) ?_
    refine lv_istore (lv' := [(4, .int x2), (3, .int (-1)), (0, .ref (A 0)), (1, .ref b1), (2, .int x2)]) hx hb dX11_best_17 hl (by decide) rfl (fun ls hl => ?_)
    refine lv_iload hx hb dX11_best_19 (lv_at hl 0 rfl) ?_
    refine lv_aload_n hx hb dX11_best_21 rfl (lv_at hl 3 rfl) ?_
    refine nb_alenr hA hx hb hK hW 0 hb1 rfl (v := 0) rfl dX11_best_22 ?_
    refine lv_icmp_ge (tgt := 59) hx hb dX11_best_23 (by decide) (fun c2 => ?_) (fun c2 => ?_)
    · replace h := ite_t h c2
      refine lv_iload_n hx hb dX11_best_59 rfl (lv_at hl 1 rfl) ?_
      refine W.widen (k := 12) (n := 48) (Nat.le_of_ble_eq_true rfl) (Nat.le_of_ble_eq_true rfl) ?_
      exact fm_iq hx hb hr rfl hlocks hW hX hS dX11_best_60 h
    · replace h := ite_f h c2
      refine lv_aload_n hx hb dX11_best_26 rfl (lv_at hl 3 rfl) ?_
      refine lv_iload_n hx hb dX11_best_27 rfl (lv_at hl 4 rfl) ?_
      refine lv_iload hx hb dX11_best_28 (lv_at hl 0 rfl) ?_
      exact absurd h (by intro q; cases q)
  · replace h := ite_f h c1
    refine lv_aload_n hx hb dX11_best_8 rfl (lv_at hl 0 rfl) ?_
    refine lv_aload_n hx hb dX11_best_9 rfl (lv_at hl 1 rfl) ?_
    obtain ⟨r4, h3, h⟩ := ob_s h
    refine fm_ci (nb_runVr (As := [.ref b1]) (rest := []) hA hx hb hml hown hSW hS hW (m_X11_total l z ad _ hA A M hF b1 hb1 h3) mf_X11_total lk_X11_270 hF.1 rfl rfl ⟨rfl, rfl⟩ ⟨Nat.le_of_ble_eq_true rfl, Nat.le_of_ble_eq_true rfl⟩ hl.1 (Nat.le_of_ble_eq_true rfl) dX11_best_10 ⟨Nat.le_of_ble_eq_true rfl, Nat.le_of_ble_eq_true rfl⟩) hS (fun H locs G5 hEG5 hW hS => ?_)
    replace hF := hF.ext0 hEG5
    replace hX := hX.tr hEG5
    replace hb1 := hEG5 _ _ _ hb1
    refine W.widen (k := 12) (n := 48) (Nat.le_of_ble_eq_true rfl) (Nat.le_of_ble_eq_true rfl) ?_
    exact fm_iq hx hb hr rfl hlocks hW hX hS dX11_best_13 h
-- forget
def g_X11_forget (M : St) : Option Unit :=
  some ()
set_option maxRecDepth 100000 in
set_option maxHeartbeats 4000000 in
theorem m_X11_forget (l : Launch) (z : Zt) (ad : Ad) (G : Gt) (hA : Raw ad) (A : Nat → Nat) (M : St) (hF : FM z G A M) {r9 : Unit} (h : g_X11_forget M = some r9) : MC l z yX11_forget cX11_forget 4 none { frames := 3, cells := 1, slots := 4, locals := 81 } 1 4 [.ref (A 0)] ad G (PQv z ad G) := by
  refine Met.ofW (cc := cX11_forget) (maxL := 4) (ret := none) (by decide) rfl ?_
  intro p e s m args below meth c s₁ B hml hv
  obtain ⟨rfl, hSW, hW⟩ := hv
  have hx := B.exec; have hb := B.bytes; have hr := B.returns; have hlocks := B.notSynchronized
  have hown : s.vm.findClass RX11 = some m.cls := findClass_of_methodNamed B.named
  obtain ⟨hT, hK, hST, hB0⟩ := id hSW
  have hS : va_S (zA z) s.heap s.heap [] := va_S.rf
  have hl := lv_entry ([.ref (A 0)]) (n := 4) (Nat.le_of_ble_eq_true rfl)
  rw [lg_entry_eq]
  generalize (lg_sl ([.ref (A 0)]) ++ List.replicate (4 - (lg_sl ([.ref (A 0)])).length) Slot.unset).toArray = ls at hl ⊢
  have hl : lv_has ls 4 [(0, .ref (A 0))] := hl
  have hX : Ext0 G G := Ext0.re
  unfold g_X11_forget at h
  refine lv_aload_n hx hb dX11_forget_0 rfl (lv_at hl 0 rfl) ?_
  refine nb_getr hA hx hb hT hK hown hW fl_X11_31 hF.1 (v := .ref (A 4)) rfl dX11_forget_1 ?_
  refine fm_cr (nb_runVr (As := []) (rest := []) hA hx hb hml hown hSW hS hW (m_iterator l z ad _ hA (A 4) (hF.2.1 3 (by decide))) mf_Jx4a65c_iterator_32c93 lk_X11_138 (hF.2.1 3 (by decide)) rfl rfl ⟨rfl, rfl⟩ ⟨Nat.le_of_ble_eq_true rfl, Nat.le_of_ble_eq_true rfl⟩ hl.1 (Nat.le_of_ble_eq_true rfl) dX11_forget_4 ⟨Nat.le_of_ble_eq_true rfl, Nat.le_of_ble_eq_true rfl⟩) hS (fun H locs G2 q1 hEq1 hcq1 hW hS => ?_)
  replace hF := hF.ext0 hEq1
  replace hX := hX.tr hEq1
  refine lv_astore_n (lv' := [(1, .ref q1), (0, .ref (A 0))]) hx hb dX11_forget_7 rfl hl (by decide) rfl (fun ls hl => ?_)
  refine lv_aload_n hx hb dX11_forget_8 rfl (lv_at hl 0 rfl) ?_
  refine fm_hn (rest := []) hA hx hb hml hown hSW hS hW hcq1 (hF.2.1 3 (by decide)) mh_X11_142 ⟨Nat.le_of_ble_eq_true rfl, Nat.le_of_ble_eq_true rfl⟩ hl.1 (Nat.le_of_ble_eq_true rfl) dX11_forget_9 ⟨Nat.le_of_ble_eq_true rfl, Nat.le_of_ble_eq_true rfl⟩ (fun H locs hW hS => ?_)
  refine lv_if_eq (tgt := 87) hx hb dX11_forget_14 (by decide) (fun _ => ?_) (fun hc => absurd (by decide) hc)
  refine W.widen (k := 1) (n := 4) (Nat.le_of_ble_eq_true rfl) (Nat.le_of_ble_eq_true rfl) ?_
  exact fm_vq hx hb hr hlocks hW hX hS dX11_forget_87
-- weather
def g_X11_weather (M : St) (x1 : Int32) (x2 : Int32) : Option Unit :=
  some ()
set_option maxRecDepth 100000 in
set_option maxHeartbeats 4000000 in
theorem m_X11_weather (l : Launch) (z : Zt) (ad : Ad) (G : Gt) (hA : Raw ad) (A : Nat → Nat) (M : St) (hF : FM z G A M) (x1 : Int32) (x2 : Int32) {r9 : Unit} (h : g_X11_weather M x1 x2 = some r9) : MC l z yX11_weather cX11_weather 6 none { frames := 3, cells := 1, slots := 4, locals := 81 } 1 4 [.ref (A 0), .int x1, .int x2] ad G (PQv z ad G) := by
  refine Met.ofW (cc := cX11_weather) (maxL := 6) (ret := none) (by decide) rfl ?_
  intro p e s m args below meth c s₁ B hml hv
  obtain ⟨rfl, hSW, hW⟩ := hv
  have hx := B.exec; have hb := B.bytes; have hr := B.returns; have hlocks := B.notSynchronized
  have hown : s.vm.findClass RX11 = some m.cls := findClass_of_methodNamed B.named
  obtain ⟨hT, hK, hST, hB0⟩ := id hSW
  have hS : va_S (zA z) s.heap s.heap [] := va_S.rf
  have hl := lv_entry ([.ref (A 0), .int x1, .int x2]) (n := 6) (Nat.le_of_ble_eq_true rfl)
  rw [lg_entry_eq]
  generalize (lg_sl ([.ref (A 0), .int x1, .int x2]) ++ List.replicate (6 - (lg_sl ([.ref (A 0), .int x1, .int x2])).length) Slot.unset).toArray = ls at hl ⊢
  have hl : lv_has ls 6 [(0, .ref (A 0)), (1, .int x1), (2, .int x2)] := hl
  have hX : Ext0 G G := Ext0.re
  unfold g_X11_weather at h
  refine lv_aload_n hx hb dX11_weather_0 rfl (lv_at hl 0 rfl) ?_
  refine nb_getr hA hx hb hT hK hown hW fl_X11_19 hF.1 (v := .ref (A 1)) rfl dX11_weather_1 ?_
  refine fm_cr (nb_runVr (As := []) (rest := []) hA hx hb hml hown hSW hS hW (m_iterator l z ad _ hA (A 1) (hF.2.1 0 (by decide))) mf_Jx4a65c_iterator_32c93 lk_X11_138 (hF.2.1 0 (by decide)) rfl rfl ⟨rfl, rfl⟩ ⟨Nat.le_of_ble_eq_true rfl, Nat.le_of_ble_eq_true rfl⟩ hl.1 (Nat.le_of_ble_eq_true rfl) dX11_weather_4 ⟨Nat.le_of_ble_eq_true rfl, Nat.le_of_ble_eq_true rfl⟩) hS (fun H locs G2 q1 hEq1 hcq1 hW hS => ?_)
  replace hF := hF.ext0 hEq1
  replace hX := hX.tr hEq1
  refine lv_astore_n (lv' := [(3, .ref q1), (0, .ref (A 0)), (1, .int x1), (2, .int x2)]) hx hb dX11_weather_7 rfl hl (by decide) rfl (fun ls hl => ?_)
  refine lv_aload_n hx hb dX11_weather_8 rfl (lv_at hl 0 rfl) ?_
  refine fm_hn (rest := []) hA hx hb hml hown hSW hS hW hcq1 (hF.2.1 0 (by decide)) mh_X11_142 ⟨Nat.le_of_ble_eq_true rfl, Nat.le_of_ble_eq_true rfl⟩ hl.1 (Nat.le_of_ble_eq_true rfl) dX11_weather_9 ⟨Nat.le_of_ble_eq_true rfl, Nat.le_of_ble_eq_true rfl⟩ (fun H locs hW hS => ?_)
  refine lv_if_eq (tgt := 80) hx hb dX11_weather_14 (by decide) (fun _ => ?_) (fun hc => absurd (by decide) hc)
  refine W.widen (k := 1) (n := 4) (Nat.le_of_ble_eq_true rfl) (Nat.le_of_ble_eq_true rfl) ?_
  exact fm_vq hx hb hr hlocks hW hX hS dX11_weather_80
-- wouldTotalNow
def g_X11_wouldTotalNow (M : St) (x1 : Int32) : Option Int32 :=
  ob (g_X11_row M) fun _ =>
  ob (g_X11_total M) fun r8 =>
  some r8
set_option maxRecDepth 100000 in
set_option maxHeartbeats 4000000 in
theorem m_X11_wouldTotalNow (l : Launch) (z : Zt) (ad : Ad) (G : Gt) (hA : Raw ad) (A : Nat → Nat) (M : St) (hF : FM z G A M) (x1 : Int32) {r9 : Int32} (h : g_X11_wouldTotalNow M x1 = some r9) : MC l z yX11_wouldTotalNow cX11_wouldTotalNow 6 (some .int) { frames := 7, cells := 14, slots := 48, locals := 174 } 14 48 [.ref (A 0), .int x1] ad G (PQi z ad G r9) := by
  refine Met.ofW (cc := cX11_wouldTotalNow) (maxL := 6) (ret := (some .int)) (by decide) rfl ?_
  intro p e s m args below meth c s₁ B hml hv
  obtain ⟨rfl, hSW, hW⟩ := hv
  have hx := B.exec; have hb := B.bytes; have hr := B.returns; have hlocks := B.notSynchronized
  have hown : s.vm.findClass RX11 = some m.cls := findClass_of_methodNamed B.named
  obtain ⟨hT, hK, hST, hB0⟩ := id hSW
  have hS : va_S (zA z) s.heap s.heap [] := va_S.rf
  have hl := lv_entry ([.ref (A 0), .int x1]) (n := 6) (Nat.le_of_ble_eq_true rfl)
  rw [lg_entry_eq]
  generalize (lg_sl ([.ref (A 0), .int x1]) ++ List.replicate (6 - (lg_sl ([.ref (A 0), .int x1])).length) Slot.unset).toArray = ls at hl ⊢
  have hl : lv_has ls 6 [(0, .ref (A 0)), (1, .int x1)] := hl
  have hX : Ext0 G G := Ext0.re
  unfold g_X11_wouldTotalNow at h
  refine lv_aload_n hx hb dX11_wouldTotalNow_0 rfl (lv_at hl 0 rfl) ?_
  refine nb_getr hA hx hb hT hK hown hW fl_X11_31 hF.1 (v := .ref (A 4)) rfl dX11_wouldTotalNow_1 ?_
  refine nb_ci (nb_runVr (As := []) (rest := []) hA hx hb hml hown hSW hS hW (m_size l z ad _ hA (A 4) (hF.2.1 3 (by decide))) mf_Jx4a65c_size_8abf5 lk_X11_67 (hF.2.1 3 (by decide)) rfl rfl ⟨rfl, rfl⟩ ⟨Nat.le_of_ble_eq_true rfl, Nat.le_of_ble_eq_true rfl⟩ hl.1 (Nat.le_of_ble_eq_true rfl) dX11_wouldTotalNow_4 ⟨Nat.le_of_ble_eq_true rfl, Nat.le_of_ble_eq_true rfl⟩) hS (fun H locs hW hS => ?_)
  refine nb_newqA hx hb hSW hown hA hW hS ao_X11_44 (by decide) (N' := 0) (by decide) (by decide) ⟨Nat.le_of_ble_eq_true rfl, Nat.le_of_ble_eq_true rfl⟩ dX11_wouldTotalNow_7 (fun q1 H G2 hnq1 hEq1 hcq1 hW hS => ?_)
  replace hF := hF.ext0 hEq1
  replace hX := hX.tr hEq1
  refine lv_astore_n (lv' := [(2, .ref q1), (0, .ref (A 0)), (1, .int x1)]) hx hb dX11_wouldTotalNow_10 rfl hl (by decide) rfl (fun ls hl => ?_)
  refine lv_iconst (v := 0) hx hb dX11_wouldTotalNow_11 (by decide) ?_
  refine lv_istore_n (lv' := [(3, .int 0), (2, .ref q1), (0, .ref (A 0)), (1, .int x1)]) hx hb dX11_wouldTotalNow_12 rfl hl (by decide) rfl (fun ls hl => ?_)
  refine lv_iload_n hx hb dX11_wouldTotalNow_13 rfl (lv_at hl 0 rfl) ?_
  refine lv_aload_n hx hb dX11_wouldTotalNow_14 rfl (lv_at hl 1 rfl) ?_
  refine nb_alenr hA hx hb hK hW 1 hcq1 rfl (v := 0) rfl dX11_wouldTotalNow_15 ?_
  refine lv_icmp_ge (tgt := 131) hx hb dX11_wouldTotalNow_16 (by decide) (fun _ => ?_) (fun hc => absurd (by decide) hc)
  refine lv_aload_n hx hb dX11_wouldTotalNow_131 rfl (lv_at hl 2 rfl) ?_
  refine lv_aload_n hx hb dX11_wouldTotalNow_132 rfl (lv_at hl 2 rfl) ?_
  obtain ⟨_, h3, h⟩ := ob_s h
  refine fm_cr (nb_runVr (As := []) (rest := [.ref (A 0)]) hA hx hb hml hown hSW hS hW (m_X11_row l z ad _ hA A M hF h3) mf_X11_row lk_X11_266 hF.1 rfl rfl ⟨rfl, rfl⟩ ⟨Nat.le_of_ble_eq_true rfl, Nat.le_of_ble_eq_true rfl⟩ hl.1 (Nat.le_of_ble_eq_true rfl) dX11_wouldTotalNow_133 ⟨Nat.le_of_ble_eq_true rfl, Nat.le_of_ble_eq_true rfl⟩) hS (fun H locs G5 q6 hEG5 hcq6 hW hS => ?_)
  replace hF := hF.ext0 hEG5
  replace hX := hX.tr hEG5
  replace hcq1 := hEG5 _ _ _ hcq1
  obtain ⟨r8, h7, h⟩ := ob_s h
  refine fm_ci (nb_runVr (As := [.ref q6]) (rest := []) hA hx hb hml hown hSW hS hW (m_X11_total l z ad _ hA A M hF q6 hcq6 h7) mf_X11_total lk_X11_270 hF.1 rfl rfl ⟨rfl, rfl⟩ ⟨Nat.le_of_ble_eq_true rfl, Nat.le_of_ble_eq_true rfl⟩ hl.1 (Nat.le_of_ble_eq_true rfl) dX11_wouldTotalNow_136 ⟨Nat.le_of_ble_eq_true rfl, Nat.le_of_ble_eq_true rfl⟩) hS (fun H locs G09 hEG09 hW hS => ?_)
  replace hF := hF.ext0 hEG09
  replace hX := hX.tr hEG09
  replace hcq1 := hEG09 _ _ _ hcq1
  replace hcq6 := hEG09 _ _ _ hcq6
  refine lv_istore_n (lv' := [(3, .int r8), (2, .ref q1), (0, .ref (A 0)), (1, .int x1)]) hx hb dX11_wouldTotalNow_139 rfl hl (by decide) rfl (fun ls hl => ?_)
  refine lv_iconst (v := 0) hx hb dX11_wouldTotalNow_140 (by decide) ?_
  refine lv_istore (lv' := [(4, .int 0), (3, .int r8), (2, .ref q1), (0, .ref (A 0)), (1, .int x1)]) hx hb dX11_wouldTotalNow_141 hl (by decide) rfl (fun ls hl => ?_)
  refine lv_iload hx hb dX11_wouldTotalNow_143 (lv_at hl 0 rfl) ?_
  refine lv_aload_n hx hb dX11_wouldTotalNow_145 rfl (lv_at hl 2 rfl) ?_
  refine nb_alenr hA hx hb hK hW 1 hcq1 rfl (v := 0) rfl dX11_wouldTotalNow_146 ?_
  refine lv_icmp_ge (tgt := 182) hx hb dX11_wouldTotalNow_147 (by decide) (fun _ => ?_) (fun hc => absurd (by decide) hc)
  refine lv_iload_n hx hb dX11_wouldTotalNow_182 rfl (lv_at hl 1 rfl) ?_
  refine W.widen (k := 14) (n := 48) (Nat.le_of_ble_eq_true rfl) (Nat.le_of_ble_eq_true rfl) ?_
  exact fm_iq hx hb hr rfl hlocks hW hX hS dX11_wouldTotalNow_183 h
-- blow
def g_X11_blow (M : St) (x1 : Int32) (x2 : Int32) (x3 : Int32) : Option (Int32 × Int32) :=
  ob (g_X11_isNoPan M x1) fun r2 =>
  if r2 = 0 then
    ob (g_X11_isIn x2 0 7) fun r11 =>
    if r11 = 0 then
      ob2 (g_X11_start M 1 1) fun r40 u41 =>
      gd (r40 = 1) <|
      some (0, u41 0 0 0)
    else
      ob2 (g_X11_start M 0 1) fun r15 u16 =>
      gd (r15 = 0) <|
      ob (g_X11_isIn x3 (-20) 20) fun r20 =>
      if r20 = 0 then
        ob2 (g_X11_refuse u16 1 2) fun r24 u25 =>
        gd (r24 = 1) <|
        some (0, u25 0 0 0)
      else
        if x3 = 0 then
          ob2 (g_X11_refuse u16 1 2) fun r35 u36 =>
          gd (r35 = 1) <|
          some (0, u36 0 0 0)
        else
          ob2 (g_X11_refuse u16 0 2) fun r30 u31 =>
          gd (r30 = 0) <|
          none
  else
    ob2 (g_X11_start M 1 1) fun r6 u7 =>
    gd (r6 = 1) <|
    some (0, u7 0 0 0)
set_option maxRecDepth 100000 in
set_option maxHeartbeats 4000000 in
theorem m_X11_blow (l : Launch) (z : Zt) (ad : Ad) (G : Gt) (hA : Raw ad) (A : Nat → Nat) (M : St) (hF : FM z G A M) (x1 : Int32) (x2 : Int32) (x3 : Int32) {r9 : Int32} {t9 : Int32} (h : g_X11_blow M x1 x2 x3 = some (r9, t9)) : MC l z yX11_blow cX11_blow 4 (some .int) { frames := 3, cells := 0, slots := 0, locals := 102 } 0 0 [.ref (A 0), .int x1, .int x2, .int x3] ad G (PWi z ad A r9 t9 (fmO M)) := by
  refine Met.ofW (cc := cX11_blow) (maxL := 4) (ret := (some .int)) (by decide) rfl ?_
  intro p e s m args below meth c s₁ B hml hv
  obtain ⟨rfl, hSW, hW⟩ := hv
  have hx := B.exec; have hb := B.bytes; have hr := B.returns; have hlocks := B.notSynchronized
  have hown : s.vm.findClass RX11 = some m.cls := findClass_of_methodNamed B.named
  obtain ⟨hT, hK, hST, hB0⟩ := id hSW
  have hS : va_S (zA z) s.heap s.heap [] := va_S.rf
  have hl := lv_entry ([.ref (A 0), .int x1, .int x2, .int x3]) (n := 4) (Nat.le_of_ble_eq_true rfl)
  rw [lg_entry_eq]
  generalize (lg_sl ([.ref (A 0), .int x1, .int x2, .int x3]) ++ List.replicate (4 - (lg_sl ([.ref (A 0), .int x1, .int x2, .int x3])).length) Slot.unset).toArray = ls at hl ⊢
  have hl : lv_has ls 4 [(0, .ref (A 0)), (1, .int x1), (2, .int x2), (3, .int x3)] := hl
  have hw : fmO M = fmO M := rfl
  unfold g_X11_blow at h
  refine lv_aload_n hx hb dX11_blow_0 rfl (lv_at hl 0 rfl) ?_
  refine lv_aload_n hx hb dX11_blow_1 rfl (lv_at hl 0 rfl) ?_
  refine lv_iload_n hx hb dX11_blow_2 rfl (lv_at hl 1 rfl) ?_
  obtain ⟨r2, h1, h⟩ := ob_s h
  refine fm_ci (nb_runVr (As := [.int x1]) (rest := [.ref (A 0)]) hA hx hb hml hown hSW hS hW (m_X11_isNoPan l z ad _ hA A M hF x1 h1) mf_X11_isNoPan lk_X11_87 hF.1 rfl rfl ⟨rfl, rfl⟩ ⟨Nat.le_of_ble_eq_true rfl, Nat.le_of_ble_eq_true rfl⟩ hl.1 (Nat.le_of_ble_eq_true rfl) dX11_blow_3 ⟨Nat.le_of_ble_eq_true rfl, Nat.le_of_ble_eq_true rfl⟩) hS (fun H locs G3 hEG3 hW hS => ?_)
  replace hF := hF.ext0 hEG3
  refine lv_if_ne (tgt := 19) hx hb dX11_blow_6 (by decide) (fun c4 => ?_) (fun c4 => ?_)
  · replace h := ite_f h c4
    refine lv_iconst (v := 1) hx hb dX11_blow_19 (by decide) ?_
    refine lv_goto (tgt := 24) hx hb dX11_blow_20 (by decide) ?_
    refine lv_iconst (v := 1) hx hb dX11_blow_24 (by decide) ?_
    obtain ⟨r6, u7, h5, h⟩ := ob2_s h
    obtain ⟨g09, hz8⟩ := gd_s h
    clear h
    subst g09
    have h := hz8
    clear hz8
    refine fm_cs (nb_runVr (As := [.int 1, .int 1]) (rest := []) hA hx hb hml hown hSW hS hW (m_X11_start l z ad _ hA A M hF 1 1 h5) mf_X11_start lk_X11_75 hF.1 rfl rfl ⟨rfl, rfl⟩ ⟨Nat.le_of_ble_eq_true rfl, Nat.le_of_ble_eq_true rfl⟩ hl.1 (Nat.le_of_ble_eq_true rfl) dX11_blow_25 ⟨Nat.le_of_ble_eq_true rfl, Nat.le_of_ble_eq_true rfl⟩) hS (fun H locs G8 hF hw2 hW hS => ?_)
    replace hw := hw2.trans hw
    clear hw2
    refine lv_if_ne (tgt := 81) hx hb dX11_blow_28 (by decide) (fun _ => ?_) (fun hc => absurd hc (by decide))
    refine lv_iconst (v := 0) hx hb dX11_blow_81 (by decide) ?_
    refine W.widen (k := 0) (n := 0) (Nat.le_of_ble_eq_true rfl) (Nat.le_of_ble_eq_true rfl) ?_
    exact fm_iw hx hb hr rfl hlocks hW (hF.w hw) hS dX11_blow_82 h
  · replace h := ite_t h c4
    refine lv_iload_n hx hb dX11_blow_9 rfl (lv_at hl 2 rfl) ?_
    refine lv_iconst (v := 0) hx hb dX11_blow_10 (by decide) ?_
    refine lv_bipush (v := 7) hx hb dX11_blow_11 (by decide) ?_
    obtain ⟨r11, h10, h⟩ := ob_s h
    refine nb_ci (nb_runS (As := [.int x2, .int 0, .int 7]) (rest := [.ref (A 0)]) hx hb hml hown hSW hS hW (m_X11_isIn l z ad _ hA x2 0 7 h10) mf_X11_isIn lk_X11_63 rfl ⟨rfl, rfl⟩ ⟨Nat.le_of_ble_eq_true rfl, Nat.le_of_ble_eq_true rfl⟩ hl.1 (Nat.le_of_ble_eq_true rfl) dX11_blow_13 ⟨Nat.le_of_ble_eq_true rfl, Nat.le_of_ble_eq_true rfl⟩) hS (fun H locs hW hS => ?_)
    refine lv_if_ne (tgt := 23) hx hb dX11_blow_16 (by decide) (fun c13 => ?_) (fun c13 => ?_)
    · replace h := ite_f h c13
      refine lv_iconst (v := 0) hx hb dX11_blow_23 (by decide) ?_
      refine lv_iconst (v := 1) hx hb dX11_blow_24 (by decide) ?_
      obtain ⟨r15, u16, h14, h⟩ := ob2_s h
      obtain ⟨g18, hz8⟩ := gd_s h
      clear h
      subst g18
      have h := hz8
      clear hz8
      refine fm_cs (nb_runVr (As := [.int 0, .int 1]) (rest := []) hA hx hb hml hown hSW hS hW (m_X11_start l z ad _ hA A M hF 0 1 h14) mf_X11_start lk_X11_75 hF.1 rfl rfl ⟨rfl, rfl⟩ ⟨Nat.le_of_ble_eq_true rfl, Nat.le_of_ble_eq_true rfl⟩ hl.1 (Nat.le_of_ble_eq_true rfl) dX11_blow_25 ⟨Nat.le_of_ble_eq_true rfl, Nat.le_of_ble_eq_true rfl⟩) hS (fun H locs G17 hF hw2 hW hS => ?_)
      replace hw := hw2.trans hw
      clear hw2
      refine lv_if_ne (tgt := 81) hx hb dX11_blow_28 (by decide) (fun hc => absurd (by decide) hc) (fun _ => ?_)
      refine lv_aload_n hx hb dX11_blow_31 rfl (lv_at hl 0 rfl) ?_
      refine lv_iload_n hx hb dX11_blow_32 rfl (lv_at hl 3 rfl) ?_
      refine lv_bipush (v := (-20)) hx hb dX11_blow_33 (by decide) ?_
      refine lv_bipush (v := 20) hx hb dX11_blow_35 (by decide) ?_
      obtain ⟨r20, h19, h⟩ := ob_s h
      refine nb_ci (nb_runS (As := [.int x3, .int (-20), .int 20]) (rest := [.ref (A 0)]) hx hb hml hown hSW hS hW (m_X11_isIn l z ad _ hA x3 (-20) 20 h19) mf_X11_isIn lk_X11_63 rfl ⟨rfl, rfl⟩ ⟨Nat.le_of_ble_eq_true rfl, Nat.le_of_ble_eq_true rfl⟩ hl.1 (Nat.le_of_ble_eq_true rfl) dX11_blow_37 ⟨Nat.le_of_ble_eq_true rfl, Nat.le_of_ble_eq_true rfl⟩) hS (fun H locs hW hS => ?_)
      refine lv_if_eq (tgt := 47) hx hb dX11_blow_40 (by decide) (fun c22 => ?_) (fun c22 => ?_)
      · replace h := ite_t h c22
        refine lv_iconst (v := 1) hx hb dX11_blow_47 (by decide) ?_
        refine lv_goto (tgt := 52) hx hb dX11_blow_48 (by decide) ?_
        refine lv_iconst (v := 2) hx hb dX11_blow_52 (by decide) ?_
        obtain ⟨r24, u25, h23, h⟩ := ob2_s h
        obtain ⟨g27, hz8⟩ := gd_s h
        clear h
        subst g27
        have h := hz8
        clear hz8
        refine fm_cs (nb_runVr (As := [.int 1, .int 2]) (rest := []) hA hx hb hml hown hSW hS hW (m_X11_refuse l z ad _ hA A u16 hF 1 2 h23) mf_X11_refuse lk_X11_59 hF.1 rfl rfl ⟨rfl, rfl⟩ ⟨Nat.le_of_ble_eq_true rfl, Nat.le_of_ble_eq_true rfl⟩ hl.1 (Nat.le_of_ble_eq_true rfl) dX11_blow_53 ⟨Nat.le_of_ble_eq_true rfl, Nat.le_of_ble_eq_true rfl⟩) hS (fun H locs G26 hF hw2 hW hS => ?_)
        replace hw := hw2.trans hw
        clear hw2
        refine lv_if_ne (tgt := 81) hx hb dX11_blow_56 (by decide) (fun _ => ?_) (fun hc => absurd hc (by decide))
        refine lv_iconst (v := 0) hx hb dX11_blow_81 (by decide) ?_
        refine W.widen (k := 0) (n := 0) (Nat.le_of_ble_eq_true rfl) (Nat.le_of_ble_eq_true rfl) ?_
        exact fm_iw hx hb hr rfl hlocks hW (hF.w hw) hS dX11_blow_82 h
      · replace h := ite_f h c22
        refine lv_iload_n hx hb dX11_blow_43 rfl (lv_at hl 3 rfl) ?_
        refine lv_if_ne (tgt := 51) hx hb dX11_blow_44 (by decide) (fun c28 => ?_) (fun c28 => ?_)
        · replace h := ite_f h c28
          refine lv_iconst (v := 0) hx hb dX11_blow_51 (by decide) ?_
          refine lv_iconst (v := 2) hx hb dX11_blow_52 (by decide) ?_
          obtain ⟨r30, u31, h29, h⟩ := ob2_s h
          obtain ⟨g33, hz8⟩ := gd_s h
          clear h
          subst g33
          have h := hz8
          clear hz8
          refine fm_cs (nb_runVr (As := [.int 0, .int 2]) (rest := []) hA hx hb hml hown hSW hS hW (m_X11_refuse l z ad _ hA A u16 hF 0 2 h29) mf_X11_refuse lk_X11_59 hF.1 rfl rfl ⟨rfl, rfl⟩ ⟨Nat.le_of_ble_eq_true rfl, Nat.le_of_ble_eq_true rfl⟩ hl.1 (Nat.le_of_ble_eq_true rfl) dX11_blow_53 ⟨Nat.le_of_ble_eq_true rfl, Nat.le_of_ble_eq_true rfl⟩) hS (fun H locs G32 hF hw2 hW hS => ?_)
          replace hw := hw2.trans hw
          clear hw2
          refine lv_if_ne (tgt := 81) hx hb dX11_blow_56 (by decide) (fun hc => absurd (by decide) hc) (fun _ => ?_)
          refine lv_aload_n hx hb dX11_blow_59 rfl (lv_at hl 0 rfl) ?_
          refine lv_aload_n hx hb dX11_blow_60 rfl (lv_at hl 0 rfl) ?_
          refine nb_getr hA hx hb hT hK hown hW fl_X11_19 hF.1 (v := .ref (A 1)) rfl dX11_blow_61 ?_
          refine lv_iload_n hx hb dX11_blow_64 rfl (lv_at hl 1 rfl) ?_
          exact absurd h (by intro q; cases q)
        · replace h := ite_t h c28
          refine lv_iconst (v := 1) hx hb dX11_blow_47 (by decide) ?_
          refine lv_goto (tgt := 52) hx hb dX11_blow_48 (by decide) ?_
          refine lv_iconst (v := 2) hx hb dX11_blow_52 (by decide) ?_
          obtain ⟨r35, u36, h34, h⟩ := ob2_s h
          obtain ⟨g38, hz8⟩ := gd_s h
          clear h
          subst g38
          have h := hz8
          clear hz8
          refine fm_cs (nb_runVr (As := [.int 1, .int 2]) (rest := []) hA hx hb hml hown hSW hS hW (m_X11_refuse l z ad _ hA A u16 hF 1 2 h34) mf_X11_refuse lk_X11_59 hF.1 rfl rfl ⟨rfl, rfl⟩ ⟨Nat.le_of_ble_eq_true rfl, Nat.le_of_ble_eq_true rfl⟩ hl.1 (Nat.le_of_ble_eq_true rfl) dX11_blow_53 ⟨Nat.le_of_ble_eq_true rfl, Nat.le_of_ble_eq_true rfl⟩) hS (fun H locs G37 hF hw2 hW hS => ?_)
          replace hw := hw2.trans hw
          clear hw2
          refine lv_if_ne (tgt := 81) hx hb dX11_blow_56 (by decide) (fun _ => ?_) (fun hc => absurd hc (by decide))
          refine lv_iconst (v := 0) hx hb dX11_blow_81 (by decide) ?_
          refine W.widen (k := 0) (n := 0) (Nat.le_of_ble_eq_true rfl) (Nat.le_of_ble_eq_true rfl) ?_
          exact fm_iw hx hb hr rfl hlocks hW (hF.w hw) hS dX11_blow_82 h
    · replace h := ite_t h c13
      refine lv_iconst (v := 1) hx hb dX11_blow_19 (by decide) ?_
      refine lv_goto (tgt := 24) hx hb dX11_blow_20 (by decide) ?_
      refine lv_iconst (v := 1) hx hb dX11_blow_24 (by decide) ?_
      obtain ⟨r40, u41, h39, h⟩ := ob2_s h
      obtain ⟨g43, hz8⟩ := gd_s h
      clear h
      subst g43
      have h := hz8
      clear hz8
      refine fm_cs (nb_runVr (As := [.int 1, .int 1]) (rest := []) hA hx hb hml hown hSW hS hW (m_X11_start l z ad _ hA A M hF 1 1 h39) mf_X11_start lk_X11_75 hF.1 rfl rfl ⟨rfl, rfl⟩ ⟨Nat.le_of_ble_eq_true rfl, Nat.le_of_ble_eq_true rfl⟩ hl.1 (Nat.le_of_ble_eq_true rfl) dX11_blow_25 ⟨Nat.le_of_ble_eq_true rfl, Nat.le_of_ble_eq_true rfl⟩) hS (fun H locs G42 hF hw2 hW hS => ?_)
      replace hw := hw2.trans hw
      clear hw2
      refine lv_if_ne (tgt := 81) hx hb dX11_blow_28 (by decide) (fun _ => ?_) (fun hc => absurd hc (by decide))
      refine lv_iconst (v := 0) hx hb dX11_blow_81 (by decide) ?_
      refine W.widen (k := 0) (n := 0) (Nat.le_of_ble_eq_true rfl) (Nat.le_of_ble_eq_true rfl) ?_
      exact fm_iw hx hb hr rfl hlocks hW (hF.w hw) hS dX11_blow_82 h
-- burn
def g_X11_burn (M : St) (x1 : Int32) : Option (Int32 × Int32) :=
  ob (g_X11_isNoPan M x1) fun r2 =>
  ob2 (g_X11_start M r2 1) fun r5 u6 =>
  if r5 = 0 then
    none
  else
    some (0, u6 0 0 0)
set_option maxRecDepth 100000 in
set_option maxHeartbeats 4000000 in
theorem m_X11_burn (l : Launch) (z : Zt) (ad : Ad) (G : Gt) (hA : Raw ad) (A : Nat → Nat) (M : St) (hF : FM z G A M) (x1 : Int32) {r9 : Int32} {t9 : Int32} (h : g_X11_burn M x1 = some (r9, t9)) : MC l z yX11_burn cX11_burn 2 (some .int) { frames := 3, cells := 0, slots := 0, locals := 102 } 0 0 [.ref (A 0), .int x1] ad G (PWi z ad A r9 t9 (fmO M)) := by
  refine Met.ofW (cc := cX11_burn) (maxL := 2) (ret := (some .int)) (by decide) rfl ?_
  intro p e s m args below meth c s₁ B hml hv
  obtain ⟨rfl, hSW, hW⟩ := hv
  have hx := B.exec; have hb := B.bytes; have hr := B.returns; have hlocks := B.notSynchronized
  have hown : s.vm.findClass RX11 = some m.cls := findClass_of_methodNamed B.named
  obtain ⟨hT, hK, hST, hB0⟩ := id hSW
  have hS : va_S (zA z) s.heap s.heap [] := va_S.rf
  have hl := lv_entry ([.ref (A 0), .int x1]) (n := 2) (Nat.le_of_ble_eq_true rfl)
  rw [lg_entry_eq]
  generalize (lg_sl ([.ref (A 0), .int x1]) ++ List.replicate (2 - (lg_sl ([.ref (A 0), .int x1])).length) Slot.unset).toArray = ls at hl ⊢
  have hl : lv_has ls 2 [(0, .ref (A 0)), (1, .int x1)] := hl
  have hw : fmO M = fmO M := rfl
  unfold g_X11_burn at h
  refine lv_aload_n hx hb dX11_burn_0 rfl (lv_at hl 0 rfl) ?_
  refine lv_aload_n hx hb dX11_burn_1 rfl (lv_at hl 0 rfl) ?_
  refine lv_iload_n hx hb dX11_burn_2 rfl (lv_at hl 1 rfl) ?_
  obtain ⟨r2, h1, h⟩ := ob_s h
  refine fm_ci (nb_runVr (As := [.int x1]) (rest := [.ref (A 0)]) hA hx hb hml hown hSW hS hW (m_X11_isNoPan l z ad _ hA A M hF x1 h1) mf_X11_isNoPan lk_X11_87 hF.1 rfl rfl ⟨rfl, rfl⟩ ⟨Nat.le_of_ble_eq_true rfl, Nat.le_of_ble_eq_true rfl⟩ hl.1 (Nat.le_of_ble_eq_true rfl) dX11_burn_3 ⟨Nat.le_of_ble_eq_true rfl, Nat.le_of_ble_eq_true rfl⟩) hS (fun H locs G3 hEG3 hW hS => ?_)
  replace hF := hF.ext0 hEG3
  refine lv_iconst (v := 1) hx hb dX11_burn_6 (by decide) ?_
  obtain ⟨r5, u6, h4, h⟩ := ob2_s h
  refine fm_cs (nb_runVr (As := [.int r2, .int 1]) (rest := []) hA hx hb hml hown hSW hS hW (m_X11_start l z ad _ hA A M hF r2 1 h4) mf_X11_start lk_X11_75 hF.1 rfl rfl ⟨rfl, rfl⟩ ⟨Nat.le_of_ble_eq_true rfl, Nat.le_of_ble_eq_true rfl⟩ hl.1 (Nat.le_of_ble_eq_true rfl) dX11_burn_7 ⟨Nat.le_of_ble_eq_true rfl, Nat.le_of_ble_eq_true rfl⟩) hS (fun H locs G7 hF hw2 hW hS => ?_)
  replace hw := hw2.trans hw
  clear hw2
  refine lv_if_ne (tgt := 35) hx hb dX11_burn_10 (by decide) (fun c8 => ?_) (fun c8 => ?_)
  · replace h := ite_f h c8
    refine lv_iconst (v := 0) hx hb dX11_burn_35 (by decide) ?_
    refine W.widen (k := 0) (n := 0) (Nat.le_of_ble_eq_true rfl) (Nat.le_of_ble_eq_true rfl) ?_
    exact fm_iw hx hb hr rfl hlocks hW (hF.w hw) hS dX11_burn_36 h
  · replace h := ite_t h c8
    refine lv_aload_n hx hb dX11_burn_13 rfl (lv_at hl 0 rfl) ?_
    refine lv_aload_n hx hb dX11_burn_14 rfl (lv_at hl 0 rfl) ?_
    refine nb_getr hA hx hb hT hK hown hW fl_X11_19 hF.1 (v := .ref (A 1)) rfl dX11_burn_15 ?_
    refine lv_iload_n hx hb dX11_burn_18 rfl (lv_at hl 1 rfl) ?_
    exact absurd h (by intro q; cases q)
-- tuner
def g_X11_tuner (M : St) (x1 : Int32) (x2 : Int32) : Option (Int32 × Int32) :=
  ob (g_X11_isNoPan M x1) fun r2 =>
  ob2 (g_X11_start M r2 1) fun r5 u6 =>
  if r5 = 0 then
    ob (g_X11_isIn x2 10 120) fun r10 =>
    if r10 = 0 then
      ob2 (g_X11_refuse u6 1 2) fun r19 u20 =>
      gd (r19 = 1) <|
      some (0, u20 0 0 0)
    else
      ob2 (g_X11_refuse u6 0 2) fun r14 u15 =>
      gd (r14 = 0) <|
      none
  else
    some (0, u6 0 0 0)
set_option maxRecDepth 100000 in
set_option maxHeartbeats 4000000 in
theorem m_X11_tuner (l : Launch) (z : Zt) (ad : Ad) (G : Gt) (hA : Raw ad) (A : Nat → Nat) (M : St) (hF : FM z G A M) (x1 : Int32) (x2 : Int32) {r9 : Int32} {t9 : Int32} (h : g_X11_tuner M x1 x2 = some (r9, t9)) : MC l z yX11_tuner cX11_tuner 4 (some .int) { frames := 3, cells := 0, slots := 0, locals := 102 } 0 0 [.ref (A 0), .int x1, .int x2] ad G (PWi z ad A r9 t9 (fmO M)) := by
  refine Met.ofW (cc := cX11_tuner) (maxL := 4) (ret := (some .int)) (by decide) rfl ?_
  intro p e s m args below meth c s₁ B hml hv
  obtain ⟨rfl, hSW, hW⟩ := hv
  have hx := B.exec; have hb := B.bytes; have hr := B.returns; have hlocks := B.notSynchronized
  have hown : s.vm.findClass RX11 = some m.cls := findClass_of_methodNamed B.named
  obtain ⟨hT, hK, hST, hB0⟩ := id hSW
  have hS : va_S (zA z) s.heap s.heap [] := va_S.rf
  have hl := lv_entry ([.ref (A 0), .int x1, .int x2]) (n := 4) (Nat.le_of_ble_eq_true rfl)
  rw [lg_entry_eq]
  generalize (lg_sl ([.ref (A 0), .int x1, .int x2]) ++ List.replicate (4 - (lg_sl ([.ref (A 0), .int x1, .int x2])).length) Slot.unset).toArray = ls at hl ⊢
  have hl : lv_has ls 4 [(0, .ref (A 0)), (1, .int x1), (2, .int x2)] := hl
  have hw : fmO M = fmO M := rfl
  unfold g_X11_tuner at h
  refine lv_aload_n hx hb dX11_tuner_0 rfl (lv_at hl 0 rfl) ?_
  refine lv_aload_n hx hb dX11_tuner_1 rfl (lv_at hl 0 rfl) ?_
  refine lv_iload_n hx hb dX11_tuner_2 rfl (lv_at hl 1 rfl) ?_
  obtain ⟨r2, h1, h⟩ := ob_s h
  refine fm_ci (nb_runVr (As := [.int x1]) (rest := [.ref (A 0)]) hA hx hb hml hown hSW hS hW (m_X11_isNoPan l z ad _ hA A M hF x1 h1) mf_X11_isNoPan lk_X11_87 hF.1 rfl rfl ⟨rfl, rfl⟩ ⟨Nat.le_of_ble_eq_true rfl, Nat.le_of_ble_eq_true rfl⟩ hl.1 (Nat.le_of_ble_eq_true rfl) dX11_tuner_3 ⟨Nat.le_of_ble_eq_true rfl, Nat.le_of_ble_eq_true rfl⟩) hS (fun H locs G3 hEG3 hW hS => ?_)
  replace hF := hF.ext0 hEG3
  refine lv_iconst (v := 1) hx hb dX11_tuner_6 (by decide) ?_
  obtain ⟨r5, u6, h4, h⟩ := ob2_s h
  refine fm_cs (nb_runVr (As := [.int r2, .int 1]) (rest := []) hA hx hb hml hown hSW hS hW (m_X11_start l z ad _ hA A M hF r2 1 h4) mf_X11_start lk_X11_75 hF.1 rfl rfl ⟨rfl, rfl⟩ ⟨Nat.le_of_ble_eq_true rfl, Nat.le_of_ble_eq_true rfl⟩ hl.1 (Nat.le_of_ble_eq_true rfl) dX11_tuner_7 ⟨Nat.le_of_ble_eq_true rfl, Nat.le_of_ble_eq_true rfl⟩) hS (fun H locs G7 hF hw2 hW hS => ?_)
  replace hw := hw2.trans hw
  clear hw2
  refine lv_if_ne (tgt := 59) hx hb dX11_tuner_10 (by decide) (fun c8 => ?_) (fun c8 => ?_)
  · replace h := ite_f h c8
    refine lv_iconst (v := 0) hx hb dX11_tuner_59 (by decide) ?_
    refine W.widen (k := 0) (n := 0) (Nat.le_of_ble_eq_true rfl) (Nat.le_of_ble_eq_true rfl) ?_
    exact fm_iw hx hb hr rfl hlocks hW (hF.w hw) hS dX11_tuner_60 h
  · replace h := ite_t h c8
    refine lv_aload_n hx hb dX11_tuner_13 rfl (lv_at hl 0 rfl) ?_
    refine lv_iload_n hx hb dX11_tuner_14 rfl (lv_at hl 2 rfl) ?_
    refine lv_bipush (v := 10) hx hb dX11_tuner_15 (by decide) ?_
    refine lv_bipush (v := 120) hx hb dX11_tuner_17 (by decide) ?_
    obtain ⟨r10, h09, h⟩ := ob_s h
    refine nb_ci (nb_runS (As := [.int x2, .int 10, .int 120]) (rest := [.ref (A 0)]) hx hb hml hown hSW hS hW (m_X11_isIn l z ad _ hA x2 10 120 h09) mf_X11_isIn lk_X11_63 rfl ⟨rfl, rfl⟩ ⟨Nat.le_of_ble_eq_true rfl, Nat.le_of_ble_eq_true rfl⟩ hl.1 (Nat.le_of_ble_eq_true rfl) dX11_tuner_19 ⟨Nat.le_of_ble_eq_true rfl, Nat.le_of_ble_eq_true rfl⟩) hS (fun H locs hW hS => ?_)
    refine lv_if_ne (tgt := 29) hx hb dX11_tuner_22 (by decide) (fun c12 => ?_) (fun c12 => ?_)
    · replace h := ite_f h c12
      refine lv_iconst (v := 0) hx hb dX11_tuner_29 (by decide) ?_
      refine lv_iconst (v := 2) hx hb dX11_tuner_30 (by decide) ?_
      obtain ⟨r14, u15, h13, h⟩ := ob2_s h
      obtain ⟨g17, hz8⟩ := gd_s h
      clear h
      subst g17
      have h := hz8
      clear hz8
      refine fm_cs (nb_runVr (As := [.int 0, .int 2]) (rest := []) hA hx hb hml hown hSW hS hW (m_X11_refuse l z ad _ hA A u6 hF 0 2 h13) mf_X11_refuse lk_X11_59 hF.1 rfl rfl ⟨rfl, rfl⟩ ⟨Nat.le_of_ble_eq_true rfl, Nat.le_of_ble_eq_true rfl⟩ hl.1 (Nat.le_of_ble_eq_true rfl) dX11_tuner_31 ⟨Nat.le_of_ble_eq_true rfl, Nat.le_of_ble_eq_true rfl⟩) hS (fun H locs G16 hF hw2 hW hS => ?_)
      replace hw := hw2.trans hw
      clear hw2
      refine lv_if_ne (tgt := 59) hx hb dX11_tuner_34 (by decide) (fun hc => absurd (by decide) hc) (fun _ => ?_)
      refine lv_aload_n hx hb dX11_tuner_37 rfl (lv_at hl 0 rfl) ?_
      refine lv_aload_n hx hb dX11_tuner_38 rfl (lv_at hl 0 rfl) ?_
      refine nb_getr hA hx hb hT hK hown hW fl_X11_19 hF.1 (v := .ref (A 1)) rfl dX11_tuner_39 ?_
      refine lv_iload_n hx hb dX11_tuner_42 rfl (lv_at hl 1 rfl) ?_
      exact absurd h (by intro q; cases q)
    · replace h := ite_t h c12
      refine lv_iconst (v := 1) hx hb dX11_tuner_25 (by decide) ?_
      refine lv_goto (tgt := 30) hx hb dX11_tuner_26 (by decide) ?_
      refine lv_iconst (v := 2) hx hb dX11_tuner_30 (by decide) ?_
      obtain ⟨r19, u20, h18, h⟩ := ob2_s h
      obtain ⟨g22, hz8⟩ := gd_s h
      clear h
      subst g22
      have h := hz8
      clear hz8
      refine fm_cs (nb_runVr (As := [.int 1, .int 2]) (rest := []) hA hx hb hml hown hSW hS hW (m_X11_refuse l z ad _ hA A u6 hF 1 2 h18) mf_X11_refuse lk_X11_59 hF.1 rfl rfl ⟨rfl, rfl⟩ ⟨Nat.le_of_ble_eq_true rfl, Nat.le_of_ble_eq_true rfl⟩ hl.1 (Nat.le_of_ble_eq_true rfl) dX11_tuner_31 ⟨Nat.le_of_ble_eq_true rfl, Nat.le_of_ble_eq_true rfl⟩) hS (fun H locs G21 hF hw2 hW hS => ?_)
      replace hw := hw2.trans hw
      clear hw2
      refine lv_if_ne (tgt := 59) hx hb dX11_tuner_34 (by decide) (fun _ => ?_) (fun hc => absurd hc (by decide))
      refine lv_iconst (v := 0) hx hb dX11_tuner_59 (by decide) ?_
      refine W.widen (k := 0) (n := 0) (Nat.le_of_ble_eq_true rfl) (Nat.le_of_ble_eq_true rfl) ?_
      exact fm_iw hx hb hr rfl hlocks hW (hF.w hw) hS dX11_tuner_60 h
-- cover
def g_X11_cover (M : St) (x1 : Int32) : Option (Int32 × Int32) :=
  nm (sset M 0 0 0 0) fun u1 =>
  nm (u1 9 0 0) fun v3 =>
  gd (x1 = 0 ∨ x1 = 1) <|
  nm (sset u1 9 0 0 x1) fun u5 =>
  gd (v3 = 0 ∨ v3 = 1) <|
  some (v3, u5 0 0 0)
set_option maxRecDepth 100000 in
set_option maxHeartbeats 4000000 in
theorem m_X11_cover (l : Launch) (z : Zt) (ad : Ad) (G : Gt) (hA : Raw ad) (A : Nat → Nat) (M : St) (hF : FM z G A M) (x1 : Int32) {r9 : Int32} {t9 : Int32} (h : g_X11_cover M x1 = some (r9, t9)) : MC l z yX11_cover cX11_cover 3 (some .boolean) { frames := 0, cells := 0, slots := 0, locals := 0 } 0 0 [.ref (A 0), .int x1] ad G (PWi z ad A r9 t9 (fmO M)) := by
  refine Met.ofW (cc := cX11_cover) (maxL := 3) (ret := (some .boolean)) (by decide) rfl ?_
  intro p e s m args below meth c s₁ B hml hv
  obtain ⟨rfl, hSW, hW⟩ := hv
  have hx := B.exec; have hb := B.bytes; have hr := B.returns; have hlocks := B.notSynchronized
  have hown : s.vm.findClass RX11 = some m.cls := findClass_of_methodNamed B.named
  obtain ⟨hT, hK, hST, hB0⟩ := id hSW
  have hS : va_S (zA z) s.heap s.heap [] := va_S.rf
  have hl := lv_entry ([.ref (A 0), .int x1]) (n := 3) (Nat.le_of_ble_eq_true rfl)
  rw [lg_entry_eq]
  generalize (lg_sl ([.ref (A 0), .int x1]) ++ List.replicate (3 - (lg_sl ([.ref (A 0), .int x1])).length) Slot.unset).toArray = ls at hl ⊢
  have hl : lv_has ls 3 [(0, .ref (A 0)), (1, .int x1)] := hl
  have hw : fmO M = fmO M := rfl
  unfold g_X11_cover at h
  refine lv_aload_n hx hb dX11_cover_0 rfl (lv_at hl 0 rfl) ?_
  refine lv_iconst (v := 0) hx hb dX11_cover_1 (by decide) ?_
  obtain ⟨u1, eu1, h⟩ := nm_s h
  refine nb_putr hA hx hb hT hK hown hW hS fl_X11_56 tyX11 tyX11_ok nmX11 hF.1 (v := .int 0) rfl rfl rfl (Nat.le_of_ble_eq_true rfl) dX11_cover_2 (fun H locs G2 hEG2 hcG2 hW hS => ?_)
  replace hF := hF.put (M' := u1) hEG2 hcG2 (by rw [eu1]; rfl) (by rw [eu1]; rfl)
  replace hw : fmO u1 = fmO M := by rw [eu1]; exact hw
  refine lv_aload_n hx hb dX11_cover_5 rfl (lv_at hl 0 rfl) ?_
  refine nb_getr hA hx hb hT hK hown hW fl_X11_114 hF.1 (v := .int (u1 9 0 0)) rfl dX11_cover_6 ?_
  refine lv_topi (fun v3 ev3 => ?_)
  replace h := nm_at ev3 h
  refine lv_istore_n (lv' := [(2, .int v3), (0, .ref (A 0)), (1, .int x1)]) hx hb dX11_cover_9 rfl hl (by decide) rfl (fun ls hl => ?_)
  refine lv_aload_n hx hb dX11_cover_10 rfl (lv_at hl 1 rfl) ?_
  refine lv_iload_n hx hb dX11_cover_11 rfl (lv_at hl 2 rfl) ?_
  obtain ⟨g4, h⟩ := gd_s h
  obtain ⟨u5, eu5, h⟩ := nm_s h
  refine nb_putr hA hx hb hT hK hown hW hS fl_X11_114 tyX11 tyX11_ok nmX11 hF.1 (v := .int x1) rfl (nbool g4).1 (nbool g4).2 (Nat.le_of_ble_eq_true rfl) dX11_cover_12 (fun H locs G6 hEG6 hcG6 hW hS => ?_)
  replace hF := hF.put (M' := u5) hEG6 hcG6 (by rw [eu5]; rfl) (by rw [eu5]; rfl)
  replace hw : fmO u5 = fmO M := by rw [eu5]; exact hw
  refine lv_iload_n hx hb dX11_cover_15 rfl (lv_at hl 0 rfl) ?_
  obtain ⟨g7, h⟩ := gd_s h
  refine W.widen (k := 0) (n := 0) (Nat.le_of_ble_eq_true rfl) (Nat.le_of_ble_eq_true rfl) ?_
  exact fm_iw hx hb hr (nbool g7).1 hlocks hW (hF.w hw) hS dX11_cover_16 h
-- change
def g_X11_change (M : St) (x1 : Int32) (x2 : Int32) (x3 : Int32) : Option (Int32 × Int32) :=
  ob (g_X11_isNoPhrase M x1) fun r2 =>
  ob2 (g_X11_start M r2 1) fun r5 u6 =>
  if r5 = 0 then
    ob (g_X11_isNoTold x2 x3) fun r10 =>
    ob2 (g_X11_refuse u6 r10 2) fun r13 u14 =>
    if r13 = 0 then
      none
    else
      some (0, u14 0 0 0)
  else
    some (0, u6 0 0 0)
set_option maxRecDepth 100000 in
set_option maxHeartbeats 4000000 in
theorem m_X11_change (l : Launch) (z : Zt) (ad : Ad) (G : Gt) (hA : Raw ad) (A : Nat → Nat) (M : St) (hF : FM z G A M) (x1 : Int32) (x2 : Int32) (x3 : Int32) {r9 : Int32} {t9 : Int32} (h : g_X11_change M x1 x2 x3 = some (r9, t9)) : MC l z yX11_change cX11_change 7 (some .int) { frames := 3, cells := 0, slots := 0, locals := 102 } 0 0 [.ref (A 0), .int x1, .int x2, .int x3] ad G (PWi z ad A r9 t9 (fmO M)) := by
  refine Met.ofW (cc := cX11_change) (maxL := 7) (ret := (some .int)) (by decide) rfl ?_
  intro p e s m args below meth c s₁ B hml hv
  obtain ⟨rfl, hSW, hW⟩ := hv
  have hx := B.exec; have hb := B.bytes; have hr := B.returns; have hlocks := B.notSynchronized
  have hown : s.vm.findClass RX11 = some m.cls := findClass_of_methodNamed B.named
  obtain ⟨hT, hK, hST, hB0⟩ := id hSW
  have hS : va_S (zA z) s.heap s.heap [] := va_S.rf
  have hl := lv_entry ([.ref (A 0), .int x1, .int x2, .int x3]) (n := 7) (Nat.le_of_ble_eq_true rfl)
  rw [lg_entry_eq]
  generalize (lg_sl ([.ref (A 0), .int x1, .int x2, .int x3]) ++ List.replicate (7 - (lg_sl ([.ref (A 0), .int x1, .int x2, .int x3])).length) Slot.unset).toArray = ls at hl ⊢
  have hl : lv_has ls 7 [(0, .ref (A 0)), (1, .int x1), (2, .int x2), (3, .int x3)] := hl
  have hw : fmO M = fmO M := rfl
  unfold g_X11_change at h
  refine lv_aload_n hx hb dX11_change_0 rfl (lv_at hl 0 rfl) ?_
  refine lv_aload_n hx hb dX11_change_1 rfl (lv_at hl 0 rfl) ?_
  refine lv_iload_n hx hb dX11_change_2 rfl (lv_at hl 1 rfl) ?_
  obtain ⟨r2, h1, h⟩ := ob_s h
  refine fm_ci (nb_runVr (As := [.int x1]) (rest := [.ref (A 0)]) hA hx hb hml hown hSW hS hW (m_X11_isNoPhrase l z ad _ hA A M hF x1 h1) mf_X11_isNoPhrase lk_X11_126 hF.1 rfl rfl ⟨rfl, rfl⟩ ⟨Nat.le_of_ble_eq_true rfl, Nat.le_of_ble_eq_true rfl⟩ hl.1 (Nat.le_of_ble_eq_true rfl) dX11_change_3 ⟨Nat.le_of_ble_eq_true rfl, Nat.le_of_ble_eq_true rfl⟩) hS (fun H locs G3 hEG3 hW hS => ?_)
  replace hF := hF.ext0 hEG3
  refine lv_iconst (v := 1) hx hb dX11_change_6 (by decide) ?_
  obtain ⟨r5, u6, h4, h⟩ := ob2_s h
  refine fm_cs (nb_runVr (As := [.int r2, .int 1]) (rest := []) hA hx hb hml hown hSW hS hW (m_X11_start l z ad _ hA A M hF r2 1 h4) mf_X11_start lk_X11_75 hF.1 rfl rfl ⟨rfl, rfl⟩ ⟨Nat.le_of_ble_eq_true rfl, Nat.le_of_ble_eq_true rfl⟩ hl.1 (Nat.le_of_ble_eq_true rfl) dX11_change_7 ⟨Nat.le_of_ble_eq_true rfl, Nat.le_of_ble_eq_true rfl⟩) hS (fun H locs G7 hF hw2 hW hS => ?_)
  replace hw := hw2.trans hw
  clear hw2
  refine lv_if_ne (tgt := 26) hx hb dX11_change_10 (by decide) (fun c8 => ?_) (fun c8 => ?_)
  · replace h := ite_f h c8
    refine lv_iconst (v := 0) hx hb dX11_change_26 (by decide) ?_
    refine W.widen (k := 0) (n := 0) (Nat.le_of_ble_eq_true rfl) (Nat.le_of_ble_eq_true rfl) ?_
    exact fm_iw hx hb hr rfl hlocks hW (hF.w hw) hS dX11_change_27 h
  · replace h := ite_t h c8
    refine lv_aload_n hx hb dX11_change_13 rfl (lv_at hl 0 rfl) ?_
    refine lv_iload_n hx hb dX11_change_14 rfl (lv_at hl 2 rfl) ?_
    refine lv_iload_n hx hb dX11_change_15 rfl (lv_at hl 3 rfl) ?_
    obtain ⟨r10, h09, h⟩ := ob_s h
    refine nb_ci (nb_runS (As := [.int x2, .int x3]) (rest := [.ref (A 0)]) hx hb hml hown hSW hS hW (m_X11_isNoTold l z ad _ hA x2 x3 h09) mf_X11_isNoTold lk_X11_117 rfl ⟨rfl, rfl⟩ ⟨Nat.le_of_ble_eq_true rfl, Nat.le_of_ble_eq_true rfl⟩ hl.1 (Nat.le_of_ble_eq_true rfl) dX11_change_16 ⟨Nat.le_of_ble_eq_true rfl, Nat.le_of_ble_eq_true rfl⟩) hS (fun H locs hW hS => ?_)
    refine lv_iconst (v := 2) hx hb dX11_change_19 (by decide) ?_
    obtain ⟨r13, u14, h12, h⟩ := ob2_s h
    refine fm_cs (nb_runVr (As := [.int r10, .int 2]) (rest := []) hA hx hb hml hown hSW hS hW (m_X11_refuse l z ad _ hA A u6 hF r10 2 h12) mf_X11_refuse lk_X11_59 hF.1 rfl rfl ⟨rfl, rfl⟩ ⟨Nat.le_of_ble_eq_true rfl, Nat.le_of_ble_eq_true rfl⟩ hl.1 (Nat.le_of_ble_eq_true rfl) dX11_change_20 ⟨Nat.le_of_ble_eq_true rfl, Nat.le_of_ble_eq_true rfl⟩) hS (fun H locs G15 hF hw2 hW hS => ?_)
    replace hw := hw2.trans hw
    clear hw2
    refine lv_if_eq (tgt := 28) hx hb dX11_change_23 (by decide) (fun c16 => ?_) (fun c16 => ?_)
    · replace h := ite_t h c16
      refine lv_aload_n hx hb dX11_change_28 rfl (lv_at hl 0 rfl) ?_
      refine nb_getr hA hx hb hT hK hown hW fl_X11_25 hF.1 (v := .ref (A 2)) rfl dX11_change_29 ?_
      refine lv_iload_n hx hb dX11_change_32 rfl (lv_at hl 1 rfl) ?_
      exact absurd h (by intro q; cases q)
    · replace h := ite_f h c16
      refine lv_iconst (v := 0) hx hb dX11_change_26 (by decide) ?_
      refine W.widen (k := 0) (n := 0) (Nat.le_of_ble_eq_true rfl) (Nat.le_of_ble_eq_true rfl) ?_
      exact fm_iw hx hb hr rfl hlocks hW (hF.w hw) hS dX11_change_27 h
-- put
def g_X11_put (M : St) (x1 : Int32) : Option (Int32 × Int32) :=
  ob (g_X11_isNoPhrase M x1) fun r2 =>
  ob2 (g_X11_start M r2 1) fun r5 u6 =>
  if r5 = 0 then
    ob2 (g_X11_refuse u6 0 2) fun r10 u11 =>
    gd (r10 = 0) <|
    none
  else
    some (0, u6 0 0 0)
set_option maxRecDepth 100000 in
set_option maxHeartbeats 4000000 in
theorem m_X11_put (l : Launch) (z : Zt) (ad : Ad) (G : Gt) (hA : Raw ad) (A : Nat → Nat) (M : St) (hF : FM z G A M) (x1 : Int32) {r9 : Int32} {t9 : Int32} (h : g_X11_put M x1 = some (r9, t9)) : MC l z yX11_put cX11_put 2 (some .int) { frames := 3, cells := 0, slots := 0, locals := 102 } 0 0 [.ref (A 0), .int x1] ad G (PWi z ad A r9 t9 (fmO M)) := by
  refine Met.ofW (cc := cX11_put) (maxL := 2) (ret := (some .int)) (by decide) rfl ?_
  intro p e s m args below meth c s₁ B hml hv
  obtain ⟨rfl, hSW, hW⟩ := hv
  have hx := B.exec; have hb := B.bytes; have hr := B.returns; have hlocks := B.notSynchronized
  have hown : s.vm.findClass RX11 = some m.cls := findClass_of_methodNamed B.named
  obtain ⟨hT, hK, hST, hB0⟩ := id hSW
  have hS : va_S (zA z) s.heap s.heap [] := va_S.rf
  have hl := lv_entry ([.ref (A 0), .int x1]) (n := 2) (Nat.le_of_ble_eq_true rfl)
  rw [lg_entry_eq]
  generalize (lg_sl ([.ref (A 0), .int x1]) ++ List.replicate (2 - (lg_sl ([.ref (A 0), .int x1])).length) Slot.unset).toArray = ls at hl ⊢
  have hl : lv_has ls 2 [(0, .ref (A 0)), (1, .int x1)] := hl
  have hw : fmO M = fmO M := rfl
  unfold g_X11_put at h
  refine lv_aload_n hx hb dX11_put_0 rfl (lv_at hl 0 rfl) ?_
  refine lv_aload_n hx hb dX11_put_1 rfl (lv_at hl 0 rfl) ?_
  refine lv_iload_n hx hb dX11_put_2 rfl (lv_at hl 1 rfl) ?_
  obtain ⟨r2, h1, h⟩ := ob_s h
  refine fm_ci (nb_runVr (As := [.int x1]) (rest := [.ref (A 0)]) hA hx hb hml hown hSW hS hW (m_X11_isNoPhrase l z ad _ hA A M hF x1 h1) mf_X11_isNoPhrase lk_X11_126 hF.1 rfl rfl ⟨rfl, rfl⟩ ⟨Nat.le_of_ble_eq_true rfl, Nat.le_of_ble_eq_true rfl⟩ hl.1 (Nat.le_of_ble_eq_true rfl) dX11_put_3 ⟨Nat.le_of_ble_eq_true rfl, Nat.le_of_ble_eq_true rfl⟩) hS (fun H locs G3 hEG3 hW hS => ?_)
  replace hF := hF.ext0 hEG3
  refine lv_iconst (v := 1) hx hb dX11_put_6 (by decide) ?_
  obtain ⟨r5, u6, h4, h⟩ := ob2_s h
  refine fm_cs (nb_runVr (As := [.int r2, .int 1]) (rest := []) hA hx hb hml hown hSW hS hW (m_X11_start l z ad _ hA A M hF r2 1 h4) mf_X11_start lk_X11_75 hF.1 rfl rfl ⟨rfl, rfl⟩ ⟨Nat.le_of_ble_eq_true rfl, Nat.le_of_ble_eq_true rfl⟩ hl.1 (Nat.le_of_ble_eq_true rfl) dX11_put_7 ⟨Nat.le_of_ble_eq_true rfl, Nat.le_of_ble_eq_true rfl⟩) hS (fun H locs G7 hF hw2 hW hS => ?_)
  replace hw := hw2.trans hw
  clear hw2
  refine lv_if_ne (tgt := 38) hx hb dX11_put_10 (by decide) (fun c8 => ?_) (fun c8 => ?_)
  · replace h := ite_f h c8
    refine lv_iconst (v := 0) hx hb dX11_put_38 (by decide) ?_
    refine W.widen (k := 0) (n := 0) (Nat.le_of_ble_eq_true rfl) (Nat.le_of_ble_eq_true rfl) ?_
    exact fm_iw hx hb hr rfl hlocks hW (hF.w hw) hS dX11_put_39 h
  · replace h := ite_t h c8
    refine lv_aload_n hx hb dX11_put_13 rfl (lv_at hl 0 rfl) ?_
    refine lv_aload_n hx hb dX11_put_14 rfl (lv_at hl 0 rfl) ?_
    refine nb_getr hA hx hb hT hK hown hW fl_X11_28 hF.1 (v := .ref (A 3)) rfl dX11_put_15 ?_
    refine nb_ci (nb_runVr (As := []) (rest := [.ref (A 0)]) hA hx hb hml hown hSW hS hW (m_size l z ad _ hA (A 3) (hF.2.1 2 (by decide))) mf_Jx4a65c_size_8abf5 lk_X11_67 (hF.2.1 2 (by decide)) rfl rfl ⟨rfl, rfl⟩ ⟨Nat.le_of_ble_eq_true rfl, Nat.le_of_ble_eq_true rfl⟩ hl.1 (Nat.le_of_ble_eq_true rfl) dX11_put_18 ⟨Nat.le_of_ble_eq_true rfl, Nat.le_of_ble_eq_true rfl⟩) hS (fun H locs hW hS => ?_)
    refine lv_bipush (v := 10) hx hb dX11_put_21 (by decide) ?_
    refine lv_icmp_ne (tgt := 30) hx hb dX11_put_23 (by decide) (fun _ => ?_) (fun hc => absurd hc (by decide))
    refine lv_iconst (v := 0) hx hb dX11_put_30 (by decide) ?_
    refine lv_iconst (v := 2) hx hb dX11_put_31 (by decide) ?_
    obtain ⟨r10, u11, h09, h⟩ := ob2_s h
    obtain ⟨g13, hz8⟩ := gd_s h
    clear h
    subst g13
    have h := hz8
    clear hz8
    refine fm_cs (nb_runVr (As := [.int 0, .int 2]) (rest := []) hA hx hb hml hown hSW hS hW (m_X11_refuse l z ad _ hA A u6 hF 0 2 h09) mf_X11_refuse lk_X11_59 hF.1 rfl rfl ⟨rfl, rfl⟩ ⟨Nat.le_of_ble_eq_true rfl, Nat.le_of_ble_eq_true rfl⟩ hl.1 (Nat.le_of_ble_eq_true rfl) dX11_put_32 ⟨Nat.le_of_ble_eq_true rfl, Nat.le_of_ble_eq_true rfl⟩) hS (fun H locs G12 hF hw2 hW hS => ?_)
    replace hw := hw2.trans hw
    clear hw2
    refine lv_if_eq (tgt := 40) hx hb dX11_put_35 (by decide) (fun _ => ?_) (fun hc => absurd (by decide) hc)
    refine lv_aload_n hx hb dX11_put_40 rfl (lv_at hl 0 rfl) ?_
    refine nb_getr hA hx hb hT hK hown hW fl_X11_28 hF.1 (v := .ref (A 3)) rfl dX11_put_41 ?_
    refine lv_iload_n hx hb dX11_put_44 rfl (lv_at hl 1 rfl) ?_
    exact absurd h (by intro q; cases q)
-- cut
def g_X11_cut (M : St) (x1 : Int32) : Option (Int32 × Int32) :=
  ob (g_X11_isIn x1 0 (-1)) fun r2 =>
  if r2 = 0 then
    ob2 (g_X11_start M 1 1) fun r11 u12 =>
    gd (r11 = 1) <|
    some (0, u12 0 0 0)
  else
    ob2 (g_X11_start M 0 1) fun r6 u7 =>
    gd (r6 = 0) <|
    none
set_option maxRecDepth 100000 in
set_option maxHeartbeats 4000000 in
theorem m_X11_cut (l : Launch) (z : Zt) (ad : Ad) (G : Gt) (hA : Raw ad) (A : Nat → Nat) (M : St) (hF : FM z G A M) (x1 : Int32) {r9 : Int32} {t9 : Int32} (h : g_X11_cut M x1 = some (r9, t9)) : MC l z yX11_cut cX11_cut 2 (some .int) { frames := 2, cells := 0, slots := 0, locals := 81 } 0 0 [.ref (A 0), .int x1] ad G (PWi z ad A r9 t9 (fmO M)) := by
  refine Met.ofW (cc := cX11_cut) (maxL := 2) (ret := (some .int)) (by decide) rfl ?_
  intro p e s m args below meth c s₁ B hml hv
  obtain ⟨rfl, hSW, hW⟩ := hv
  have hx := B.exec; have hb := B.bytes; have hr := B.returns; have hlocks := B.notSynchronized
  have hown : s.vm.findClass RX11 = some m.cls := findClass_of_methodNamed B.named
  obtain ⟨hT, hK, hST, hB0⟩ := id hSW
  have hS : va_S (zA z) s.heap s.heap [] := va_S.rf
  have hl := lv_entry ([.ref (A 0), .int x1]) (n := 2) (Nat.le_of_ble_eq_true rfl)
  rw [lg_entry_eq]
  generalize (lg_sl ([.ref (A 0), .int x1]) ++ List.replicate (2 - (lg_sl ([.ref (A 0), .int x1])).length) Slot.unset).toArray = ls at hl ⊢
  have hl : lv_has ls 2 [(0, .ref (A 0)), (1, .int x1)] := hl
  have hw : fmO M = fmO M := rfl
  unfold g_X11_cut at h
  refine lv_aload_n hx hb dX11_cut_0 rfl (lv_at hl 0 rfl) ?_
  refine lv_iload_n hx hb dX11_cut_1 rfl (lv_at hl 1 rfl) ?_
  refine lv_iconst (v := 0) hx hb dX11_cut_2 (by decide) ?_
  refine lv_aload_n hx hb dX11_cut_3 rfl (lv_at hl 0 rfl) ?_
  refine nb_getr hA hx hb hT hK hown hW fl_X11_28 hF.1 (v := .ref (A 3)) rfl dX11_cut_4 ?_
  refine nb_ci (nb_runVr (As := []) (rest := [.int 0, .int x1, .ref (A 0)]) hA hx hb hml hown hSW hS hW (m_size l z ad _ hA (A 3) (hF.2.1 2 (by decide))) mf_Jx4a65c_size_8abf5 lk_X11_67 (hF.2.1 2 (by decide)) rfl rfl ⟨rfl, rfl⟩ ⟨Nat.le_of_ble_eq_true rfl, Nat.le_of_ble_eq_true rfl⟩ hl.1 (Nat.le_of_ble_eq_true rfl) dX11_cut_7 ⟨Nat.le_of_ble_eq_true rfl, Nat.le_of_ble_eq_true rfl⟩) hS (fun H locs hW hS => ?_)
  refine lv_iconst (v := 1) hx hb dX11_cut_10 (by decide) ?_
  refine lv_isub hx hb dX11_cut_11 ?_
  refine lv_topc (v := (-1)) (by decide) ?_
  obtain ⟨r2, h1, h⟩ := ob_s h
  refine nb_ci (nb_runS (As := [.int x1, .int 0, .int (-1)]) (rest := [.ref (A 0)]) hx hb hml hown hSW hS hW (m_X11_isIn l z ad _ hA x1 0 (-1) h1) mf_X11_isIn lk_X11_63 rfl ⟨rfl, rfl⟩ ⟨Nat.le_of_ble_eq_true rfl, Nat.le_of_ble_eq_true rfl⟩ hl.1 (Nat.le_of_ble_eq_true rfl) dX11_cut_12 ⟨Nat.le_of_ble_eq_true rfl, Nat.le_of_ble_eq_true rfl⟩) hS (fun H locs hW hS => ?_)
  refine lv_if_ne (tgt := 22) hx hb dX11_cut_15 (by decide) (fun c4 => ?_) (fun c4 => ?_)
  · replace h := ite_f h c4
    refine lv_iconst (v := 0) hx hb dX11_cut_22 (by decide) ?_
    refine lv_iconst (v := 1) hx hb dX11_cut_23 (by decide) ?_
    obtain ⟨r6, u7, h5, h⟩ := ob2_s h
    obtain ⟨g09, hz8⟩ := gd_s h
    clear h
    subst g09
    have h := hz8
    clear hz8
    refine fm_cs (nb_runVr (As := [.int 0, .int 1]) (rest := []) hA hx hb hml hown hSW hS hW (m_X11_start l z ad _ hA A M hF 0 1 h5) mf_X11_start lk_X11_75 hF.1 rfl rfl ⟨rfl, rfl⟩ ⟨Nat.le_of_ble_eq_true rfl, Nat.le_of_ble_eq_true rfl⟩ hl.1 (Nat.le_of_ble_eq_true rfl) dX11_cut_24 ⟨Nat.le_of_ble_eq_true rfl, Nat.le_of_ble_eq_true rfl⟩) hS (fun H locs G8 hF hw2 hW hS => ?_)
    replace hw := hw2.trans hw
    clear hw2
    refine lv_if_eq (tgt := 34) hx hb dX11_cut_27 (by decide) (fun _ => ?_) (fun hc => absurd (by decide) hc)
    refine lv_aload_n hx hb dX11_cut_34 rfl (lv_at hl 0 rfl) ?_
    refine nb_getr hA hx hb hT hK hown hW fl_X11_28 hF.1 (v := .ref (A 3)) rfl dX11_cut_35 ?_
    refine lv_iload_n hx hb dX11_cut_38 rfl (lv_at hl 1 rfl) ?_
    exact absurd h (by intro q; cases q)
  · replace h := ite_t h c4
    refine lv_iconst (v := 1) hx hb dX11_cut_18 (by decide) ?_
    refine lv_goto (tgt := 23) hx hb dX11_cut_19 (by decide) ?_
    refine lv_iconst (v := 1) hx hb dX11_cut_23 (by decide) ?_
    obtain ⟨r11, u12, h10, h⟩ := ob2_s h
    obtain ⟨g14, hz8⟩ := gd_s h
    clear h
    subst g14
    have h := hz8
    clear hz8
    refine fm_cs (nb_runVr (As := [.int 1, .int 1]) (rest := []) hA hx hb hml hown hSW hS hW (m_X11_start l z ad _ hA A M hF 1 1 h10) mf_X11_start lk_X11_75 hF.1 rfl rfl ⟨rfl, rfl⟩ ⟨Nat.le_of_ble_eq_true rfl, Nat.le_of_ble_eq_true rfl⟩ hl.1 (Nat.le_of_ble_eq_true rfl) dX11_cut_24 ⟨Nat.le_of_ble_eq_true rfl, Nat.le_of_ble_eq_true rfl⟩) hS (fun H locs G13 hF hw2 hW hS => ?_)
    replace hw := hw2.trans hw
    clear hw2
    refine lv_if_eq (tgt := 34) hx hb dX11_cut_27 (by decide) (fun hc => absurd hc (by decide)) (fun _ => ?_)
    refine lv_iconst (v := 0) hx hb dX11_cut_30 (by decide) ?_
    refine lv_goto (tgt := 48) hx hb dX11_cut_31 (by decide) ?_
    refine W.widen (k := 0) (n := 0) (Nat.le_of_ble_eq_true rfl) (Nat.le_of_ble_eq_true rfl) ?_
    exact fm_iw hx hb hr rfl hlocks hW (hF.w hw) hS dX11_cut_48 h
-- give
def g_X11_give (M : St) (x1 : Int32) (x2 : Int32) : Option (Int32 × Int32) :=
  ob (g_X11_isNoPlayer M x1) fun r2 =>
  if r2 = 0 then
    if x2 = (-1) then
      ob2 (g_X11_start M 0 1) fun r12 u13 =>
      gd (r12 = 0) <|
      if x2 = (-1) then
        ob2 (g_X11_refuse u13 0 2) fun r18 u19 =>
        gd (r18 = 0) <|
        none
      else
        none
    else
      ob (g_X11_isNoPan M x2) fun r23 =>
      if r23 = 0 then
        ob2 (g_X11_start M 0 1) fun r27 u28 =>
        gd (r27 = 0) <|
        if x2 = (-1) then
          ob2 (g_X11_refuse u28 0 2) fun r33 u34 =>
          gd (r33 = 0) <|
          none
        else
          none
      else
        ob2 (g_X11_start M 1 1) fun r38 u39 =>
        gd (r38 = 1) <|
        some (0, u39 0 0 0)
  else
    ob2 (g_X11_start M 1 1) fun r6 u7 =>
    gd (r6 = 1) <|
    some (0, u7 0 0 0)
set_option maxRecDepth 100000 in
set_option maxHeartbeats 4000000 in
theorem m_X11_give (l : Launch) (z : Zt) (ad : Ad) (G : Gt) (hA : Raw ad) (A : Nat → Nat) (M : St) (hF : FM z G A M) (x1 : Int32) (x2 : Int32) {r9 : Int32} {t9 : Int32} (h : g_X11_give M x1 x2 = some (r9, t9)) : MC l z yX11_give cX11_give 4 (some .int) { frames := 3, cells := 0, slots := 0, locals := 102 } 0 0 [.ref (A 0), .int x1, .int x2] ad G (PWi z ad A r9 t9 (fmO M)) := by
  refine Met.ofW (cc := cX11_give) (maxL := 4) (ret := (some .int)) (by decide) rfl ?_
  intro p e s m args below meth c s₁ B hml hv
  obtain ⟨rfl, hSW, hW⟩ := hv
  have hx := B.exec; have hb := B.bytes; have hr := B.returns; have hlocks := B.notSynchronized
  have hown : s.vm.findClass RX11 = some m.cls := findClass_of_methodNamed B.named
  obtain ⟨hT, hK, hST, hB0⟩ := id hSW
  have hS : va_S (zA z) s.heap s.heap [] := va_S.rf
  have hl := lv_entry ([.ref (A 0), .int x1, .int x2]) (n := 4) (Nat.le_of_ble_eq_true rfl)
  rw [lg_entry_eq]
  generalize (lg_sl ([.ref (A 0), .int x1, .int x2]) ++ List.replicate (4 - (lg_sl ([.ref (A 0), .int x1, .int x2])).length) Slot.unset).toArray = ls at hl ⊢
  have hl : lv_has ls 4 [(0, .ref (A 0)), (1, .int x1), (2, .int x2)] := hl
  have hw : fmO M = fmO M := rfl
  unfold g_X11_give at h
  refine lv_aload_n hx hb dX11_give_0 rfl (lv_at hl 0 rfl) ?_
  refine lv_aload_n hx hb dX11_give_1 rfl (lv_at hl 0 rfl) ?_
  refine lv_iload_n hx hb dX11_give_2 rfl (lv_at hl 1 rfl) ?_
  obtain ⟨r2, h1, h⟩ := ob_s h
  refine fm_ci (nb_runVr (As := [.int x1]) (rest := [.ref (A 0)]) hA hx hb hml hown hSW hS hW (m_X11_isNoPlayer l z ad _ hA A M hF x1 h1) mf_X11_isNoPlayer lk_X11_174 hF.1 rfl rfl ⟨rfl, rfl⟩ ⟨Nat.le_of_ble_eq_true rfl, Nat.le_of_ble_eq_true rfl⟩ hl.1 (Nat.le_of_ble_eq_true rfl) dX11_give_3 ⟨Nat.le_of_ble_eq_true rfl, Nat.le_of_ble_eq_true rfl⟩) hS (fun H locs G3 hEG3 hW hS => ?_)
  replace hF := hF.ext0 hEG3
  refine lv_if_ne (tgt := 22) hx hb dX11_give_6 (by decide) (fun c4 => ?_) (fun c4 => ?_)
  · replace h := ite_f h c4
    refine lv_iconst (v := 1) hx hb dX11_give_22 (by decide) ?_
    refine lv_goto (tgt := 27) hx hb dX11_give_23 (by decide) ?_
    refine lv_iconst (v := 1) hx hb dX11_give_27 (by decide) ?_
    obtain ⟨r6, u7, h5, h⟩ := ob2_s h
    obtain ⟨g09, hz8⟩ := gd_s h
    clear h
    subst g09
    have h := hz8
    clear hz8
    refine fm_cs (nb_runVr (As := [.int 1, .int 1]) (rest := []) hA hx hb hml hown hSW hS hW (m_X11_start l z ad _ hA A M hF 1 1 h5) mf_X11_start lk_X11_75 hF.1 rfl rfl ⟨rfl, rfl⟩ ⟨Nat.le_of_ble_eq_true rfl, Nat.le_of_ble_eq_true rfl⟩ hl.1 (Nat.le_of_ble_eq_true rfl) dX11_give_28 ⟨Nat.le_of_ble_eq_true rfl, Nat.le_of_ble_eq_true rfl⟩) hS (fun H locs G8 hF hw2 hW hS => ?_)
    replace hw := hw2.trans hw
    clear hw2
    refine lv_if_ne (tgt := 83) hx hb dX11_give_31 (by decide) (fun _ => ?_) (fun hc => absurd hc (by decide))
    refine lv_iconst (v := 0) hx hb dX11_give_83 (by decide) ?_
    refine W.widen (k := 0) (n := 0) (Nat.le_of_ble_eq_true rfl) (Nat.le_of_ble_eq_true rfl) ?_
    exact fm_iw hx hb hr rfl hlocks hW (hF.w hw) hS dX11_give_84 h
  · replace h := ite_t h c4
    refine lv_iload_n hx hb dX11_give_9 rfl (lv_at hl 2 rfl) ?_
    refine lv_iconst (v := (-1)) hx hb dX11_give_10 (by decide) ?_
    refine lv_icmp_eq (tgt := 26) hx hb dX11_give_11 (by decide) (fun c10 => ?_) (fun c10 => ?_)
    · replace h := ite_t h c10
      refine lv_iconst (v := 0) hx hb dX11_give_26 (by decide) ?_
      refine lv_iconst (v := 1) hx hb dX11_give_27 (by decide) ?_
      obtain ⟨r12, u13, h11, h⟩ := ob2_s h
      obtain ⟨g15, hz8⟩ := gd_s h
      clear h
      subst g15
      have h := hz8
      clear hz8
      refine fm_cs (nb_runVr (As := [.int 0, .int 1]) (rest := []) hA hx hb hml hown hSW hS hW (m_X11_start l z ad _ hA A M hF 0 1 h11) mf_X11_start lk_X11_75 hF.1 rfl rfl ⟨rfl, rfl⟩ ⟨Nat.le_of_ble_eq_true rfl, Nat.le_of_ble_eq_true rfl⟩ hl.1 (Nat.le_of_ble_eq_true rfl) dX11_give_28 ⟨Nat.le_of_ble_eq_true rfl, Nat.le_of_ble_eq_true rfl⟩) hS (fun H locs G14 hF hw2 hW hS => ?_)
      replace hw := hw2.trans hw
      clear hw2
      refine lv_if_ne (tgt := 83) hx hb dX11_give_31 (by decide) (fun hc => absurd (by decide) hc) (fun _ => ?_)
      refine lv_aload_n hx hb dX11_give_34 rfl (lv_at hl 0 rfl) ?_
      refine lv_iload_n hx hb dX11_give_35 rfl (lv_at hl 2 rfl) ?_
      refine lv_iconst (v := (-1)) hx hb dX11_give_36 (by decide) ?_
      refine lv_icmp_eq (tgt := 75) hx hb dX11_give_37 (by decide) (fun c16 => ?_) (fun c16 => ?_)
      · replace h := ite_t h c16
        refine lv_iconst (v := 0) hx hb dX11_give_75 (by decide) ?_
        refine lv_iconst (v := 2) hx hb dX11_give_76 (by decide) ?_
        obtain ⟨r18, u19, h17, h⟩ := ob2_s h
        obtain ⟨g21, hz8⟩ := gd_s h
        clear h
        subst g21
        have h := hz8
        clear hz8
        refine fm_cs (nb_runVr (As := [.int 0, .int 2]) (rest := []) hA hx hb hml hown hSW hS hW (m_X11_refuse l z ad _ hA A u13 hF 0 2 h17) mf_X11_refuse lk_X11_59 hF.1 rfl rfl ⟨rfl, rfl⟩ ⟨Nat.le_of_ble_eq_true rfl, Nat.le_of_ble_eq_true rfl⟩ hl.1 (Nat.le_of_ble_eq_true rfl) dX11_give_77 ⟨Nat.le_of_ble_eq_true rfl, Nat.le_of_ble_eq_true rfl⟩) hS (fun H locs G20 hF hw2 hW hS => ?_)
        replace hw := hw2.trans hw
        clear hw2
        refine lv_if_eq (tgt := 85) hx hb dX11_give_80 (by decide) (fun _ => ?_) (fun hc => absurd (by decide) hc)
        refine lv_aload_n hx hb dX11_give_85 rfl (lv_at hl 0 rfl) ?_
        refine nb_getr hA hx hb hT hK hown hW fl_X11_31 hF.1 (v := .ref (A 4)) rfl dX11_give_86 ?_
        refine lv_iload_n hx hb dX11_give_89 rfl (lv_at hl 1 rfl) ?_
        exact absurd h (by intro q; cases q)
      · replace h := ite_f h c16
        refine lv_aload_n hx hb dX11_give_40 rfl (lv_at hl 0 rfl) ?_
        refine nb_getr hA hx hb hT hK hown hW fl_X11_19 hF.1 (v := .ref (A 1)) rfl dX11_give_41 ?_
        refine lv_iload_n hx hb dX11_give_44 rfl (lv_at hl 2 rfl) ?_
        exact absurd h (by intro q; cases q)
    · replace h := ite_f h c10
      refine lv_aload_n hx hb dX11_give_14 rfl (lv_at hl 0 rfl) ?_
      refine lv_iload_n hx hb dX11_give_15 rfl (lv_at hl 2 rfl) ?_
      obtain ⟨r23, h22, h⟩ := ob_s h
      refine fm_ci (nb_runVr (As := [.int x2]) (rest := [.ref (A 0)]) hA hx hb hml hown hSW hS hW (m_X11_isNoPan l z ad _ hA A M hF x2 h22) mf_X11_isNoPan lk_X11_87 hF.1 rfl rfl ⟨rfl, rfl⟩ ⟨Nat.le_of_ble_eq_true rfl, Nat.le_of_ble_eq_true rfl⟩ hl.1 (Nat.le_of_ble_eq_true rfl) dX11_give_16 ⟨Nat.le_of_ble_eq_true rfl, Nat.le_of_ble_eq_true rfl⟩) hS (fun H locs G24 hEG24 hW hS => ?_)
      replace hF := hF.ext0 hEG24
      refine lv_if_eq (tgt := 26) hx hb dX11_give_19 (by decide) (fun c25 => ?_) (fun c25 => ?_)
      · replace h := ite_t h c25
        refine lv_iconst (v := 0) hx hb dX11_give_26 (by decide) ?_
        refine lv_iconst (v := 1) hx hb dX11_give_27 (by decide) ?_
        obtain ⟨r27, u28, h26, h⟩ := ob2_s h
        obtain ⟨g30, hz8⟩ := gd_s h
        clear h
        subst g30
        have h := hz8
        clear hz8
        refine fm_cs (nb_runVr (As := [.int 0, .int 1]) (rest := []) hA hx hb hml hown hSW hS hW (m_X11_start l z ad _ hA A M hF 0 1 h26) mf_X11_start lk_X11_75 hF.1 rfl rfl ⟨rfl, rfl⟩ ⟨Nat.le_of_ble_eq_true rfl, Nat.le_of_ble_eq_true rfl⟩ hl.1 (Nat.le_of_ble_eq_true rfl) dX11_give_28 ⟨Nat.le_of_ble_eq_true rfl, Nat.le_of_ble_eq_true rfl⟩) hS (fun H locs G29 hF hw2 hW hS => ?_)
        replace hw := hw2.trans hw
        clear hw2
        refine lv_if_ne (tgt := 83) hx hb dX11_give_31 (by decide) (fun hc => absurd (by decide) hc) (fun _ => ?_)
        refine lv_aload_n hx hb dX11_give_34 rfl (lv_at hl 0 rfl) ?_
        refine lv_iload_n hx hb dX11_give_35 rfl (lv_at hl 2 rfl) ?_
        refine lv_iconst (v := (-1)) hx hb dX11_give_36 (by decide) ?_
        refine lv_icmp_eq (tgt := 75) hx hb dX11_give_37 (by decide) (fun c31 => ?_) (fun c31 => ?_)
        · replace h := ite_t h c31
          refine lv_iconst (v := 0) hx hb dX11_give_75 (by decide) ?_
          refine lv_iconst (v := 2) hx hb dX11_give_76 (by decide) ?_
          obtain ⟨r33, u34, h32, h⟩ := ob2_s h
          obtain ⟨g36, hz8⟩ := gd_s h
          clear h
          subst g36
          have h := hz8
          clear hz8
          refine fm_cs (nb_runVr (As := [.int 0, .int 2]) (rest := []) hA hx hb hml hown hSW hS hW (m_X11_refuse l z ad _ hA A u28 hF 0 2 h32) mf_X11_refuse lk_X11_59 hF.1 rfl rfl ⟨rfl, rfl⟩ ⟨Nat.le_of_ble_eq_true rfl, Nat.le_of_ble_eq_true rfl⟩ hl.1 (Nat.le_of_ble_eq_true rfl) dX11_give_77 ⟨Nat.le_of_ble_eq_true rfl, Nat.le_of_ble_eq_true rfl⟩) hS (fun H locs G35 hF hw2 hW hS => ?_)
          replace hw := hw2.trans hw
          clear hw2
          refine lv_if_eq (tgt := 85) hx hb dX11_give_80 (by decide) (fun _ => ?_) (fun hc => absurd (by decide) hc)
          refine lv_aload_n hx hb dX11_give_85 rfl (lv_at hl 0 rfl) ?_
          refine nb_getr hA hx hb hT hK hown hW fl_X11_31 hF.1 (v := .ref (A 4)) rfl dX11_give_86 ?_
          refine lv_iload_n hx hb dX11_give_89 rfl (lv_at hl 1 rfl) ?_
          exact absurd h (by intro q; cases q)
        · replace h := ite_f h c31
          refine lv_aload_n hx hb dX11_give_40 rfl (lv_at hl 0 rfl) ?_
          refine nb_getr hA hx hb hT hK hown hW fl_X11_19 hF.1 (v := .ref (A 1)) rfl dX11_give_41 ?_
          refine lv_iload_n hx hb dX11_give_44 rfl (lv_at hl 2 rfl) ?_
          exact absurd h (by intro q; cases q)
      · replace h := ite_f h c25
        refine lv_iconst (v := 1) hx hb dX11_give_22 (by decide) ?_
        refine lv_goto (tgt := 27) hx hb dX11_give_23 (by decide) ?_
        refine lv_iconst (v := 1) hx hb dX11_give_27 (by decide) ?_
        obtain ⟨r38, u39, h37, h⟩ := ob2_s h
        obtain ⟨g41, hz8⟩ := gd_s h
        clear h
        subst g41
        have h := hz8
        clear hz8
        refine fm_cs (nb_runVr (As := [.int 1, .int 1]) (rest := []) hA hx hb hml hown hSW hS hW (m_X11_start l z ad _ hA A M hF 1 1 h37) mf_X11_start lk_X11_75 hF.1 rfl rfl ⟨rfl, rfl⟩ ⟨Nat.le_of_ble_eq_true rfl, Nat.le_of_ble_eq_true rfl⟩ hl.1 (Nat.le_of_ble_eq_true rfl) dX11_give_28 ⟨Nat.le_of_ble_eq_true rfl, Nat.le_of_ble_eq_true rfl⟩) hS (fun H locs G40 hF hw2 hW hS => ?_)
        replace hw := hw2.trans hw
        clear hw2
        refine lv_if_ne (tgt := 83) hx hb dX11_give_31 (by decide) (fun _ => ?_) (fun hc => absurd hc (by decide))
        refine lv_iconst (v := 0) hx hb dX11_give_83 (by decide) ?_
        refine W.widen (k := 0) (n := 0) (Nat.le_of_ble_eq_true rfl) (Nat.le_of_ble_eq_true rfl) ?_
        exact fm_iw hx hb hr rfl hlocks hW (hF.w hw) hS dX11_give_84 h
-- absent
def g_X11_absent (M : St) (x1 : Int32) (x2 : Int32) : Option (Int32 × Int32) :=
  ob (g_X11_isNoPlayer M x1) fun r2 =>
  ob2 (g_X11_start M r2 1) fun r5 u6 =>
  if r5 = 0 then
    none
  else
    some (0, u6 0 0 0)
set_option maxRecDepth 100000 in
set_option maxHeartbeats 4000000 in
theorem m_X11_absent (l : Launch) (z : Zt) (ad : Ad) (G : Gt) (hA : Raw ad) (A : Nat → Nat) (M : St) (hF : FM z G A M) (x1 : Int32) (x2 : Int32) {r9 : Int32} {t9 : Int32} (h : g_X11_absent M x1 x2 = some (r9, t9)) : MC l z yX11_absent cX11_absent 4 (some .boolean) { frames := 3, cells := 0, slots := 0, locals := 102 } 0 0 [.ref (A 0), .int x1, .int x2] ad G (PWi z ad A r9 t9 (fmO M)) := by
  refine Met.ofW (cc := cX11_absent) (maxL := 4) (ret := (some .boolean)) (by decide) rfl ?_
  intro p e s m args below meth c s₁ B hml hv
  obtain ⟨rfl, hSW, hW⟩ := hv
  have hx := B.exec; have hb := B.bytes; have hr := B.returns; have hlocks := B.notSynchronized
  have hown : s.vm.findClass RX11 = some m.cls := findClass_of_methodNamed B.named
  obtain ⟨hT, hK, hST, hB0⟩ := id hSW
  have hS : va_S (zA z) s.heap s.heap [] := va_S.rf
  have hl := lv_entry ([.ref (A 0), .int x1, .int x2]) (n := 4) (Nat.le_of_ble_eq_true rfl)
  rw [lg_entry_eq]
  generalize (lg_sl ([.ref (A 0), .int x1, .int x2]) ++ List.replicate (4 - (lg_sl ([.ref (A 0), .int x1, .int x2])).length) Slot.unset).toArray = ls at hl ⊢
  have hl : lv_has ls 4 [(0, .ref (A 0)), (1, .int x1), (2, .int x2)] := hl
  have hw : fmO M = fmO M := rfl
  unfold g_X11_absent at h
  refine lv_aload_n hx hb dX11_absent_0 rfl (lv_at hl 0 rfl) ?_
  refine lv_aload_n hx hb dX11_absent_1 rfl (lv_at hl 0 rfl) ?_
  refine lv_iload_n hx hb dX11_absent_2 rfl (lv_at hl 1 rfl) ?_
  obtain ⟨r2, h1, h⟩ := ob_s h
  refine fm_ci (nb_runVr (As := [.int x1]) (rest := [.ref (A 0)]) hA hx hb hml hown hSW hS hW (m_X11_isNoPlayer l z ad _ hA A M hF x1 h1) mf_X11_isNoPlayer lk_X11_174 hF.1 rfl rfl ⟨rfl, rfl⟩ ⟨Nat.le_of_ble_eq_true rfl, Nat.le_of_ble_eq_true rfl⟩ hl.1 (Nat.le_of_ble_eq_true rfl) dX11_absent_3 ⟨Nat.le_of_ble_eq_true rfl, Nat.le_of_ble_eq_true rfl⟩) hS (fun H locs G3 hEG3 hW hS => ?_)
  replace hF := hF.ext0 hEG3
  refine lv_iconst (v := 1) hx hb dX11_absent_6 (by decide) ?_
  obtain ⟨r5, u6, h4, h⟩ := ob2_s h
  refine fm_cs (nb_runVr (As := [.int r2, .int 1]) (rest := []) hA hx hb hml hown hSW hS hW (m_X11_start l z ad _ hA A M hF r2 1 h4) mf_X11_start lk_X11_75 hF.1 rfl rfl ⟨rfl, rfl⟩ ⟨Nat.le_of_ble_eq_true rfl, Nat.le_of_ble_eq_true rfl⟩ hl.1 (Nat.le_of_ble_eq_true rfl) dX11_absent_7 ⟨Nat.le_of_ble_eq_true rfl, Nat.le_of_ble_eq_true rfl⟩) hS (fun H locs G7 hF hw2 hW hS => ?_)
  replace hw := hw2.trans hw
  clear hw2
  refine lv_if_eq (tgt := 15) hx hb dX11_absent_10 (by decide) (fun c8 => ?_) (fun c8 => ?_)
  · replace h := ite_t h c8
    refine lv_aload_n hx hb dX11_absent_15 rfl (lv_at hl 0 rfl) ?_
    refine nb_getr hA hx hb hT hK hown hW fl_X11_31 hF.1 (v := .ref (A 4)) rfl dX11_absent_16 ?_
    refine lv_iload_n hx hb dX11_absent_19 rfl (lv_at hl 1 rfl) ?_
    exact absurd h (by intro q; cases q)
  · replace h := ite_f h c8
    refine lv_iconst (v := 0) hx hb dX11_absent_13 (by decide) ?_
    refine W.widen (k := 0) (n := 0) (Nat.le_of_ble_eq_true rfl) (Nat.le_of_ble_eq_true rfl) ?_
    exact fm_iw hx hb hr rfl hlocks hW (hF.w hw) hS dX11_absent_14 h
-- teach
def g_X11_teach (M : St) (x1 : Int32) (x2 : Int32) (x3 : Int32) : Option (Int32 × Int32) :=
  ob (g_X11_isNoPlayer M x1) fun r2 =>
  if r2 = 0 then
    ob (g_X11_isNoPhrase M x2) fun r11 =>
    if r11 = 0 then
      ob2 (g_X11_start M 0 1) fun r15 u16 =>
      gd (r15 = 0) <|
      none
    else
      ob2 (g_X11_start M 1 1) fun r20 u21 =>
      gd (r20 = 1) <|
      some (0, u21 0 0 0)
  else
    ob2 (g_X11_start M 1 1) fun r6 u7 =>
    gd (r6 = 1) <|
    some (0, u7 0 0 0)
set_option maxRecDepth 100000 in
set_option maxHeartbeats 4000000 in
theorem m_X11_teach (l : Launch) (z : Zt) (ad : Ad) (G : Gt) (hA : Raw ad) (A : Nat → Nat) (M : St) (hF : FM z G A M) (x1 : Int32) (x2 : Int32) (x3 : Int32) {r9 : Int32} {t9 : Int32} (h : g_X11_teach M x1 x2 x3 = some (r9, t9)) : MC l z yX11_teach cX11_teach 5 (some .int) { frames := 3, cells := 0, slots := 0, locals := 102 } 0 0 [.ref (A 0), .int x1, .int x2, .int x3] ad G (PWi z ad A r9 t9 (fmO M)) := by
  refine Met.ofW (cc := cX11_teach) (maxL := 5) (ret := (some .int)) (by decide) rfl ?_
  intro p e s m args below meth c s₁ B hml hv
  obtain ⟨rfl, hSW, hW⟩ := hv
  have hx := B.exec; have hb := B.bytes; have hr := B.returns; have hlocks := B.notSynchronized
  have hown : s.vm.findClass RX11 = some m.cls := findClass_of_methodNamed B.named
  obtain ⟨hT, hK, hST, hB0⟩ := id hSW
  have hS : va_S (zA z) s.heap s.heap [] := va_S.rf
  have hl := lv_entry ([.ref (A 0), .int x1, .int x2, .int x3]) (n := 5) (Nat.le_of_ble_eq_true rfl)
  rw [lg_entry_eq]
  generalize (lg_sl ([.ref (A 0), .int x1, .int x2, .int x3]) ++ List.replicate (5 - (lg_sl ([.ref (A 0), .int x1, .int x2, .int x3])).length) Slot.unset).toArray = ls at hl ⊢
  have hl : lv_has ls 5 [(0, .ref (A 0)), (1, .int x1), (2, .int x2), (3, .int x3)] := hl
  have hw : fmO M = fmO M := rfl
  unfold g_X11_teach at h
  refine lv_aload_n hx hb dX11_teach_0 rfl (lv_at hl 0 rfl) ?_
  refine lv_aload_n hx hb dX11_teach_1 rfl (lv_at hl 0 rfl) ?_
  refine lv_iload_n hx hb dX11_teach_2 rfl (lv_at hl 1 rfl) ?_
  obtain ⟨r2, h1, h⟩ := ob_s h
  refine fm_ci (nb_runVr (As := [.int x1]) (rest := [.ref (A 0)]) hA hx hb hml hown hSW hS hW (m_X11_isNoPlayer l z ad _ hA A M hF x1 h1) mf_X11_isNoPlayer lk_X11_174 hF.1 rfl rfl ⟨rfl, rfl⟩ ⟨Nat.le_of_ble_eq_true rfl, Nat.le_of_ble_eq_true rfl⟩ hl.1 (Nat.le_of_ble_eq_true rfl) dX11_teach_3 ⟨Nat.le_of_ble_eq_true rfl, Nat.le_of_ble_eq_true rfl⟩) hS (fun H locs G3 hEG3 hW hS => ?_)
  replace hF := hF.ext0 hEG3
  refine lv_if_ne (tgt := 17) hx hb dX11_teach_6 (by decide) (fun c4 => ?_) (fun c4 => ?_)
  · replace h := ite_f h c4
    refine lv_iconst (v := 1) hx hb dX11_teach_17 (by decide) ?_
    refine lv_goto (tgt := 22) hx hb dX11_teach_18 (by decide) ?_
    refine lv_iconst (v := 1) hx hb dX11_teach_22 (by decide) ?_
    obtain ⟨r6, u7, h5, h⟩ := ob2_s h
    obtain ⟨g09, hz8⟩ := gd_s h
    clear h
    subst g09
    have h := hz8
    clear hz8
    refine fm_cs (nb_runVr (As := [.int 1, .int 1]) (rest := []) hA hx hb hml hown hSW hS hW (m_X11_start l z ad _ hA A M hF 1 1 h5) mf_X11_start lk_X11_75 hF.1 rfl rfl ⟨rfl, rfl⟩ ⟨Nat.le_of_ble_eq_true rfl, Nat.le_of_ble_eq_true rfl⟩ hl.1 (Nat.le_of_ble_eq_true rfl) dX11_teach_23 ⟨Nat.le_of_ble_eq_true rfl, Nat.le_of_ble_eq_true rfl⟩) hS (fun H locs G8 hF hw2 hW hS => ?_)
    replace hw := hw2.trans hw
    clear hw2
    refine lv_if_eq (tgt := 31) hx hb dX11_teach_26 (by decide) (fun hc => absurd hc (by decide)) (fun _ => ?_)
    refine lv_iconst (v := 0) hx hb dX11_teach_29 (by decide) ?_
    refine W.widen (k := 0) (n := 0) (Nat.le_of_ble_eq_true rfl) (Nat.le_of_ble_eq_true rfl) ?_
    exact fm_iw hx hb hr rfl hlocks hW (hF.w hw) hS dX11_teach_30 h
  · replace h := ite_t h c4
    refine lv_aload_n hx hb dX11_teach_9 rfl (lv_at hl 0 rfl) ?_
    refine lv_iload_n hx hb dX11_teach_10 rfl (lv_at hl 2 rfl) ?_
    obtain ⟨r11, h10, h⟩ := ob_s h
    refine fm_ci (nb_runVr (As := [.int x2]) (rest := [.ref (A 0)]) hA hx hb hml hown hSW hS hW (m_X11_isNoPhrase l z ad _ hA A M hF x2 h10) mf_X11_isNoPhrase lk_X11_126 hF.1 rfl rfl ⟨rfl, rfl⟩ ⟨Nat.le_of_ble_eq_true rfl, Nat.le_of_ble_eq_true rfl⟩ hl.1 (Nat.le_of_ble_eq_true rfl) dX11_teach_11 ⟨Nat.le_of_ble_eq_true rfl, Nat.le_of_ble_eq_true rfl⟩) hS (fun H locs G12 hEG12 hW hS => ?_)
    replace hF := hF.ext0 hEG12
    refine lv_if_eq (tgt := 21) hx hb dX11_teach_14 (by decide) (fun c13 => ?_) (fun c13 => ?_)
    · replace h := ite_t h c13
      refine lv_iconst (v := 0) hx hb dX11_teach_21 (by decide) ?_
      refine lv_iconst (v := 1) hx hb dX11_teach_22 (by decide) ?_
      obtain ⟨r15, u16, h14, h⟩ := ob2_s h
      obtain ⟨g18, hz8⟩ := gd_s h
      clear h
      subst g18
      have h := hz8
      clear hz8
      refine fm_cs (nb_runVr (As := [.int 0, .int 1]) (rest := []) hA hx hb hml hown hSW hS hW (m_X11_start l z ad _ hA A M hF 0 1 h14) mf_X11_start lk_X11_75 hF.1 rfl rfl ⟨rfl, rfl⟩ ⟨Nat.le_of_ble_eq_true rfl, Nat.le_of_ble_eq_true rfl⟩ hl.1 (Nat.le_of_ble_eq_true rfl) dX11_teach_23 ⟨Nat.le_of_ble_eq_true rfl, Nat.le_of_ble_eq_true rfl⟩) hS (fun H locs G17 hF hw2 hW hS => ?_)
      replace hw := hw2.trans hw
      clear hw2
      refine lv_if_eq (tgt := 31) hx hb dX11_teach_26 (by decide) (fun _ => ?_) (fun hc => absurd (by decide) hc)
      refine lv_aload_n hx hb dX11_teach_31 rfl (lv_at hl 0 rfl) ?_
      refine nb_getr hA hx hb hT hK hown hW fl_X11_31 hF.1 (v := .ref (A 4)) rfl dX11_teach_32 ?_
      refine lv_iload_n hx hb dX11_teach_35 rfl (lv_at hl 1 rfl) ?_
      exact absurd h (by intro q; cases q)
    · replace h := ite_f h c13
      refine lv_iconst (v := 1) hx hb dX11_teach_17 (by decide) ?_
      refine lv_goto (tgt := 22) hx hb dX11_teach_18 (by decide) ?_
      refine lv_iconst (v := 1) hx hb dX11_teach_22 (by decide) ?_
      obtain ⟨r20, u21, h19, h⟩ := ob2_s h
      obtain ⟨g23, hz8⟩ := gd_s h
      clear h
      subst g23
      have h := hz8
      clear hz8
      refine fm_cs (nb_runVr (As := [.int 1, .int 1]) (rest := []) hA hx hb hml hown hSW hS hW (m_X11_start l z ad _ hA A M hF 1 1 h19) mf_X11_start lk_X11_75 hF.1 rfl rfl ⟨rfl, rfl⟩ ⟨Nat.le_of_ble_eq_true rfl, Nat.le_of_ble_eq_true rfl⟩ hl.1 (Nat.le_of_ble_eq_true rfl) dX11_teach_23 ⟨Nat.le_of_ble_eq_true rfl, Nat.le_of_ble_eq_true rfl⟩) hS (fun H locs G22 hF hw2 hW hS => ?_)
      replace hw := hw2.trans hw
      clear hw2
      refine lv_if_eq (tgt := 31) hx hb dX11_teach_26 (by decide) (fun hc => absurd hc (by decide)) (fun _ => ?_)
      refine lv_iconst (v := 0) hx hb dX11_teach_29 (by decide) ?_
      refine W.widen (k := 0) (n := 0) (Nat.le_of_ble_eq_true rfl) (Nat.le_of_ble_eq_true rfl) ?_
      exact fm_iw hx hb hr rfl hlocks hW (hF.w hw) hS dX11_teach_30 h
-- rehearse_
def g_X11_rehearse_ (M : St) (x1 : Int32) : Option (Int32 × Int32) :=
  ob (g_X11_isIn x1 10 120) fun r2 =>
  if r2 = 0 then
    ob2 (g_X11_start M 1 1) fun r29 u30 =>
    gd (r29 = 1) <|
    some (0, u30 0 0 0)
  else
    ob2 (g_X11_start M 0 1) fun r6 u7 =>
    gd (r6 = 0) <|
    if ((u7 10 0 0) + x1) ≤ 120 then
      ob2 (g_X11_refuse u7 0 2) fun r12 u13 =>
      gd (r12 = 0) <|
      nm (sset u13 10 0 0 ((u13 10 0 0) + x1)) fun u16 =>
      ob (g_X11_sounding u16) fun r21 =>
      some (r21, u16 0 0 0)
    else
      ob2 (g_X11_refuse u7 1 2) fun r24 u25 =>
      gd (r24 = 1) <|
      some (0, u25 0 0 0)
set_option maxRecDepth 100000 in
set_option maxHeartbeats 4000000 in
theorem m_X11_rehearse_ (l : Launch) (z : Zt) (ad : Ad) (G : Gt) (hA : Raw ad) (A : Nat → Nat) (M : St) (hF : FM z G A M) (x1 : Int32) {r9 : Int32} {t9 : Int32} (h : g_X11_rehearse_ M x1 = some (r9, t9)) : MC l z yX11_rehearse_ cX11_rehearse_ 5 (some .int) { frames := 4, cells := 2, slots := 8, locals := 104 } 2 8 [.ref (A 0), .int x1] ad G (PWi z ad A r9 t9 (fmO M)) := by
  refine Met.ofW (cc := cX11_rehearse_) (maxL := 5) (ret := (some .int)) (by decide) rfl ?_
  intro p e s m args below meth c s₁ B hml hv
  obtain ⟨rfl, hSW, hW⟩ := hv
  have hx := B.exec; have hb := B.bytes; have hr := B.returns; have hlocks := B.notSynchronized
  have hown : s.vm.findClass RX11 = some m.cls := findClass_of_methodNamed B.named
  obtain ⟨hT, hK, hST, hB0⟩ := id hSW
  have hS : va_S (zA z) s.heap s.heap [] := va_S.rf
  have hl := lv_entry ([.ref (A 0), .int x1]) (n := 5) (Nat.le_of_ble_eq_true rfl)
  rw [lg_entry_eq]
  generalize (lg_sl ([.ref (A 0), .int x1]) ++ List.replicate (5 - (lg_sl ([.ref (A 0), .int x1])).length) Slot.unset).toArray = ls at hl ⊢
  have hl : lv_has ls 5 [(0, .ref (A 0)), (1, .int x1)] := hl
  have hw : fmO M = fmO M := rfl
  unfold g_X11_rehearse_ at h
  refine lv_aload_n hx hb dX11_rehearse__0 rfl (lv_at hl 0 rfl) ?_
  refine lv_iload_n hx hb dX11_rehearse__1 rfl (lv_at hl 1 rfl) ?_
  refine lv_bipush (v := 10) hx hb dX11_rehearse__2 (by decide) ?_
  refine lv_bipush (v := 120) hx hb dX11_rehearse__4 (by decide) ?_
  obtain ⟨r2, h1, h⟩ := ob_s h
  refine nb_ci (nb_runS (As := [.int x1, .int 10, .int 120]) (rest := [.ref (A 0)]) hx hb hml hown hSW hS hW (m_X11_isIn l z ad _ hA x1 10 120 h1) mf_X11_isIn lk_X11_63 rfl ⟨rfl, rfl⟩ ⟨Nat.le_of_ble_eq_true rfl, Nat.le_of_ble_eq_true rfl⟩ hl.1 (Nat.le_of_ble_eq_true rfl) dX11_rehearse__6 ⟨Nat.le_of_ble_eq_true rfl, Nat.le_of_ble_eq_true rfl⟩) hS (fun H locs hW hS => ?_)
  refine lv_if_ne (tgt := 16) hx hb dX11_rehearse__9 (by decide) (fun c4 => ?_) (fun c4 => ?_)
  · replace h := ite_f h c4
    refine lv_iconst (v := 0) hx hb dX11_rehearse__16 (by decide) ?_
    refine lv_iconst (v := 1) hx hb dX11_rehearse__17 (by decide) ?_
    obtain ⟨r6, u7, h5, h⟩ := ob2_s h
    obtain ⟨g09, hz8⟩ := gd_s h
    clear h
    subst g09
    have h := hz8
    clear hz8
    refine fm_cs (nb_runVr (As := [.int 0, .int 1]) (rest := []) hA hx hb hml hown hSW hS hW (m_X11_start l z ad _ hA A M hF 0 1 h5) mf_X11_start lk_X11_75 hF.1 rfl rfl ⟨rfl, rfl⟩ ⟨Nat.le_of_ble_eq_true rfl, Nat.le_of_ble_eq_true rfl⟩ hl.1 (Nat.le_of_ble_eq_true rfl) dX11_rehearse__18 ⟨Nat.le_of_ble_eq_true rfl, Nat.le_of_ble_eq_true rfl⟩) hS (fun H locs G8 hF hw2 hW hS => ?_)
    replace hw := hw2.trans hw
    clear hw2
    refine lv_if_ne (tgt := 48) hx hb dX11_rehearse__21 (by decide) (fun hc => absurd (by decide) hc) (fun _ => ?_)
    refine lv_aload_n hx hb dX11_rehearse__24 rfl (lv_at hl 0 rfl) ?_
    refine lv_aload_n hx hb dX11_rehearse__25 rfl (lv_at hl 0 rfl) ?_
    refine nb_getr hA hx hb hT hK hown hW fl_X11_216 hF.1 (v := .int (u7 10 0 0)) rfl dX11_rehearse__26 ?_
    refine lv_iload_n hx hb dX11_rehearse__29 rfl (lv_at hl 1 rfl) ?_
    refine lv_iadd hx hb dX11_rehearse__30 ?_
    refine lv_bipush (v := 120) hx hb dX11_rehearse__31 (by decide) ?_
    refine lv_icmp_le (tgt := 40) hx hb dX11_rehearse__33 (by decide) (fun c10 => ?_) (fun c10 => ?_)
    · replace h := ite_t h c10
      refine lv_iconst (v := 0) hx hb dX11_rehearse__40 (by decide) ?_
      refine lv_iconst (v := 2) hx hb dX11_rehearse__41 (by decide) ?_
      obtain ⟨r12, u13, h11, h⟩ := ob2_s h
      obtain ⟨g15, hz8⟩ := gd_s h
      clear h
      subst g15
      have h := hz8
      clear hz8
      refine fm_cs (nb_runVr (As := [.int 0, .int 2]) (rest := []) hA hx hb hml hown hSW hS hW (m_X11_refuse l z ad _ hA A u7 hF 0 2 h11) mf_X11_refuse lk_X11_59 hF.1 rfl rfl ⟨rfl, rfl⟩ ⟨Nat.le_of_ble_eq_true rfl, Nat.le_of_ble_eq_true rfl⟩ hl.1 (Nat.le_of_ble_eq_true rfl) dX11_rehearse__42 ⟨Nat.le_of_ble_eq_true rfl, Nat.le_of_ble_eq_true rfl⟩) hS (fun H locs G14 hF hw2 hW hS => ?_)
      replace hw := hw2.trans hw
      clear hw2
      refine lv_if_eq (tgt := 50) hx hb dX11_rehearse__45 (by decide) (fun _ => ?_) (fun hc => absurd (by decide) hc)
      refine lv_aload_n hx hb dX11_rehearse__50 rfl (lv_at hl 0 rfl) ?_
      refine lv_dup hx hb dX11_rehearse__51 rfl ?_
      refine nb_getr hA hx hb hT hK hown hW fl_X11_216 hF.1 (v := .int (u13 10 0 0)) rfl dX11_rehearse__52 ?_
      refine lv_iload_n hx hb dX11_rehearse__55 rfl (lv_at hl 1 rfl) ?_
      refine lv_iadd hx hb dX11_rehearse__56 ?_
      obtain ⟨u16, eu16, h⟩ := nm_s h
      refine nb_putr hA hx hb hT hK hown hW hS fl_X11_216 tyX11 tyX11_ok nmX11 hF.1 (v := .int ((u13 10 0 0) + x1)) rfl rfl rfl (Nat.le_of_ble_eq_true rfl) dX11_rehearse__57 (fun H locs G17 hEG17 hcG17 hW hS => ?_)
      replace hF := hF.put (M' := u16) hEG17 hcG17 (by rw [eu16]; rfl) (by rw [eu16]; rfl)
      replace hw : fmO u16 = fmO M := by rw [eu16]; exact hw
      refine lv_aload_n hx hb dX11_rehearse__60 rfl (lv_at hl 0 rfl) ?_
      refine nb_getr hA hx hb hT hK hown hW fl_X11_31 hF.1 (v := .ref (A 4)) rfl dX11_rehearse__61 ?_
      refine fm_cr (nb_runVr (As := []) (rest := []) hA hx hb hml hown hSW hS hW (m_iterator l z ad _ hA (A 4) (hF.2.1 3 (by decide))) mf_Jx4a65c_iterator_32c93 lk_X11_138 (hF.2.1 3 (by decide)) rfl rfl ⟨rfl, rfl⟩ ⟨Nat.le_of_ble_eq_true rfl, Nat.le_of_ble_eq_true rfl⟩ hl.1 (Nat.le_of_ble_eq_true rfl) dX11_rehearse__64 ⟨Nat.le_of_ble_eq_true rfl, Nat.le_of_ble_eq_true rfl⟩) hS (fun H locs G19 q18 hEq18 hcq18 hW hS => ?_)
      replace hF := hF.ext0 hEq18
      refine lv_astore_n (lv' := [(2, .ref q18), (0, .ref (A 0)), (1, .int x1)]) hx hb dX11_rehearse__67 rfl hl (by decide) rfl (fun ls hl => ?_)
      refine lv_aload_n hx hb dX11_rehearse__68 rfl (lv_at hl 0 rfl) ?_
      refine fm_hn (rest := []) hA hx hb hml hown hSW hS hW hcq18 (hF.2.1 3 (by decide)) mh_X11_142 ⟨Nat.le_of_ble_eq_true rfl, Nat.le_of_ble_eq_true rfl⟩ hl.1 (Nat.le_of_ble_eq_true rfl) dX11_rehearse__69 ⟨Nat.le_of_ble_eq_true rfl, Nat.le_of_ble_eq_true rfl⟩ (fun H locs hW hS => ?_)
      refine lv_if_eq (tgt := 140) hx hb dX11_rehearse__74 (by decide) (fun _ => ?_) (fun hc => absurd (by decide) hc)
      refine lv_aload_n hx hb dX11_rehearse__140 rfl (lv_at hl 1 rfl) ?_
      obtain ⟨r21, h20, h⟩ := ob_s h
      refine fm_ci (nb_runVr (As := []) (rest := []) hA hx hb hml hown hSW hS hW (m_X11_sounding l z ad _ hA A u16 hF h20) mf_X11_sounding lk_X11_223 hF.1 rfl rfl ⟨rfl, rfl⟩ ⟨Nat.le_of_ble_eq_true rfl, Nat.le_of_ble_eq_true rfl⟩ hl.1 (Nat.le_of_ble_eq_true rfl) dX11_rehearse__141 ⟨Nat.le_of_ble_eq_true rfl, Nat.le_of_ble_eq_true rfl⟩) hS (fun H locs G22 hEG22 hW hS => ?_)
      replace hF := hF.ext0 hEG22
      replace hcq18 := hEG22 _ _ _ hcq18
      refine W.widen (k := 2) (n := 8) (Nat.le_of_ble_eq_true rfl) (Nat.le_of_ble_eq_true rfl) ?_
      exact fm_iw hx hb hr rfl hlocks hW (hF.w hw) hS dX11_rehearse__144 h
    · replace h := ite_f h c10
      refine lv_iconst (v := 1) hx hb dX11_rehearse__36 (by decide) ?_
      refine lv_goto (tgt := 41) hx hb dX11_rehearse__37 (by decide) ?_
      refine lv_iconst (v := 2) hx hb dX11_rehearse__41 (by decide) ?_
      obtain ⟨r24, u25, h23, h⟩ := ob2_s h
      obtain ⟨g27, hz8⟩ := gd_s h
      clear h
      subst g27
      have h := hz8
      clear hz8
      refine fm_cs (nb_runVr (As := [.int 1, .int 2]) (rest := []) hA hx hb hml hown hSW hS hW (m_X11_refuse l z ad _ hA A u7 hF 1 2 h23) mf_X11_refuse lk_X11_59 hF.1 rfl rfl ⟨rfl, rfl⟩ ⟨Nat.le_of_ble_eq_true rfl, Nat.le_of_ble_eq_true rfl⟩ hl.1 (Nat.le_of_ble_eq_true rfl) dX11_rehearse__42 ⟨Nat.le_of_ble_eq_true rfl, Nat.le_of_ble_eq_true rfl⟩) hS (fun H locs G26 hF hw2 hW hS => ?_)
      replace hw := hw2.trans hw
      clear hw2
      refine lv_if_eq (tgt := 50) hx hb dX11_rehearse__45 (by decide) (fun hc => absurd hc (by decide)) (fun _ => ?_)
      refine lv_iconst (v := 0) hx hb dX11_rehearse__48 (by decide) ?_
      refine W.widen (k := 2) (n := 8) (Nat.le_of_ble_eq_true rfl) (Nat.le_of_ble_eq_true rfl) ?_
      exact fm_iw hx hb hr rfl hlocks hW (hF.w hw) hS dX11_rehearse__49 h
  · replace h := ite_t h c4
    refine lv_iconst (v := 1) hx hb dX11_rehearse__12 (by decide) ?_
    refine lv_goto (tgt := 17) hx hb dX11_rehearse__13 (by decide) ?_
    refine lv_iconst (v := 1) hx hb dX11_rehearse__17 (by decide) ?_
    obtain ⟨r29, u30, h28, h⟩ := ob2_s h
    obtain ⟨g32, hz8⟩ := gd_s h
    clear h
    subst g32
    have h := hz8
    clear hz8
    refine fm_cs (nb_runVr (As := [.int 1, .int 1]) (rest := []) hA hx hb hml hown hSW hS hW (m_X11_start l z ad _ hA A M hF 1 1 h28) mf_X11_start lk_X11_75 hF.1 rfl rfl ⟨rfl, rfl⟩ ⟨Nat.le_of_ble_eq_true rfl, Nat.le_of_ble_eq_true rfl⟩ hl.1 (Nat.le_of_ble_eq_true rfl) dX11_rehearse__18 ⟨Nat.le_of_ble_eq_true rfl, Nat.le_of_ble_eq_true rfl⟩) hS (fun H locs G31 hF hw2 hW hS => ?_)
    replace hw := hw2.trans hw
    clear hw2
    refine lv_if_ne (tgt := 48) hx hb dX11_rehearse__21 (by decide) (fun _ => ?_) (fun hc => absurd hc (by decide))
    refine lv_iconst (v := 0) hx hb dX11_rehearse__48 (by decide) ?_
    refine W.widen (k := 2) (n := 8) (Nat.le_of_ble_eq_true rfl) (Nat.le_of_ble_eq_true rfl) ?_
    exact fm_iw hx hb hr rfl hlocks hW (hF.w hw) hS dX11_rehearse__49 h
-- sponsor
def g_X11_sponsor (M : St) (x1 : Int32) : Option (Int32 × Int32) :=
  ob (g_X11_isIn x1 1 500) fun r2 =>
  if r2 = 0 then
    ob2 (g_X11_start M 1 1) fun r13 u14 =>
    gd (r13 = 1) <|
    some (0, u14 0 0 0)
  else
    ob2 (g_X11_start M 0 1) fun r6 u7 =>
    gd (r6 = 0) <|
    nm (sset u7 12 0 0 ((u7 12 0 0) + x1)) fun u10 =>
    some ((u10 12 0 0), u10 0 0 0)
set_option maxRecDepth 100000 in
set_option maxHeartbeats 4000000 in
theorem m_X11_sponsor (l : Launch) (z : Zt) (ad : Ad) (G : Gt) (hA : Raw ad) (A : Nat → Nat) (M : St) (hF : FM z G A M) (x1 : Int32) {r9 : Int32} {t9 : Int32} (h : g_X11_sponsor M x1 = some (r9, t9)) : MC l z yX11_sponsor cX11_sponsor 2 (some .int) { frames := 2, cells := 0, slots := 0, locals := 44 } 0 0 [.ref (A 0), .int x1] ad G (PWi z ad A r9 t9 (fmO M)) := by
  refine Met.ofW (cc := cX11_sponsor) (maxL := 2) (ret := (some .int)) (by decide) rfl ?_
  intro p e s m args below meth c s₁ B hml hv
  obtain ⟨rfl, hSW, hW⟩ := hv
  have hx := B.exec; have hb := B.bytes; have hr := B.returns; have hlocks := B.notSynchronized
  have hown : s.vm.findClass RX11 = some m.cls := findClass_of_methodNamed B.named
  obtain ⟨hT, hK, hST, hB0⟩ := id hSW
  have hS : va_S (zA z) s.heap s.heap [] := va_S.rf
  have hl := lv_entry ([.ref (A 0), .int x1]) (n := 2) (Nat.le_of_ble_eq_true rfl)
  rw [lg_entry_eq]
  generalize (lg_sl ([.ref (A 0), .int x1]) ++ List.replicate (2 - (lg_sl ([.ref (A 0), .int x1])).length) Slot.unset).toArray = ls at hl ⊢
  have hl : lv_has ls 2 [(0, .ref (A 0)), (1, .int x1)] := hl
  have hw : fmO M = fmO M := rfl
  unfold g_X11_sponsor at h
  refine lv_aload_n hx hb dX11_sponsor_0 rfl (lv_at hl 0 rfl) ?_
  refine lv_iload_n hx hb dX11_sponsor_1 rfl (lv_at hl 1 rfl) ?_
  refine lv_iconst (v := 1) hx hb dX11_sponsor_2 (by decide) ?_
  refine lv_sipush (v := 500) hx hb dX11_sponsor_3 (by decide) ?_
  obtain ⟨r2, h1, h⟩ := ob_s h
  refine nb_ci (nb_runS (As := [.int x1, .int 1, .int 500]) (rest := [.ref (A 0)]) hx hb hml hown hSW hS hW (m_X11_isIn l z ad _ hA x1 1 500 h1) mf_X11_isIn lk_X11_63 rfl ⟨rfl, rfl⟩ ⟨Nat.le_of_ble_eq_true rfl, Nat.le_of_ble_eq_true rfl⟩ hl.1 (Nat.le_of_ble_eq_true rfl) dX11_sponsor_6 ⟨Nat.le_of_ble_eq_true rfl, Nat.le_of_ble_eq_true rfl⟩) hS (fun H locs hW hS => ?_)
  refine lv_if_ne (tgt := 16) hx hb dX11_sponsor_9 (by decide) (fun c4 => ?_) (fun c4 => ?_)
  · replace h := ite_f h c4
    refine lv_iconst (v := 0) hx hb dX11_sponsor_16 (by decide) ?_
    refine lv_iconst (v := 1) hx hb dX11_sponsor_17 (by decide) ?_
    obtain ⟨r6, u7, h5, h⟩ := ob2_s h
    obtain ⟨g09, hz8⟩ := gd_s h
    clear h
    subst g09
    have h := hz8
    clear hz8
    refine fm_cs (nb_runVr (As := [.int 0, .int 1]) (rest := []) hA hx hb hml hown hSW hS hW (m_X11_start l z ad _ hA A M hF 0 1 h5) mf_X11_start lk_X11_75 hF.1 rfl rfl ⟨rfl, rfl⟩ ⟨Nat.le_of_ble_eq_true rfl, Nat.le_of_ble_eq_true rfl⟩ hl.1 (Nat.le_of_ble_eq_true rfl) dX11_sponsor_18 ⟨Nat.le_of_ble_eq_true rfl, Nat.le_of_ble_eq_true rfl⟩) hS (fun H locs G8 hF hw2 hW hS => ?_)
    replace hw := hw2.trans hw
    clear hw2
    refine lv_if_eq (tgt := 26) hx hb dX11_sponsor_21 (by decide) (fun _ => ?_) (fun hc => absurd (by decide) hc)
    refine lv_aload_n hx hb dX11_sponsor_26 rfl (lv_at hl 0 rfl) ?_
    refine lv_dup hx hb dX11_sponsor_27 rfl ?_
    refine nb_getr hA hx hb hT hK hown hW fl_X11_49 hF.1 (v := .int (u7 12 0 0)) rfl dX11_sponsor_28 ?_
    refine lv_iload_n hx hb dX11_sponsor_31 rfl (lv_at hl 1 rfl) ?_
    refine lv_iadd hx hb dX11_sponsor_32 ?_
    obtain ⟨u10, eu10, h⟩ := nm_s h
    refine nb_putr hA hx hb hT hK hown hW hS fl_X11_49 tyX11 tyX11_ok nmX11 hF.1 (v := .int ((u7 12 0 0) + x1)) rfl rfl rfl (Nat.le_of_ble_eq_true rfl) dX11_sponsor_33 (fun H locs G11 hEG11 hcG11 hW hS => ?_)
    replace hF := hF.put (M' := u10) hEG11 hcG11 (by rw [eu10]; rfl) (by rw [eu10]; rfl)
    replace hw : fmO u10 = fmO M := by rw [eu10]; exact hw
    refine lv_aload_n hx hb dX11_sponsor_36 rfl (lv_at hl 0 rfl) ?_
    refine nb_getr hA hx hb hT hK hown hW fl_X11_49 hF.1 (v := .int (u10 12 0 0)) rfl dX11_sponsor_37 ?_
    refine W.widen (k := 0) (n := 0) (Nat.le_of_ble_eq_true rfl) (Nat.le_of_ble_eq_true rfl) ?_
    exact fm_iw hx hb hr rfl hlocks hW (hF.w hw) hS dX11_sponsor_40 h
  · replace h := ite_t h c4
    refine lv_iconst (v := 1) hx hb dX11_sponsor_12 (by decide) ?_
    refine lv_goto (tgt := 17) hx hb dX11_sponsor_13 (by decide) ?_
    refine lv_iconst (v := 1) hx hb dX11_sponsor_17 (by decide) ?_
    obtain ⟨r13, u14, h12, h⟩ := ob2_s h
    obtain ⟨g16, hz8⟩ := gd_s h
    clear h
    subst g16
    have h := hz8
    clear hz8
    refine fm_cs (nb_runVr (As := [.int 1, .int 1]) (rest := []) hA hx hb hml hown hSW hS hW (m_X11_start l z ad _ hA A M hF 1 1 h12) mf_X11_start lk_X11_75 hF.1 rfl rfl ⟨rfl, rfl⟩ ⟨Nat.le_of_ble_eq_true rfl, Nat.le_of_ble_eq_true rfl⟩ hl.1 (Nat.le_of_ble_eq_true rfl) dX11_sponsor_18 ⟨Nat.le_of_ble_eq_true rfl, Nat.le_of_ble_eq_true rfl⟩) hS (fun H locs G15 hF hw2 hW hS => ?_)
    replace hw := hw2.trans hw
    clear hw2
    refine lv_if_eq (tgt := 26) hx hb dX11_sponsor_21 (by decide) (fun hc => absurd hc (by decide)) (fun _ => ?_)
    refine lv_iconst (v := 0) hx hb dX11_sponsor_24 (by decide) ?_
    refine W.widen (k := 0) (n := 0) (Nat.le_of_ble_eq_true rfl) (Nat.le_of_ble_eq_true rfl) ?_
    exact fm_iw hx hb hr rfl hlocks hW (hF.w hw) hS dX11_sponsor_25 h
-- play
def g_X11_play (M : St) : Option (Int32 × Int32) :=
  if (M 15 0 0) = 0 then
    if (M 14 0 0) = (M 11 0 0) then
      ob2 (g_X11_start M 1 1) fun r09 u10 =>
      gd (r09 = 1) <|
      some (0, u10 0 0 0)
    else
      ob (g_X11_sounding M) fun r14 =>
      if r14 = 0 then
        ob2 (g_X11_start M 1 1) fun r18 u19 =>
        gd (r18 = 1) <|
        some (0, u19 0 0 0)
      else
        ob2 (g_X11_start M 1 1) fun r23 u24 =>
        gd (r23 = 1) <|
        some (0, u24 0 0 0)
  else
    ob2 (g_X11_start M 1 1) fun r3 u4 =>
    gd (r3 = 1) <|
    some (0, u4 0 0 0)
set_option maxRecDepth 100000 in
set_option maxHeartbeats 4000000 in
theorem m_X11_play (l : Launch) (z : Zt) (ad : Ad) (G : Gt) (hA : Raw ad) (A : Nat → Nat) (M : St) (hF : FM z G A M) {r9 : Int32} {t9 : Int32} (h : g_X11_play M = some (r9, t9)) : MC l z yX11_play cX11_play 5 (some .int) { frames := 4, cells := 1, slots := 4, locals := 104 } 1 4 [.ref (A 0)] ad G (PWi z ad A r9 t9 (fmO M)) := by
  refine Met.ofW (cc := cX11_play) (maxL := 5) (ret := (some .int)) (by decide) rfl ?_
  intro p e s m args below meth c s₁ B hml hv
  obtain ⟨rfl, hSW, hW⟩ := hv
  have hx := B.exec; have hb := B.bytes; have hr := B.returns; have hlocks := B.notSynchronized
  have hown : s.vm.findClass RX11 = some m.cls := findClass_of_methodNamed B.named
  obtain ⟨hT, hK, hST, hB0⟩ := id hSW
  have hS : va_S (zA z) s.heap s.heap [] := va_S.rf
  have hl := lv_entry ([.ref (A 0)]) (n := 5) (Nat.le_of_ble_eq_true rfl)
  rw [lg_entry_eq]
  generalize (lg_sl ([.ref (A 0)]) ++ List.replicate (5 - (lg_sl ([.ref (A 0)])).length) Slot.unset).toArray = ls at hl ⊢
  have hl : lv_has ls 5 [(0, .ref (A 0))] := hl
  have hw : fmO M = fmO M := rfl
  unfold g_X11_play at h
  refine lv_aload_n hx hb dX11_play_0 rfl (lv_at hl 0 rfl) ?_
  refine lv_aload_n hx hb dX11_play_1 rfl (lv_at hl 0 rfl) ?_
  refine nb_getr hA hx hb hT hK hown hW fl_X11_273 hF.1 (v := .int (M 15 0 0)) rfl dX11_play_2 ?_
  refine lv_if_ne (tgt := 36) hx hb dX11_play_5 (by decide) (fun c1 => ?_) (fun c1 => ?_)
  · replace h := ite_f h c1
    refine lv_iconst (v := 1) hx hb dX11_play_36 (by decide) ?_
    refine lv_goto (tgt := 41) hx hb dX11_play_37 (by decide) ?_
    refine lv_iconst (v := 1) hx hb dX11_play_41 (by decide) ?_
    obtain ⟨r3, u4, h2, h⟩ := ob2_s h
    obtain ⟨g6, hz8⟩ := gd_s h
    clear h
    subst g6
    have h := hz8
    clear hz8
    refine fm_cs (nb_runVr (As := [.int 1, .int 1]) (rest := []) hA hx hb hml hown hSW hS hW (m_X11_start l z ad _ hA A M hF 1 1 h2) mf_X11_start lk_X11_75 hF.1 rfl rfl ⟨rfl, rfl⟩ ⟨Nat.le_of_ble_eq_true rfl, Nat.le_of_ble_eq_true rfl⟩ hl.1 (Nat.le_of_ble_eq_true rfl) dX11_play_42 ⟨Nat.le_of_ble_eq_true rfl, Nat.le_of_ble_eq_true rfl⟩) hS (fun H locs G5 hF hw2 hW hS => ?_)
    replace hw := hw2.trans hw
    clear hw2
    refine lv_if_eq (tgt := 50) hx hb dX11_play_45 (by decide) (fun hc => absurd hc (by decide)) (fun _ => ?_)
    refine lv_iconst (v := 0) hx hb dX11_play_48 (by decide) ?_
    refine W.widen (k := 1) (n := 4) (Nat.le_of_ble_eq_true rfl) (Nat.le_of_ble_eq_true rfl) ?_
    exact fm_iw hx hb hr rfl hlocks hW (hF.w hw) hS dX11_play_49 h
  · replace h := ite_t h c1
    refine lv_aload_n hx hb dX11_play_8 rfl (lv_at hl 0 rfl) ?_
    refine nb_getr hA hx hb hT hK hown hW fl_X11_53 hF.1 (v := .int (M 14 0 0)) rfl dX11_play_9 ?_
    refine lv_aload_n hx hb dX11_play_12 rfl (lv_at hl 0 rfl) ?_
    refine nb_getr hA hx hb hT hK hown hW fl_X11_210 hF.1 (v := .int (M 11 0 0)) rfl dX11_play_13 ?_
    refine lv_icmp_eq (tgt := 36) hx hb dX11_play_16 (by decide) (fun c7 => ?_) (fun c7 => ?_)
    · replace h := ite_t h c7
      refine lv_iconst (v := 1) hx hb dX11_play_36 (by decide) ?_
      refine lv_goto (tgt := 41) hx hb dX11_play_37 (by decide) ?_
      refine lv_iconst (v := 1) hx hb dX11_play_41 (by decide) ?_
      obtain ⟨r09, u10, h8, h⟩ := ob2_s h
      obtain ⟨g12, hz8⟩ := gd_s h
      clear h
      subst g12
      have h := hz8
      clear hz8
      refine fm_cs (nb_runVr (As := [.int 1, .int 1]) (rest := []) hA hx hb hml hown hSW hS hW (m_X11_start l z ad _ hA A M hF 1 1 h8) mf_X11_start lk_X11_75 hF.1 rfl rfl ⟨rfl, rfl⟩ ⟨Nat.le_of_ble_eq_true rfl, Nat.le_of_ble_eq_true rfl⟩ hl.1 (Nat.le_of_ble_eq_true rfl) dX11_play_42 ⟨Nat.le_of_ble_eq_true rfl, Nat.le_of_ble_eq_true rfl⟩) hS (fun H locs G11 hF hw2 hW hS => ?_)
      replace hw := hw2.trans hw
      clear hw2
      refine lv_if_eq (tgt := 50) hx hb dX11_play_45 (by decide) (fun hc => absurd hc (by decide)) (fun _ => ?_)
      refine lv_iconst (v := 0) hx hb dX11_play_48 (by decide) ?_
      refine W.widen (k := 1) (n := 4) (Nat.le_of_ble_eq_true rfl) (Nat.le_of_ble_eq_true rfl) ?_
      exact fm_iw hx hb hr rfl hlocks hW (hF.w hw) hS dX11_play_49 h
    · replace h := ite_f h c7
      refine lv_aload_n hx hb dX11_play_19 rfl (lv_at hl 0 rfl) ?_
      obtain ⟨r14, h13, h⟩ := ob_s h
      refine fm_ci (nb_runVr (As := []) (rest := [.ref (A 0)]) hA hx hb hml hown hSW hS hW (m_X11_sounding l z ad _ hA A M hF h13) mf_X11_sounding lk_X11_223 hF.1 rfl rfl ⟨rfl, rfl⟩ ⟨Nat.le_of_ble_eq_true rfl, Nat.le_of_ble_eq_true rfl⟩ hl.1 (Nat.le_of_ble_eq_true rfl) dX11_play_20 ⟨Nat.le_of_ble_eq_true rfl, Nat.le_of_ble_eq_true rfl⟩) hS (fun H locs G15 hEG15 hW hS => ?_)
      replace hF := hF.ext0 hEG15
      refine lv_if_eq (tgt := 36) hx hb dX11_play_23 (by decide) (fun c16 => ?_) (fun c16 => ?_)
      · replace h := ite_t h c16
        refine lv_iconst (v := 1) hx hb dX11_play_36 (by decide) ?_
        refine lv_goto (tgt := 41) hx hb dX11_play_37 (by decide) ?_
        refine lv_iconst (v := 1) hx hb dX11_play_41 (by decide) ?_
        obtain ⟨r18, u19, h17, h⟩ := ob2_s h
        obtain ⟨g21, hz8⟩ := gd_s h
        clear h
        subst g21
        have h := hz8
        clear hz8
        refine fm_cs (nb_runVr (As := [.int 1, .int 1]) (rest := []) hA hx hb hml hown hSW hS hW (m_X11_start l z ad _ hA A M hF 1 1 h17) mf_X11_start lk_X11_75 hF.1 rfl rfl ⟨rfl, rfl⟩ ⟨Nat.le_of_ble_eq_true rfl, Nat.le_of_ble_eq_true rfl⟩ hl.1 (Nat.le_of_ble_eq_true rfl) dX11_play_42 ⟨Nat.le_of_ble_eq_true rfl, Nat.le_of_ble_eq_true rfl⟩) hS (fun H locs G20 hF hw2 hW hS => ?_)
        replace hw := hw2.trans hw
        clear hw2
        refine lv_if_eq (tgt := 50) hx hb dX11_play_45 (by decide) (fun hc => absurd hc (by decide)) (fun _ => ?_)
        refine lv_iconst (v := 0) hx hb dX11_play_48 (by decide) ?_
        refine W.widen (k := 1) (n := 4) (Nat.le_of_ble_eq_true rfl) (Nat.le_of_ble_eq_true rfl) ?_
        exact fm_iw hx hb hr rfl hlocks hW (hF.w hw) hS dX11_play_49 h
      · replace h := ite_f h c16
        refine lv_aload_n hx hb dX11_play_26 rfl (lv_at hl 0 rfl) ?_
        refine nb_getr hA hx hb hT hK hown hW fl_X11_28 hF.1 (v := .ref (A 3)) rfl dX11_play_27 ?_
        refine nb_ci (nb_runVr (As := []) (rest := [.ref (A 0)]) hA hx hb hml hown hSW hS hW (m_isEmpty l z ad _ hA (A 3) (hF.2.1 2 (by decide))) mf_Jx4a65c_isEmpty_aae02 lk_X11_276 (hF.2.1 2 (by decide)) rfl rfl ⟨rfl, rfl⟩ ⟨Nat.le_of_ble_eq_true rfl, Nat.le_of_ble_eq_true rfl⟩ hl.1 (Nat.le_of_ble_eq_true rfl) dX11_play_30 ⟨Nat.le_of_ble_eq_true rfl, Nat.le_of_ble_eq_true rfl⟩) hS (fun H locs hW hS => ?_)
        refine lv_if_eq (tgt := 40) hx hb dX11_play_33 (by decide) (fun hc => absurd hc (by decide)) (fun _ => ?_)
        refine lv_iconst (v := 1) hx hb dX11_play_36 (by decide) ?_
        refine lv_goto (tgt := 41) hx hb dX11_play_37 (by decide) ?_
        refine lv_iconst (v := 1) hx hb dX11_play_41 (by decide) ?_
        obtain ⟨r23, u24, h22, h⟩ := ob2_s h
        obtain ⟨g26, hz8⟩ := gd_s h
        clear h
        subst g26
        have h := hz8
        clear hz8
        refine fm_cs (nb_runVr (As := [.int 1, .int 1]) (rest := []) hA hx hb hml hown hSW hS hW (m_X11_start l z ad _ hA A M hF 1 1 h22) mf_X11_start lk_X11_75 hF.1 rfl rfl ⟨rfl, rfl⟩ ⟨Nat.le_of_ble_eq_true rfl, Nat.le_of_ble_eq_true rfl⟩ hl.1 (Nat.le_of_ble_eq_true rfl) dX11_play_42 ⟨Nat.le_of_ble_eq_true rfl, Nat.le_of_ble_eq_true rfl⟩) hS (fun H locs G25 hF hw2 hW hS => ?_)
        replace hw := hw2.trans hw
        clear hw2
        refine lv_if_eq (tgt := 50) hx hb dX11_play_45 (by decide) (fun hc => absurd hc (by decide)) (fun _ => ?_)
        refine lv_iconst (v := 0) hx hb dX11_play_48 (by decide) ?_
        refine W.widen (k := 1) (n := 4) (Nat.le_of_ble_eq_true rfl) (Nat.le_of_ble_eq_true rfl) ?_
        exact fm_iw hx hb hr rfl hlocks hW (hF.w hw) hS dX11_play_49 h
-- ofPan
def g_X11_ofPan (M : St) (x1 : Int32) (x2 : Int32) : Option (Int32 × Int32) :=
  ob (g_X11_isNoPan M x1) fun r2 =>
  ob2 (g_X11_start M r2 1) fun r5 u6 =>
  if r5 = 0 then
    ob (g_X11_isIn x2 0 4) fun r10 =>
    if r10 = 0 then
      ob2 (g_X11_refuse u6 1 2) fun r19 u20 =>
      gd (r19 = 1) <|
      some (0, u20 0 0 0)
    else
      ob2 (g_X11_refuse u6 0 2) fun r14 u15 =>
      gd (r14 = 0) <|
      none
  else
    some (0, u6 0 0 0)
set_option maxRecDepth 100000 in
set_option maxHeartbeats 4000000 in
theorem m_X11_ofPan (l : Launch) (z : Zt) (ad : Ad) (G : Gt) (hA : Raw ad) (A : Nat → Nat) (M : St) (hF : FM z G A M) (x1 : Int32) (x2 : Int32) {r9 : Int32} {t9 : Int32} (h : g_X11_ofPan M x1 x2 = some (r9, t9)) : MC l z yX11_ofPan cX11_ofPan 3 (some .int) { frames := 3, cells := 0, slots := 0, locals := 102 } 0 0 [.ref (A 0), .int x1, .int x2] ad G (PWi z ad A r9 t9 (fmO M)) := by
  refine Met.ofW (cc := cX11_ofPan) (maxL := 3) (ret := (some .int)) (by decide) rfl ?_
  intro p e s m args below meth c s₁ B hml hv
  obtain ⟨rfl, hSW, hW⟩ := hv
  have hx := B.exec; have hb := B.bytes; have hr := B.returns; have hlocks := B.notSynchronized
  have hown : s.vm.findClass RX11 = some m.cls := findClass_of_methodNamed B.named
  obtain ⟨hT, hK, hST, hB0⟩ := id hSW
  have hS : va_S (zA z) s.heap s.heap [] := va_S.rf
  have hl := lv_entry ([.ref (A 0), .int x1, .int x2]) (n := 3) (Nat.le_of_ble_eq_true rfl)
  rw [lg_entry_eq]
  generalize (lg_sl ([.ref (A 0), .int x1, .int x2]) ++ List.replicate (3 - (lg_sl ([.ref (A 0), .int x1, .int x2])).length) Slot.unset).toArray = ls at hl ⊢
  have hl : lv_has ls 3 [(0, .ref (A 0)), (1, .int x1), (2, .int x2)] := hl
  have hw : fmO M = fmO M := rfl
  unfold g_X11_ofPan at h
  refine lv_aload_n hx hb dX11_ofPan_0 rfl (lv_at hl 0 rfl) ?_
  refine lv_aload_n hx hb dX11_ofPan_1 rfl (lv_at hl 0 rfl) ?_
  refine lv_iload_n hx hb dX11_ofPan_2 rfl (lv_at hl 1 rfl) ?_
  obtain ⟨r2, h1, h⟩ := ob_s h
  refine fm_ci (nb_runVr (As := [.int x1]) (rest := [.ref (A 0)]) hA hx hb hml hown hSW hS hW (m_X11_isNoPan l z ad _ hA A M hF x1 h1) mf_X11_isNoPan lk_X11_87 hF.1 rfl rfl ⟨rfl, rfl⟩ ⟨Nat.le_of_ble_eq_true rfl, Nat.le_of_ble_eq_true rfl⟩ hl.1 (Nat.le_of_ble_eq_true rfl) dX11_ofPan_3 ⟨Nat.le_of_ble_eq_true rfl, Nat.le_of_ble_eq_true rfl⟩) hS (fun H locs G3 hEG3 hW hS => ?_)
  replace hF := hF.ext0 hEG3
  refine lv_iconst (v := 1) hx hb dX11_ofPan_6 (by decide) ?_
  obtain ⟨r5, u6, h4, h⟩ := ob2_s h
  refine fm_cs (nb_runVr (As := [.int r2, .int 1]) (rest := []) hA hx hb hml hown hSW hS hW (m_X11_start l z ad _ hA A M hF r2 1 h4) mf_X11_start lk_X11_75 hF.1 rfl rfl ⟨rfl, rfl⟩ ⟨Nat.le_of_ble_eq_true rfl, Nat.le_of_ble_eq_true rfl⟩ hl.1 (Nat.le_of_ble_eq_true rfl) dX11_ofPan_7 ⟨Nat.le_of_ble_eq_true rfl, Nat.le_of_ble_eq_true rfl⟩) hS (fun H locs G7 hF hw2 hW hS => ?_)
  replace hw := hw2.trans hw
  clear hw2
  refine lv_if_ne (tgt := 35) hx hb dX11_ofPan_10 (by decide) (fun c8 => ?_) (fun c8 => ?_)
  · replace h := ite_f h c8
    refine lv_iconst (v := 0) hx hb dX11_ofPan_35 (by decide) ?_
    refine lv_goto (tgt := 45) hx hb dX11_ofPan_36 (by decide) ?_
    refine W.widen (k := 0) (n := 0) (Nat.le_of_ble_eq_true rfl) (Nat.le_of_ble_eq_true rfl) ?_
    exact fm_iw hx hb hr rfl hlocks hW (hF.w hw) hS dX11_ofPan_45 h
  · replace h := ite_t h c8
    refine lv_aload_n hx hb dX11_ofPan_13 rfl (lv_at hl 0 rfl) ?_
    refine lv_iload_n hx hb dX11_ofPan_14 rfl (lv_at hl 2 rfl) ?_
    refine lv_iconst (v := 0) hx hb dX11_ofPan_15 (by decide) ?_
    refine lv_iconst (v := 4) hx hb dX11_ofPan_16 (by decide) ?_
    obtain ⟨r10, h09, h⟩ := ob_s h
    refine nb_ci (nb_runS (As := [.int x2, .int 0, .int 4]) (rest := [.ref (A 0)]) hx hb hml hown hSW hS hW (m_X11_isIn l z ad _ hA x2 0 4 h09) mf_X11_isIn lk_X11_63 rfl ⟨rfl, rfl⟩ ⟨Nat.le_of_ble_eq_true rfl, Nat.le_of_ble_eq_true rfl⟩ hl.1 (Nat.le_of_ble_eq_true rfl) dX11_ofPan_17 ⟨Nat.le_of_ble_eq_true rfl, Nat.le_of_ble_eq_true rfl⟩) hS (fun H locs hW hS => ?_)
    refine lv_if_ne (tgt := 27) hx hb dX11_ofPan_20 (by decide) (fun c12 => ?_) (fun c12 => ?_)
    · replace h := ite_f h c12
      refine lv_iconst (v := 0) hx hb dX11_ofPan_27 (by decide) ?_
      refine lv_iconst (v := 2) hx hb dX11_ofPan_28 (by decide) ?_
      obtain ⟨r14, u15, h13, h⟩ := ob2_s h
      obtain ⟨g17, hz8⟩ := gd_s h
      clear h
      subst g17
      have h := hz8
      clear hz8
      refine fm_cs (nb_runVr (As := [.int 0, .int 2]) (rest := []) hA hx hb hml hown hSW hS hW (m_X11_refuse l z ad _ hA A u6 hF 0 2 h13) mf_X11_refuse lk_X11_59 hF.1 rfl rfl ⟨rfl, rfl⟩ ⟨Nat.le_of_ble_eq_true rfl, Nat.le_of_ble_eq_true rfl⟩ hl.1 (Nat.le_of_ble_eq_true rfl) dX11_ofPan_29 ⟨Nat.le_of_ble_eq_true rfl, Nat.le_of_ble_eq_true rfl⟩) hS (fun H locs G16 hF hw2 hW hS => ?_)
      replace hw := hw2.trans hw
      clear hw2
      refine lv_if_eq (tgt := 39) hx hb dX11_ofPan_32 (by decide) (fun _ => ?_) (fun hc => absurd (by decide) hc)
      refine lv_aload_n hx hb dX11_ofPan_39 rfl (lv_at hl 0 rfl) ?_
      refine lv_iload_n hx hb dX11_ofPan_40 rfl (lv_at hl 1 rfl) ?_
      refine lv_iload_n hx hb dX11_ofPan_41 rfl (lv_at hl 2 rfl) ?_
      exact absurd h (by intro q; cases q)
    · replace h := ite_t h c12
      refine lv_iconst (v := 1) hx hb dX11_ofPan_23 (by decide) ?_
      refine lv_goto (tgt := 28) hx hb dX11_ofPan_24 (by decide) ?_
      refine lv_iconst (v := 2) hx hb dX11_ofPan_28 (by decide) ?_
      obtain ⟨r19, u20, h18, h⟩ := ob2_s h
      obtain ⟨g22, hz8⟩ := gd_s h
      clear h
      subst g22
      have h := hz8
      clear hz8
      refine fm_cs (nb_runVr (As := [.int 1, .int 2]) (rest := []) hA hx hb hml hown hSW hS hW (m_X11_refuse l z ad _ hA A u6 hF 1 2 h18) mf_X11_refuse lk_X11_59 hF.1 rfl rfl ⟨rfl, rfl⟩ ⟨Nat.le_of_ble_eq_true rfl, Nat.le_of_ble_eq_true rfl⟩ hl.1 (Nat.le_of_ble_eq_true rfl) dX11_ofPan_29 ⟨Nat.le_of_ble_eq_true rfl, Nat.le_of_ble_eq_true rfl⟩) hS (fun H locs G21 hF hw2 hW hS => ?_)
      replace hw := hw2.trans hw
      clear hw2
      refine lv_if_eq (tgt := 39) hx hb dX11_ofPan_32 (by decide) (fun hc => absurd hc (by decide)) (fun _ => ?_)
      refine lv_iconst (v := 0) hx hb dX11_ofPan_35 (by decide) ?_
      refine lv_goto (tgt := 45) hx hb dX11_ofPan_36 (by decide) ?_
      refine W.widen (k := 0) (n := 0) (Nat.le_of_ble_eq_true rfl) (Nat.le_of_ble_eq_true rfl) ?_
      exact fm_iw hx hb hr rfl hlocks hW (hF.w hw) hS dX11_ofPan_45 h
-- off
def g_X11_off (M : St) (x1 : Int32) (x2 : Int32) : Option (Int32 × Int32) :=
  ob (g_X11_isNoPan M x1) fun r2 =>
  if r2 = 0 then
    ob (g_X11_isIn x2 0 7) fun r11 =>
    if r11 = 0 then
      ob2 (g_X11_start M 1 1) fun r20 u21 =>
      gd (r20 = 1) <|
      some (0, u21 0 0 0)
    else
      ob2 (g_X11_start M 0 1) fun r15 u16 =>
      gd (r15 = 0) <|
      none
  else
    ob2 (g_X11_start M 1 1) fun r6 u7 =>
    gd (r6 = 1) <|
    some (0, u7 0 0 0)
set_option maxRecDepth 100000 in
set_option maxHeartbeats 4000000 in
theorem m_X11_off (l : Launch) (z : Zt) (ad : Ad) (G : Gt) (hA : Raw ad) (A : Nat → Nat) (M : St) (hF : FM z G A M) (x1 : Int32) (x2 : Int32) {r9 : Int32} {t9 : Int32} (h : g_X11_off M x1 x2 = some (r9, t9)) : MC l z yX11_off cX11_off 3 (some .int) { frames := 3, cells := 0, slots := 0, locals := 102 } 0 0 [.ref (A 0), .int x1, .int x2] ad G (PWi z ad A r9 t9 (fmO M)) := by
  refine Met.ofW (cc := cX11_off) (maxL := 3) (ret := (some .int)) (by decide) rfl ?_
  intro p e s m args below meth c s₁ B hml hv
  obtain ⟨rfl, hSW, hW⟩ := hv
  have hx := B.exec; have hb := B.bytes; have hr := B.returns; have hlocks := B.notSynchronized
  have hown : s.vm.findClass RX11 = some m.cls := findClass_of_methodNamed B.named
  obtain ⟨hT, hK, hST, hB0⟩ := id hSW
  have hS : va_S (zA z) s.heap s.heap [] := va_S.rf
  have hl := lv_entry ([.ref (A 0), .int x1, .int x2]) (n := 3) (Nat.le_of_ble_eq_true rfl)
  rw [lg_entry_eq]
  generalize (lg_sl ([.ref (A 0), .int x1, .int x2]) ++ List.replicate (3 - (lg_sl ([.ref (A 0), .int x1, .int x2])).length) Slot.unset).toArray = ls at hl ⊢
  have hl : lv_has ls 3 [(0, .ref (A 0)), (1, .int x1), (2, .int x2)] := hl
  have hw : fmO M = fmO M := rfl
  unfold g_X11_off at h
  refine lv_aload_n hx hb dX11_off_0 rfl (lv_at hl 0 rfl) ?_
  refine lv_aload_n hx hb dX11_off_1 rfl (lv_at hl 0 rfl) ?_
  refine lv_iload_n hx hb dX11_off_2 rfl (lv_at hl 1 rfl) ?_
  obtain ⟨r2, h1, h⟩ := ob_s h
  refine fm_ci (nb_runVr (As := [.int x1]) (rest := [.ref (A 0)]) hA hx hb hml hown hSW hS hW (m_X11_isNoPan l z ad _ hA A M hF x1 h1) mf_X11_isNoPan lk_X11_87 hF.1 rfl rfl ⟨rfl, rfl⟩ ⟨Nat.le_of_ble_eq_true rfl, Nat.le_of_ble_eq_true rfl⟩ hl.1 (Nat.le_of_ble_eq_true rfl) dX11_off_3 ⟨Nat.le_of_ble_eq_true rfl, Nat.le_of_ble_eq_true rfl⟩) hS (fun H locs G3 hEG3 hW hS => ?_)
  replace hF := hF.ext0 hEG3
  refine lv_if_ne (tgt := 19) hx hb dX11_off_6 (by decide) (fun c4 => ?_) (fun c4 => ?_)
  · replace h := ite_f h c4
    refine lv_iconst (v := 1) hx hb dX11_off_19 (by decide) ?_
    refine lv_goto (tgt := 24) hx hb dX11_off_20 (by decide) ?_
    refine lv_iconst (v := 1) hx hb dX11_off_24 (by decide) ?_
    obtain ⟨r6, u7, h5, h⟩ := ob2_s h
    obtain ⟨g09, hz8⟩ := gd_s h
    clear h
    subst g09
    have h := hz8
    clear hz8
    refine fm_cs (nb_runVr (As := [.int 1, .int 1]) (rest := []) hA hx hb hml hown hSW hS hW (m_X11_start l z ad _ hA A M hF 1 1 h5) mf_X11_start lk_X11_75 hF.1 rfl rfl ⟨rfl, rfl⟩ ⟨Nat.le_of_ble_eq_true rfl, Nat.le_of_ble_eq_true rfl⟩ hl.1 (Nat.le_of_ble_eq_true rfl) dX11_off_25 ⟨Nat.le_of_ble_eq_true rfl, Nat.le_of_ble_eq_true rfl⟩) hS (fun H locs G8 hF hw2 hW hS => ?_)
    replace hw := hw2.trans hw
    clear hw2
    refine lv_if_eq (tgt := 35) hx hb dX11_off_28 (by decide) (fun hc => absurd hc (by decide)) (fun _ => ?_)
    refine lv_iconst (v := 0) hx hb dX11_off_31 (by decide) ?_
    refine lv_goto (tgt := 51) hx hb dX11_off_32 (by decide) ?_
    refine W.widen (k := 0) (n := 0) (Nat.le_of_ble_eq_true rfl) (Nat.le_of_ble_eq_true rfl) ?_
    exact fm_iw hx hb hr rfl hlocks hW (hF.w hw) hS dX11_off_51 h
  · replace h := ite_t h c4
    refine lv_iload_n hx hb dX11_off_9 rfl (lv_at hl 2 rfl) ?_
    refine lv_iconst (v := 0) hx hb dX11_off_10 (by decide) ?_
    refine lv_bipush (v := 7) hx hb dX11_off_11 (by decide) ?_
    obtain ⟨r11, h10, h⟩ := ob_s h
    refine nb_ci (nb_runS (As := [.int x2, .int 0, .int 7]) (rest := [.ref (A 0)]) hx hb hml hown hSW hS hW (m_X11_isIn l z ad _ hA x2 0 7 h10) mf_X11_isIn lk_X11_63 rfl ⟨rfl, rfl⟩ ⟨Nat.le_of_ble_eq_true rfl, Nat.le_of_ble_eq_true rfl⟩ hl.1 (Nat.le_of_ble_eq_true rfl) dX11_off_13 ⟨Nat.le_of_ble_eq_true rfl, Nat.le_of_ble_eq_true rfl⟩) hS (fun H locs hW hS => ?_)
    refine lv_if_ne (tgt := 23) hx hb dX11_off_16 (by decide) (fun c13 => ?_) (fun c13 => ?_)
    · replace h := ite_f h c13
      refine lv_iconst (v := 0) hx hb dX11_off_23 (by decide) ?_
      refine lv_iconst (v := 1) hx hb dX11_off_24 (by decide) ?_
      obtain ⟨r15, u16, h14, h⟩ := ob2_s h
      obtain ⟨g18, hz8⟩ := gd_s h
      clear h
      subst g18
      have h := hz8
      clear hz8
      refine fm_cs (nb_runVr (As := [.int 0, .int 1]) (rest := []) hA hx hb hml hown hSW hS hW (m_X11_start l z ad _ hA A M hF 0 1 h14) mf_X11_start lk_X11_75 hF.1 rfl rfl ⟨rfl, rfl⟩ ⟨Nat.le_of_ble_eq_true rfl, Nat.le_of_ble_eq_true rfl⟩ hl.1 (Nat.le_of_ble_eq_true rfl) dX11_off_25 ⟨Nat.le_of_ble_eq_true rfl, Nat.le_of_ble_eq_true rfl⟩) hS (fun H locs G17 hF hw2 hW hS => ?_)
      replace hw := hw2.trans hw
      clear hw2
      refine lv_if_eq (tgt := 35) hx hb dX11_off_28 (by decide) (fun _ => ?_) (fun hc => absurd (by decide) hc)
      refine lv_aload_n hx hb dX11_off_35 rfl (lv_at hl 0 rfl) ?_
      refine nb_getr hA hx hb hT hK hown hW fl_X11_19 hF.1 (v := .ref (A 1)) rfl dX11_off_36 ?_
      refine lv_iload_n hx hb dX11_off_39 rfl (lv_at hl 1 rfl) ?_
      exact absurd h (by intro q; cases q)
    · replace h := ite_t h c13
      refine lv_iconst (v := 1) hx hb dX11_off_19 (by decide) ?_
      refine lv_goto (tgt := 24) hx hb dX11_off_20 (by decide) ?_
      refine lv_iconst (v := 1) hx hb dX11_off_24 (by decide) ?_
      obtain ⟨r20, u21, h19, h⟩ := ob2_s h
      obtain ⟨g23, hz8⟩ := gd_s h
      clear h
      subst g23
      have h := hz8
      clear hz8
      refine fm_cs (nb_runVr (As := [.int 1, .int 1]) (rest := []) hA hx hb hml hown hSW hS hW (m_X11_start l z ad _ hA A M hF 1 1 h19) mf_X11_start lk_X11_75 hF.1 rfl rfl ⟨rfl, rfl⟩ ⟨Nat.le_of_ble_eq_true rfl, Nat.le_of_ble_eq_true rfl⟩ hl.1 (Nat.le_of_ble_eq_true rfl) dX11_off_25 ⟨Nat.le_of_ble_eq_true rfl, Nat.le_of_ble_eq_true rfl⟩) hS (fun H locs G22 hF hw2 hW hS => ?_)
      replace hw := hw2.trans hw
      clear hw2
      refine lv_if_eq (tgt := 35) hx hb dX11_off_28 (by decide) (fun hc => absurd hc (by decide)) (fun _ => ?_)
      refine lv_iconst (v := 0) hx hb dX11_off_31 (by decide) ?_
      refine lv_goto (tgt := 51) hx hb dX11_off_32 (by decide) ?_
      refine W.widen (k := 0) (n := 0) (Nat.le_of_ble_eq_true rfl) (Nat.le_of_ble_eq_true rfl) ?_
      exact fm_iw hx hb hr rfl hlocks hW (hF.w hw) hS dX11_off_51 h
-- ofPhrase
def g_X11_ofPhrase (M : St) (x1 : Int32) (x2 : Int32) : Option (Int32 × Int32) :=
  ob (g_X11_isNoPhrase M x1) fun r2 =>
  ob2 (g_X11_start M r2 1) fun r5 u6 =>
  if r5 = 0 then
    ob (g_X11_isIn x2 0 4) fun r10 =>
    if r10 = 0 then
      ob2 (g_X11_refuse u6 1 2) fun r19 u20 =>
      gd (r19 = 1) <|
      some (0, u20 0 0 0)
    else
      ob2 (g_X11_refuse u6 0 2) fun r14 u15 =>
      gd (r14 = 0) <|
      none
  else
    some (0, u6 0 0 0)
set_option maxRecDepth 100000 in
set_option maxHeartbeats 4000000 in
theorem m_X11_ofPhrase (l : Launch) (z : Zt) (ad : Ad) (G : Gt) (hA : Raw ad) (A : Nat → Nat) (M : St) (hF : FM z G A M) (x1 : Int32) (x2 : Int32) {r9 : Int32} {t9 : Int32} (h : g_X11_ofPhrase M x1 x2 = some (r9, t9)) : MC l z yX11_ofPhrase cX11_ofPhrase 3 (some .int) { frames := 3, cells := 0, slots := 0, locals := 102 } 0 0 [.ref (A 0), .int x1, .int x2] ad G (PWi z ad A r9 t9 (fmO M)) := by
  refine Met.ofW (cc := cX11_ofPhrase) (maxL := 3) (ret := (some .int)) (by decide) rfl ?_
  intro p e s m args below meth c s₁ B hml hv
  obtain ⟨rfl, hSW, hW⟩ := hv
  have hx := B.exec; have hb := B.bytes; have hr := B.returns; have hlocks := B.notSynchronized
  have hown : s.vm.findClass RX11 = some m.cls := findClass_of_methodNamed B.named
  obtain ⟨hT, hK, hST, hB0⟩ := id hSW
  have hS : va_S (zA z) s.heap s.heap [] := va_S.rf
  have hl := lv_entry ([.ref (A 0), .int x1, .int x2]) (n := 3) (Nat.le_of_ble_eq_true rfl)
  rw [lg_entry_eq]
  generalize (lg_sl ([.ref (A 0), .int x1, .int x2]) ++ List.replicate (3 - (lg_sl ([.ref (A 0), .int x1, .int x2])).length) Slot.unset).toArray = ls at hl ⊢
  have hl : lv_has ls 3 [(0, .ref (A 0)), (1, .int x1), (2, .int x2)] := hl
  have hw : fmO M = fmO M := rfl
  unfold g_X11_ofPhrase at h
  refine lv_aload_n hx hb dX11_ofPhrase_0 rfl (lv_at hl 0 rfl) ?_
  refine lv_aload_n hx hb dX11_ofPhrase_1 rfl (lv_at hl 0 rfl) ?_
  refine lv_iload_n hx hb dX11_ofPhrase_2 rfl (lv_at hl 1 rfl) ?_
  obtain ⟨r2, h1, h⟩ := ob_s h
  refine fm_ci (nb_runVr (As := [.int x1]) (rest := [.ref (A 0)]) hA hx hb hml hown hSW hS hW (m_X11_isNoPhrase l z ad _ hA A M hF x1 h1) mf_X11_isNoPhrase lk_X11_126 hF.1 rfl rfl ⟨rfl, rfl⟩ ⟨Nat.le_of_ble_eq_true rfl, Nat.le_of_ble_eq_true rfl⟩ hl.1 (Nat.le_of_ble_eq_true rfl) dX11_ofPhrase_3 ⟨Nat.le_of_ble_eq_true rfl, Nat.le_of_ble_eq_true rfl⟩) hS (fun H locs G3 hEG3 hW hS => ?_)
  replace hF := hF.ext0 hEG3
  refine lv_iconst (v := 1) hx hb dX11_ofPhrase_6 (by decide) ?_
  obtain ⟨r5, u6, h4, h⟩ := ob2_s h
  refine fm_cs (nb_runVr (As := [.int r2, .int 1]) (rest := []) hA hx hb hml hown hSW hS hW (m_X11_start l z ad _ hA A M hF r2 1 h4) mf_X11_start lk_X11_75 hF.1 rfl rfl ⟨rfl, rfl⟩ ⟨Nat.le_of_ble_eq_true rfl, Nat.le_of_ble_eq_true rfl⟩ hl.1 (Nat.le_of_ble_eq_true rfl) dX11_ofPhrase_7 ⟨Nat.le_of_ble_eq_true rfl, Nat.le_of_ble_eq_true rfl⟩) hS (fun H locs G7 hF hw2 hW hS => ?_)
  replace hw := hw2.trans hw
  clear hw2
  refine lv_if_ne (tgt := 35) hx hb dX11_ofPhrase_10 (by decide) (fun c8 => ?_) (fun c8 => ?_)
  · replace h := ite_f h c8
    refine lv_iconst (v := 0) hx hb dX11_ofPhrase_35 (by decide) ?_
    refine lv_goto (tgt := 45) hx hb dX11_ofPhrase_36 (by decide) ?_
    refine W.widen (k := 0) (n := 0) (Nat.le_of_ble_eq_true rfl) (Nat.le_of_ble_eq_true rfl) ?_
    exact fm_iw hx hb hr rfl hlocks hW (hF.w hw) hS dX11_ofPhrase_45 h
  · replace h := ite_t h c8
    refine lv_aload_n hx hb dX11_ofPhrase_13 rfl (lv_at hl 0 rfl) ?_
    refine lv_iload_n hx hb dX11_ofPhrase_14 rfl (lv_at hl 2 rfl) ?_
    refine lv_iconst (v := 0) hx hb dX11_ofPhrase_15 (by decide) ?_
    refine lv_iconst (v := 4) hx hb dX11_ofPhrase_16 (by decide) ?_
    obtain ⟨r10, h09, h⟩ := ob_s h
    refine nb_ci (nb_runS (As := [.int x2, .int 0, .int 4]) (rest := [.ref (A 0)]) hx hb hml hown hSW hS hW (m_X11_isIn l z ad _ hA x2 0 4 h09) mf_X11_isIn lk_X11_63 rfl ⟨rfl, rfl⟩ ⟨Nat.le_of_ble_eq_true rfl, Nat.le_of_ble_eq_true rfl⟩ hl.1 (Nat.le_of_ble_eq_true rfl) dX11_ofPhrase_17 ⟨Nat.le_of_ble_eq_true rfl, Nat.le_of_ble_eq_true rfl⟩) hS (fun H locs hW hS => ?_)
    refine lv_if_ne (tgt := 27) hx hb dX11_ofPhrase_20 (by decide) (fun c12 => ?_) (fun c12 => ?_)
    · replace h := ite_f h c12
      refine lv_iconst (v := 0) hx hb dX11_ofPhrase_27 (by decide) ?_
      refine lv_iconst (v := 2) hx hb dX11_ofPhrase_28 (by decide) ?_
      obtain ⟨r14, u15, h13, h⟩ := ob2_s h
      obtain ⟨g17, hz8⟩ := gd_s h
      clear h
      subst g17
      have h := hz8
      clear hz8
      refine fm_cs (nb_runVr (As := [.int 0, .int 2]) (rest := []) hA hx hb hml hown hSW hS hW (m_X11_refuse l z ad _ hA A u6 hF 0 2 h13) mf_X11_refuse lk_X11_59 hF.1 rfl rfl ⟨rfl, rfl⟩ ⟨Nat.le_of_ble_eq_true rfl, Nat.le_of_ble_eq_true rfl⟩ hl.1 (Nat.le_of_ble_eq_true rfl) dX11_ofPhrase_29 ⟨Nat.le_of_ble_eq_true rfl, Nat.le_of_ble_eq_true rfl⟩) hS (fun H locs G16 hF hw2 hW hS => ?_)
      replace hw := hw2.trans hw
      clear hw2
      refine lv_if_eq (tgt := 39) hx hb dX11_ofPhrase_32 (by decide) (fun _ => ?_) (fun hc => absurd (by decide) hc)
      refine lv_aload_n hx hb dX11_ofPhrase_39 rfl (lv_at hl 0 rfl) ?_
      refine lv_iload_n hx hb dX11_ofPhrase_40 rfl (lv_at hl 1 rfl) ?_
      refine lv_iload_n hx hb dX11_ofPhrase_41 rfl (lv_at hl 2 rfl) ?_
      exact absurd h (by intro q; cases q)
    · replace h := ite_t h c12
      refine lv_iconst (v := 1) hx hb dX11_ofPhrase_23 (by decide) ?_
      refine lv_goto (tgt := 28) hx hb dX11_ofPhrase_24 (by decide) ?_
      refine lv_iconst (v := 2) hx hb dX11_ofPhrase_28 (by decide) ?_
      obtain ⟨r19, u20, h18, h⟩ := ob2_s h
      obtain ⟨g22, hz8⟩ := gd_s h
      clear h
      subst g22
      have h := hz8
      clear hz8
      refine fm_cs (nb_runVr (As := [.int 1, .int 2]) (rest := []) hA hx hb hml hown hSW hS hW (m_X11_refuse l z ad _ hA A u6 hF 1 2 h18) mf_X11_refuse lk_X11_59 hF.1 rfl rfl ⟨rfl, rfl⟩ ⟨Nat.le_of_ble_eq_true rfl, Nat.le_of_ble_eq_true rfl⟩ hl.1 (Nat.le_of_ble_eq_true rfl) dX11_ofPhrase_29 ⟨Nat.le_of_ble_eq_true rfl, Nat.le_of_ble_eq_true rfl⟩) hS (fun H locs G21 hF hw2 hW hS => ?_)
      replace hw := hw2.trans hw
      clear hw2
      refine lv_if_eq (tgt := 39) hx hb dX11_ofPhrase_32 (by decide) (fun hc => absurd hc (by decide)) (fun _ => ?_)
      refine lv_iconst (v := 0) hx hb dX11_ofPhrase_35 (by decide) ?_
      refine lv_goto (tgt := 45) hx hb dX11_ofPhrase_36 (by decide) ?_
      refine W.widen (k := 0) (n := 0) (Nat.le_of_ble_eq_true rfl) (Nat.le_of_ble_eq_true rfl) ?_
      exact fm_iw hx hb hr rfl hlocks hW (hF.w hw) hS dX11_ofPhrase_45 h
-- ofPlayer
def g_X11_ofPlayer (M : St) (x1 : Int32) (x2 : Int32) : Option (Int32 × Int32) :=
  ob (g_X11_isNoPlayer M x1) fun r2 =>
  ob2 (g_X11_start M r2 1) fun r5 u6 =>
  if r5 = 0 then
    ob (g_X11_isIn x2 0 6) fun r10 =>
    if r10 = 0 then
      ob2 (g_X11_refuse u6 1 2) fun r19 u20 =>
      gd (r19 = 1) <|
      some (0, u20 0 0 0)
    else
      ob2 (g_X11_refuse u6 0 2) fun r14 u15 =>
      gd (r14 = 0) <|
      none
  else
    some (0, u6 0 0 0)
set_option maxRecDepth 100000 in
set_option maxHeartbeats 4000000 in
theorem m_X11_ofPlayer (l : Launch) (z : Zt) (ad : Ad) (G : Gt) (hA : Raw ad) (A : Nat → Nat) (M : St) (hF : FM z G A M) (x1 : Int32) (x2 : Int32) {r9 : Int32} {t9 : Int32} (h : g_X11_ofPlayer M x1 x2 = some (r9, t9)) : MC l z yX11_ofPlayer cX11_ofPlayer 3 (some .int) { frames := 3, cells := 0, slots := 0, locals := 102 } 0 0 [.ref (A 0), .int x1, .int x2] ad G (PWi z ad A r9 t9 (fmO M)) := by
  refine Met.ofW (cc := cX11_ofPlayer) (maxL := 3) (ret := (some .int)) (by decide) rfl ?_
  intro p e s m args below meth c s₁ B hml hv
  obtain ⟨rfl, hSW, hW⟩ := hv
  have hx := B.exec; have hb := B.bytes; have hr := B.returns; have hlocks := B.notSynchronized
  have hown : s.vm.findClass RX11 = some m.cls := findClass_of_methodNamed B.named
  obtain ⟨hT, hK, hST, hB0⟩ := id hSW
  have hS : va_S (zA z) s.heap s.heap [] := va_S.rf
  have hl := lv_entry ([.ref (A 0), .int x1, .int x2]) (n := 3) (Nat.le_of_ble_eq_true rfl)
  rw [lg_entry_eq]
  generalize (lg_sl ([.ref (A 0), .int x1, .int x2]) ++ List.replicate (3 - (lg_sl ([.ref (A 0), .int x1, .int x2])).length) Slot.unset).toArray = ls at hl ⊢
  have hl : lv_has ls 3 [(0, .ref (A 0)), (1, .int x1), (2, .int x2)] := hl
  have hw : fmO M = fmO M := rfl
  unfold g_X11_ofPlayer at h
  refine lv_aload_n hx hb dX11_ofPlayer_0 rfl (lv_at hl 0 rfl) ?_
  refine lv_aload_n hx hb dX11_ofPlayer_1 rfl (lv_at hl 0 rfl) ?_
  refine lv_iload_n hx hb dX11_ofPlayer_2 rfl (lv_at hl 1 rfl) ?_
  obtain ⟨r2, h1, h⟩ := ob_s h
  refine fm_ci (nb_runVr (As := [.int x1]) (rest := [.ref (A 0)]) hA hx hb hml hown hSW hS hW (m_X11_isNoPlayer l z ad _ hA A M hF x1 h1) mf_X11_isNoPlayer lk_X11_174 hF.1 rfl rfl ⟨rfl, rfl⟩ ⟨Nat.le_of_ble_eq_true rfl, Nat.le_of_ble_eq_true rfl⟩ hl.1 (Nat.le_of_ble_eq_true rfl) dX11_ofPlayer_3 ⟨Nat.le_of_ble_eq_true rfl, Nat.le_of_ble_eq_true rfl⟩) hS (fun H locs G3 hEG3 hW hS => ?_)
  replace hF := hF.ext0 hEG3
  refine lv_iconst (v := 1) hx hb dX11_ofPlayer_6 (by decide) ?_
  obtain ⟨r5, u6, h4, h⟩ := ob2_s h
  refine fm_cs (nb_runVr (As := [.int r2, .int 1]) (rest := []) hA hx hb hml hown hSW hS hW (m_X11_start l z ad _ hA A M hF r2 1 h4) mf_X11_start lk_X11_75 hF.1 rfl rfl ⟨rfl, rfl⟩ ⟨Nat.le_of_ble_eq_true rfl, Nat.le_of_ble_eq_true rfl⟩ hl.1 (Nat.le_of_ble_eq_true rfl) dX11_ofPlayer_7 ⟨Nat.le_of_ble_eq_true rfl, Nat.le_of_ble_eq_true rfl⟩) hS (fun H locs G7 hF hw2 hW hS => ?_)
  replace hw := hw2.trans hw
  clear hw2
  refine lv_if_ne (tgt := 36) hx hb dX11_ofPlayer_10 (by decide) (fun c8 => ?_) (fun c8 => ?_)
  · replace h := ite_f h c8
    refine lv_iconst (v := 0) hx hb dX11_ofPlayer_36 (by decide) ?_
    refine lv_goto (tgt := 46) hx hb dX11_ofPlayer_37 (by decide) ?_
    refine W.widen (k := 0) (n := 0) (Nat.le_of_ble_eq_true rfl) (Nat.le_of_ble_eq_true rfl) ?_
    exact fm_iw hx hb hr rfl hlocks hW (hF.w hw) hS dX11_ofPlayer_46 h
  · replace h := ite_t h c8
    refine lv_aload_n hx hb dX11_ofPlayer_13 rfl (lv_at hl 0 rfl) ?_
    refine lv_iload_n hx hb dX11_ofPlayer_14 rfl (lv_at hl 2 rfl) ?_
    refine lv_iconst (v := 0) hx hb dX11_ofPlayer_15 (by decide) ?_
    refine lv_bipush (v := 6) hx hb dX11_ofPlayer_16 (by decide) ?_
    obtain ⟨r10, h09, h⟩ := ob_s h
    refine nb_ci (nb_runS (As := [.int x2, .int 0, .int 6]) (rest := [.ref (A 0)]) hx hb hml hown hSW hS hW (m_X11_isIn l z ad _ hA x2 0 6 h09) mf_X11_isIn lk_X11_63 rfl ⟨rfl, rfl⟩ ⟨Nat.le_of_ble_eq_true rfl, Nat.le_of_ble_eq_true rfl⟩ hl.1 (Nat.le_of_ble_eq_true rfl) dX11_ofPlayer_18 ⟨Nat.le_of_ble_eq_true rfl, Nat.le_of_ble_eq_true rfl⟩) hS (fun H locs hW hS => ?_)
    refine lv_if_ne (tgt := 28) hx hb dX11_ofPlayer_21 (by decide) (fun c12 => ?_) (fun c12 => ?_)
    · replace h := ite_f h c12
      refine lv_iconst (v := 0) hx hb dX11_ofPlayer_28 (by decide) ?_
      refine lv_iconst (v := 2) hx hb dX11_ofPlayer_29 (by decide) ?_
      obtain ⟨r14, u15, h13, h⟩ := ob2_s h
      obtain ⟨g17, hz8⟩ := gd_s h
      clear h
      subst g17
      have h := hz8
      clear hz8
      refine fm_cs (nb_runVr (As := [.int 0, .int 2]) (rest := []) hA hx hb hml hown hSW hS hW (m_X11_refuse l z ad _ hA A u6 hF 0 2 h13) mf_X11_refuse lk_X11_59 hF.1 rfl rfl ⟨rfl, rfl⟩ ⟨Nat.le_of_ble_eq_true rfl, Nat.le_of_ble_eq_true rfl⟩ hl.1 (Nat.le_of_ble_eq_true rfl) dX11_ofPlayer_30 ⟨Nat.le_of_ble_eq_true rfl, Nat.le_of_ble_eq_true rfl⟩) hS (fun H locs G16 hF hw2 hW hS => ?_)
      replace hw := hw2.trans hw
      clear hw2
      refine lv_if_eq (tgt := 40) hx hb dX11_ofPlayer_33 (by decide) (fun _ => ?_) (fun hc => absurd (by decide) hc)
      refine lv_aload_n hx hb dX11_ofPlayer_40 rfl (lv_at hl 0 rfl) ?_
      refine lv_iload_n hx hb dX11_ofPlayer_41 rfl (lv_at hl 1 rfl) ?_
      refine lv_iload_n hx hb dX11_ofPlayer_42 rfl (lv_at hl 2 rfl) ?_
      exact absurd h (by intro q; cases q)
    · replace h := ite_t h c12
      refine lv_iconst (v := 1) hx hb dX11_ofPlayer_24 (by decide) ?_
      refine lv_goto (tgt := 29) hx hb dX11_ofPlayer_25 (by decide) ?_
      refine lv_iconst (v := 2) hx hb dX11_ofPlayer_29 (by decide) ?_
      obtain ⟨r19, u20, h18, h⟩ := ob2_s h
      obtain ⟨g22, hz8⟩ := gd_s h
      clear h
      subst g22
      have h := hz8
      clear hz8
      refine fm_cs (nb_runVr (As := [.int 1, .int 2]) (rest := []) hA hx hb hml hown hSW hS hW (m_X11_refuse l z ad _ hA A u6 hF 1 2 h18) mf_X11_refuse lk_X11_59 hF.1 rfl rfl ⟨rfl, rfl⟩ ⟨Nat.le_of_ble_eq_true rfl, Nat.le_of_ble_eq_true rfl⟩ hl.1 (Nat.le_of_ble_eq_true rfl) dX11_ofPlayer_30 ⟨Nat.le_of_ble_eq_true rfl, Nat.le_of_ble_eq_true rfl⟩) hS (fun H locs G21 hF hw2 hW hS => ?_)
      replace hw := hw2.trans hw
      clear hw2
      refine lv_if_eq (tgt := 40) hx hb dX11_ofPlayer_33 (by decide) (fun hc => absurd hc (by decide)) (fun _ => ?_)
      refine lv_iconst (v := 0) hx hb dX11_ofPlayer_36 (by decide) ?_
      refine lv_goto (tgt := 46) hx hb dX11_ofPlayer_37 (by decide) ?_
      refine W.widen (k := 0) (n := 0) (Nat.le_of_ble_eq_true rfl) (Nat.le_of_ble_eq_true rfl) ?_
      exact fm_iw hx hb hr rfl hlocks hW (hF.w hw) hS dX11_ofPlayer_46 h
-- memory
def g_X11_memory (M : St) (x1 : Int32) (x2 : Int32) : Option (Int32 × Int32) :=
  ob (g_X11_isNoPlayer M x1) fun r2 =>
  if r2 = 0 then
    ob (g_X11_isNoPhrase M x2) fun r11 =>
    if r11 = 0 then
      ob2 (g_X11_start M 0 1) fun r15 u16 =>
      gd (r15 = 0) <|
      none
    else
      ob2 (g_X11_start M 1 1) fun r20 u21 =>
      gd (r20 = 1) <|
      some (0, u21 0 0 0)
  else
    ob2 (g_X11_start M 1 1) fun r6 u7 =>
    gd (r6 = 1) <|
    some (0, u7 0 0 0)
set_option maxRecDepth 100000 in
set_option maxHeartbeats 4000000 in
theorem m_X11_memory (l : Launch) (z : Zt) (ad : Ad) (G : Gt) (hA : Raw ad) (A : Nat → Nat) (M : St) (hF : FM z G A M) (x1 : Int32) (x2 : Int32) {r9 : Int32} {t9 : Int32} (h : g_X11_memory M x1 x2 = some (r9, t9)) : MC l z yX11_memory cX11_memory 3 (some .int) { frames := 3, cells := 0, slots := 0, locals := 102 } 0 0 [.ref (A 0), .int x1, .int x2] ad G (PWi z ad A r9 t9 (fmO M)) := by
  refine Met.ofW (cc := cX11_memory) (maxL := 3) (ret := (some .int)) (by decide) rfl ?_
  intro p e s m args below meth c s₁ B hml hv
  obtain ⟨rfl, hSW, hW⟩ := hv
  have hx := B.exec; have hb := B.bytes; have hr := B.returns; have hlocks := B.notSynchronized
  have hown : s.vm.findClass RX11 = some m.cls := findClass_of_methodNamed B.named
  obtain ⟨hT, hK, hST, hB0⟩ := id hSW
  have hS : va_S (zA z) s.heap s.heap [] := va_S.rf
  have hl := lv_entry ([.ref (A 0), .int x1, .int x2]) (n := 3) (Nat.le_of_ble_eq_true rfl)
  rw [lg_entry_eq]
  generalize (lg_sl ([.ref (A 0), .int x1, .int x2]) ++ List.replicate (3 - (lg_sl ([.ref (A 0), .int x1, .int x2])).length) Slot.unset).toArray = ls at hl ⊢
  have hl : lv_has ls 3 [(0, .ref (A 0)), (1, .int x1), (2, .int x2)] := hl
  have hw : fmO M = fmO M := rfl
  unfold g_X11_memory at h
  refine lv_aload_n hx hb dX11_memory_0 rfl (lv_at hl 0 rfl) ?_
  refine lv_aload_n hx hb dX11_memory_1 rfl (lv_at hl 0 rfl) ?_
  refine lv_iload_n hx hb dX11_memory_2 rfl (lv_at hl 1 rfl) ?_
  obtain ⟨r2, h1, h⟩ := ob_s h
  refine fm_ci (nb_runVr (As := [.int x1]) (rest := [.ref (A 0)]) hA hx hb hml hown hSW hS hW (m_X11_isNoPlayer l z ad _ hA A M hF x1 h1) mf_X11_isNoPlayer lk_X11_174 hF.1 rfl rfl ⟨rfl, rfl⟩ ⟨Nat.le_of_ble_eq_true rfl, Nat.le_of_ble_eq_true rfl⟩ hl.1 (Nat.le_of_ble_eq_true rfl) dX11_memory_3 ⟨Nat.le_of_ble_eq_true rfl, Nat.le_of_ble_eq_true rfl⟩) hS (fun H locs G3 hEG3 hW hS => ?_)
  replace hF := hF.ext0 hEG3
  refine lv_if_ne (tgt := 17) hx hb dX11_memory_6 (by decide) (fun c4 => ?_) (fun c4 => ?_)
  · replace h := ite_f h c4
    refine lv_iconst (v := 1) hx hb dX11_memory_17 (by decide) ?_
    refine lv_goto (tgt := 22) hx hb dX11_memory_18 (by decide) ?_
    refine lv_iconst (v := 1) hx hb dX11_memory_22 (by decide) ?_
    obtain ⟨r6, u7, h5, h⟩ := ob2_s h
    obtain ⟨g09, hz8⟩ := gd_s h
    clear h
    subst g09
    have h := hz8
    clear hz8
    refine fm_cs (nb_runVr (As := [.int 1, .int 1]) (rest := []) hA hx hb hml hown hSW hS hW (m_X11_start l z ad _ hA A M hF 1 1 h5) mf_X11_start lk_X11_75 hF.1 rfl rfl ⟨rfl, rfl⟩ ⟨Nat.le_of_ble_eq_true rfl, Nat.le_of_ble_eq_true rfl⟩ hl.1 (Nat.le_of_ble_eq_true rfl) dX11_memory_23 ⟨Nat.le_of_ble_eq_true rfl, Nat.le_of_ble_eq_true rfl⟩) hS (fun H locs G8 hF hw2 hW hS => ?_)
    replace hw := hw2.trans hw
    clear hw2
    refine lv_if_eq (tgt := 33) hx hb dX11_memory_26 (by decide) (fun hc => absurd hc (by decide)) (fun _ => ?_)
    refine lv_iconst (v := 0) hx hb dX11_memory_29 (by decide) ?_
    refine lv_goto (tgt := 49) hx hb dX11_memory_30 (by decide) ?_
    refine W.widen (k := 0) (n := 0) (Nat.le_of_ble_eq_true rfl) (Nat.le_of_ble_eq_true rfl) ?_
    exact fm_iw hx hb hr rfl hlocks hW (hF.w hw) hS dX11_memory_49 h
  · replace h := ite_t h c4
    refine lv_aload_n hx hb dX11_memory_9 rfl (lv_at hl 0 rfl) ?_
    refine lv_iload_n hx hb dX11_memory_10 rfl (lv_at hl 2 rfl) ?_
    obtain ⟨r11, h10, h⟩ := ob_s h
    refine fm_ci (nb_runVr (As := [.int x2]) (rest := [.ref (A 0)]) hA hx hb hml hown hSW hS hW (m_X11_isNoPhrase l z ad _ hA A M hF x2 h10) mf_X11_isNoPhrase lk_X11_126 hF.1 rfl rfl ⟨rfl, rfl⟩ ⟨Nat.le_of_ble_eq_true rfl, Nat.le_of_ble_eq_true rfl⟩ hl.1 (Nat.le_of_ble_eq_true rfl) dX11_memory_11 ⟨Nat.le_of_ble_eq_true rfl, Nat.le_of_ble_eq_true rfl⟩) hS (fun H locs G12 hEG12 hW hS => ?_)
    replace hF := hF.ext0 hEG12
    refine lv_if_eq (tgt := 21) hx hb dX11_memory_14 (by decide) (fun c13 => ?_) (fun c13 => ?_)
    · replace h := ite_t h c13
      refine lv_iconst (v := 0) hx hb dX11_memory_21 (by decide) ?_
      refine lv_iconst (v := 1) hx hb dX11_memory_22 (by decide) ?_
      obtain ⟨r15, u16, h14, h⟩ := ob2_s h
      obtain ⟨g18, hz8⟩ := gd_s h
      clear h
      subst g18
      have h := hz8
      clear hz8
      refine fm_cs (nb_runVr (As := [.int 0, .int 1]) (rest := []) hA hx hb hml hown hSW hS hW (m_X11_start l z ad _ hA A M hF 0 1 h14) mf_X11_start lk_X11_75 hF.1 rfl rfl ⟨rfl, rfl⟩ ⟨Nat.le_of_ble_eq_true rfl, Nat.le_of_ble_eq_true rfl⟩ hl.1 (Nat.le_of_ble_eq_true rfl) dX11_memory_23 ⟨Nat.le_of_ble_eq_true rfl, Nat.le_of_ble_eq_true rfl⟩) hS (fun H locs G17 hF hw2 hW hS => ?_)
      replace hw := hw2.trans hw
      clear hw2
      refine lv_if_eq (tgt := 33) hx hb dX11_memory_26 (by decide) (fun _ => ?_) (fun hc => absurd (by decide) hc)
      refine lv_aload_n hx hb dX11_memory_33 rfl (lv_at hl 0 rfl) ?_
      refine nb_getr hA hx hb hT hK hown hW fl_X11_31 hF.1 (v := .ref (A 4)) rfl dX11_memory_34 ?_
      refine lv_iload_n hx hb dX11_memory_37 rfl (lv_at hl 1 rfl) ?_
      exact absurd h (by intro q; cases q)
    · replace h := ite_f h c13
      refine lv_iconst (v := 1) hx hb dX11_memory_17 (by decide) ?_
      refine lv_goto (tgt := 22) hx hb dX11_memory_18 (by decide) ?_
      refine lv_iconst (v := 1) hx hb dX11_memory_22 (by decide) ?_
      obtain ⟨r20, u21, h19, h⟩ := ob2_s h
      obtain ⟨g23, hz8⟩ := gd_s h
      clear h
      subst g23
      have h := hz8
      clear hz8
      refine fm_cs (nb_runVr (As := [.int 1, .int 1]) (rest := []) hA hx hb hml hown hSW hS hW (m_X11_start l z ad _ hA A M hF 1 1 h19) mf_X11_start lk_X11_75 hF.1 rfl rfl ⟨rfl, rfl⟩ ⟨Nat.le_of_ble_eq_true rfl, Nat.le_of_ble_eq_true rfl⟩ hl.1 (Nat.le_of_ble_eq_true rfl) dX11_memory_23 ⟨Nat.le_of_ble_eq_true rfl, Nat.le_of_ble_eq_true rfl⟩) hS (fun H locs G22 hF hw2 hW hS => ?_)
      replace hw := hw2.trans hw
      clear hw2
      refine lv_if_eq (tgt := 33) hx hb dX11_memory_26 (by decide) (fun hc => absurd hc (by decide)) (fun _ => ?_)
      refine lv_iconst (v := 0) hx hb dX11_memory_29 (by decide) ?_
      refine lv_goto (tgt := 49) hx hb dX11_memory_30 (by decide) ?_
      refine W.widen (k := 0) (n := 0) (Nat.le_of_ble_eq_true rfl) (Nat.le_of_ble_eq_true rfl) ?_
      exact fm_iw hx hb hr rfl hlocks hW (hF.w hw) hS dX11_memory_49 h
-- ofPlace
def g_X11_ofPlace (M : St) (x1 : Int32) (x2 : Int32) : Option (Int32 × Int32) :=
  ob (g_X11_isIn x1 0 (-1)) fun r2 =>
  if r2 = 0 then
    ob2 (g_X11_start M 1 1) fun r26 u27 =>
    gd (r26 = 1) <|
    some (0, u27 0 0 0)
  else
    ob2 (g_X11_start M 0 1) fun r6 u7 =>
    gd (r6 = 0) <|
    ob (g_X11_isIn x2 0 1) fun r11 =>
    if r11 = 0 then
      ob2 (g_X11_refuse u7 1 2) fun r21 u22 =>
      gd (r21 = 1) <|
      some (0, u22 0 0 0)
    else
      ob2 (g_X11_refuse u7 0 2) fun r15 u16 =>
      gd (r15 = 0) <|
      if x2 = 0 then
        none
      else
        none
set_option maxRecDepth 100000 in
set_option maxHeartbeats 4000000 in
theorem m_X11_ofPlace (l : Launch) (z : Zt) (ad : Ad) (G : Gt) (hA : Raw ad) (A : Nat → Nat) (M : St) (hF : FM z G A M) (x1 : Int32) (x2 : Int32) {r9 : Int32} {t9 : Int32} (h : g_X11_ofPlace M x1 x2 = some (r9, t9)) : MC l z yX11_ofPlace cX11_ofPlace 3 (some .int) { frames := 2, cells := 0, slots := 0, locals := 81 } 0 0 [.ref (A 0), .int x1, .int x2] ad G (PWi z ad A r9 t9 (fmO M)) := by
  refine Met.ofW (cc := cX11_ofPlace) (maxL := 3) (ret := (some .int)) (by decide) rfl ?_
  intro p e s m args below meth c s₁ B hml hv
  obtain ⟨rfl, hSW, hW⟩ := hv
  have hx := B.exec; have hb := B.bytes; have hr := B.returns; have hlocks := B.notSynchronized
  have hown : s.vm.findClass RX11 = some m.cls := findClass_of_methodNamed B.named
  obtain ⟨hT, hK, hST, hB0⟩ := id hSW
  have hS : va_S (zA z) s.heap s.heap [] := va_S.rf
  have hl := lv_entry ([.ref (A 0), .int x1, .int x2]) (n := 3) (Nat.le_of_ble_eq_true rfl)
  rw [lg_entry_eq]
  generalize (lg_sl ([.ref (A 0), .int x1, .int x2]) ++ List.replicate (3 - (lg_sl ([.ref (A 0), .int x1, .int x2])).length) Slot.unset).toArray = ls at hl ⊢
  have hl : lv_has ls 3 [(0, .ref (A 0)), (1, .int x1), (2, .int x2)] := hl
  have hw : fmO M = fmO M := rfl
  unfold g_X11_ofPlace at h
  refine lv_aload_n hx hb dX11_ofPlace_0 rfl (lv_at hl 0 rfl) ?_
  refine lv_iload_n hx hb dX11_ofPlace_1 rfl (lv_at hl 1 rfl) ?_
  refine lv_iconst (v := 0) hx hb dX11_ofPlace_2 (by decide) ?_
  refine lv_aload_n hx hb dX11_ofPlace_3 rfl (lv_at hl 0 rfl) ?_
  refine nb_getr hA hx hb hT hK hown hW fl_X11_28 hF.1 (v := .ref (A 3)) rfl dX11_ofPlace_4 ?_
  refine nb_ci (nb_runVr (As := []) (rest := [.int 0, .int x1, .ref (A 0)]) hA hx hb hml hown hSW hS hW (m_size l z ad _ hA (A 3) (hF.2.1 2 (by decide))) mf_Jx4a65c_size_8abf5 lk_X11_67 (hF.2.1 2 (by decide)) rfl rfl ⟨rfl, rfl⟩ ⟨Nat.le_of_ble_eq_true rfl, Nat.le_of_ble_eq_true rfl⟩ hl.1 (Nat.le_of_ble_eq_true rfl) dX11_ofPlace_7 ⟨Nat.le_of_ble_eq_true rfl, Nat.le_of_ble_eq_true rfl⟩) hS (fun H locs hW hS => ?_)
  refine lv_iconst (v := 1) hx hb dX11_ofPlace_10 (by decide) ?_
  refine lv_isub hx hb dX11_ofPlace_11 ?_
  refine lv_topc (v := (-1)) (by decide) ?_
  obtain ⟨r2, h1, h⟩ := ob_s h
  refine nb_ci (nb_runS (As := [.int x1, .int 0, .int (-1)]) (rest := [.ref (A 0)]) hx hb hml hown hSW hS hW (m_X11_isIn l z ad _ hA x1 0 (-1) h1) mf_X11_isIn lk_X11_63 rfl ⟨rfl, rfl⟩ ⟨Nat.le_of_ble_eq_true rfl, Nat.le_of_ble_eq_true rfl⟩ hl.1 (Nat.le_of_ble_eq_true rfl) dX11_ofPlace_12 ⟨Nat.le_of_ble_eq_true rfl, Nat.le_of_ble_eq_true rfl⟩) hS (fun H locs hW hS => ?_)
  refine lv_if_ne (tgt := 22) hx hb dX11_ofPlace_15 (by decide) (fun c4 => ?_) (fun c4 => ?_)
  · replace h := ite_f h c4
    refine lv_iconst (v := 0) hx hb dX11_ofPlace_22 (by decide) ?_
    refine lv_iconst (v := 1) hx hb dX11_ofPlace_23 (by decide) ?_
    obtain ⟨r6, u7, h5, h⟩ := ob2_s h
    obtain ⟨g09, hz8⟩ := gd_s h
    clear h
    subst g09
    have h := hz8
    clear hz8
    refine fm_cs (nb_runVr (As := [.int 0, .int 1]) (rest := []) hA hx hb hml hown hSW hS hW (m_X11_start l z ad _ hA A M hF 0 1 h5) mf_X11_start lk_X11_75 hF.1 rfl rfl ⟨rfl, rfl⟩ ⟨Nat.le_of_ble_eq_true rfl, Nat.le_of_ble_eq_true rfl⟩ hl.1 (Nat.le_of_ble_eq_true rfl) dX11_ofPlace_24 ⟨Nat.le_of_ble_eq_true rfl, Nat.le_of_ble_eq_true rfl⟩) hS (fun H locs G8 hF hw2 hW hS => ?_)
    replace hw := hw2.trans hw
    clear hw2
    refine lv_if_ne (tgt := 52) hx hb dX11_ofPlace_27 (by decide) (fun hc => absurd (by decide) hc) (fun _ => ?_)
    refine lv_aload_n hx hb dX11_ofPlace_30 rfl (lv_at hl 0 rfl) ?_
    refine lv_iload_n hx hb dX11_ofPlace_31 rfl (lv_at hl 2 rfl) ?_
    refine lv_iconst (v := 0) hx hb dX11_ofPlace_32 (by decide) ?_
    refine lv_iconst (v := 1) hx hb dX11_ofPlace_33 (by decide) ?_
    obtain ⟨r11, h10, h⟩ := ob_s h
    refine nb_ci (nb_runS (As := [.int x2, .int 0, .int 1]) (rest := [.ref (A 0)]) hx hb hml hown hSW hS hW (m_X11_isIn l z ad _ hA x2 0 1 h10) mf_X11_isIn lk_X11_63 rfl ⟨rfl, rfl⟩ ⟨Nat.le_of_ble_eq_true rfl, Nat.le_of_ble_eq_true rfl⟩ hl.1 (Nat.le_of_ble_eq_true rfl) dX11_ofPlace_34 ⟨Nat.le_of_ble_eq_true rfl, Nat.le_of_ble_eq_true rfl⟩) hS (fun H locs hW hS => ?_)
    refine lv_if_ne (tgt := 44) hx hb dX11_ofPlace_37 (by decide) (fun c13 => ?_) (fun c13 => ?_)
    · replace h := ite_f h c13
      refine lv_iconst (v := 0) hx hb dX11_ofPlace_44 (by decide) ?_
      refine lv_iconst (v := 2) hx hb dX11_ofPlace_45 (by decide) ?_
      obtain ⟨r15, u16, h14, h⟩ := ob2_s h
      obtain ⟨g18, hz8⟩ := gd_s h
      clear h
      subst g18
      have h := hz8
      clear hz8
      refine fm_cs (nb_runVr (As := [.int 0, .int 2]) (rest := []) hA hx hb hml hown hSW hS hW (m_X11_refuse l z ad _ hA A u7 hF 0 2 h14) mf_X11_refuse lk_X11_59 hF.1 rfl rfl ⟨rfl, rfl⟩ ⟨Nat.le_of_ble_eq_true rfl, Nat.le_of_ble_eq_true rfl⟩ hl.1 (Nat.le_of_ble_eq_true rfl) dX11_ofPlace_46 ⟨Nat.le_of_ble_eq_true rfl, Nat.le_of_ble_eq_true rfl⟩) hS (fun H locs G17 hF hw2 hW hS => ?_)
      replace hw := hw2.trans hw
      clear hw2
      refine lv_if_eq (tgt := 54) hx hb dX11_ofPlace_49 (by decide) (fun _ => ?_) (fun hc => absurd (by decide) hc)
      refine lv_iload_n hx hb dX11_ofPlace_54 rfl (lv_at hl 2 rfl) ?_
      refine lv_if_ne (tgt := 75) hx hb dX11_ofPlace_55 (by decide) (fun c19 => ?_) (fun c19 => ?_)
      · replace h := ite_f h c19
        refine lv_aload_n hx hb dX11_ofPlace_75 rfl (lv_at hl 0 rfl) ?_
        refine lv_iload_n hx hb dX11_ofPlace_76 rfl (lv_at hl 1 rfl) ?_
        refine lv_aload_n hx hb dX11_ofPlace_77 rfl (lv_at hl 0 rfl) ?_
        refine nb_getr hA hx hb hT hK hown hW fl_X11_28 hF.1 (v := .ref (A 3)) rfl dX11_ofPlace_78 ?_
        refine lv_iload_n hx hb dX11_ofPlace_81 rfl (lv_at hl 1 rfl) ?_
        exact absurd h (by intro q; cases q)
      · replace h := ite_t h c19
        refine lv_aload_n hx hb dX11_ofPlace_58 rfl (lv_at hl 0 rfl) ?_
        refine nb_getr hA hx hb hT hK hown hW fl_X11_28 hF.1 (v := .ref (A 3)) rfl dX11_ofPlace_59 ?_
        refine lv_iload_n hx hb dX11_ofPlace_62 rfl (lv_at hl 1 rfl) ?_
        exact absurd h (by intro q; cases q)
    · replace h := ite_t h c13
      refine lv_iconst (v := 1) hx hb dX11_ofPlace_40 (by decide) ?_
      refine lv_goto (tgt := 45) hx hb dX11_ofPlace_41 (by decide) ?_
      refine lv_iconst (v := 2) hx hb dX11_ofPlace_45 (by decide) ?_
      obtain ⟨r21, u22, h20, h⟩ := ob2_s h
      obtain ⟨g24, hz8⟩ := gd_s h
      clear h
      subst g24
      have h := hz8
      clear hz8
      refine fm_cs (nb_runVr (As := [.int 1, .int 2]) (rest := []) hA hx hb hml hown hSW hS hW (m_X11_refuse l z ad _ hA A u7 hF 1 2 h20) mf_X11_refuse lk_X11_59 hF.1 rfl rfl ⟨rfl, rfl⟩ ⟨Nat.le_of_ble_eq_true rfl, Nat.le_of_ble_eq_true rfl⟩ hl.1 (Nat.le_of_ble_eq_true rfl) dX11_ofPlace_46 ⟨Nat.le_of_ble_eq_true rfl, Nat.le_of_ble_eq_true rfl⟩) hS (fun H locs G23 hF hw2 hW hS => ?_)
      replace hw := hw2.trans hw
      clear hw2
      refine lv_if_eq (tgt := 54) hx hb dX11_ofPlace_49 (by decide) (fun hc => absurd hc (by decide)) (fun _ => ?_)
      refine lv_iconst (v := 0) hx hb dX11_ofPlace_52 (by decide) ?_
      refine W.widen (k := 0) (n := 0) (Nat.le_of_ble_eq_true rfl) (Nat.le_of_ble_eq_true rfl) ?_
      exact fm_iw hx hb hr rfl hlocks hW (hF.w hw) hS dX11_ofPlace_53 h
  · replace h := ite_t h c4
    refine lv_iconst (v := 1) hx hb dX11_ofPlace_18 (by decide) ?_
    refine lv_goto (tgt := 23) hx hb dX11_ofPlace_19 (by decide) ?_
    refine lv_iconst (v := 1) hx hb dX11_ofPlace_23 (by decide) ?_
    obtain ⟨r26, u27, h25, h⟩ := ob2_s h
    obtain ⟨g29, hz8⟩ := gd_s h
    clear h
    subst g29
    have h := hz8
    clear hz8
    refine fm_cs (nb_runVr (As := [.int 1, .int 1]) (rest := []) hA hx hb hml hown hSW hS hW (m_X11_start l z ad _ hA A M hF 1 1 h25) mf_X11_start lk_X11_75 hF.1 rfl rfl ⟨rfl, rfl⟩ ⟨Nat.le_of_ble_eq_true rfl, Nat.le_of_ble_eq_true rfl⟩ hl.1 (Nat.le_of_ble_eq_true rfl) dX11_ofPlace_24 ⟨Nat.le_of_ble_eq_true rfl, Nat.le_of_ble_eq_true rfl⟩) hS (fun H locs G28 hF hw2 hW hS => ?_)
    replace hw := hw2.trans hw
    clear hw2
    refine lv_if_ne (tgt := 52) hx hb dX11_ofPlace_27 (by decide) (fun _ => ?_) (fun hc => absurd hc (by decide))
    refine lv_iconst (v := 0) hx hb dX11_ofPlace_52 (by decide) ?_
    refine W.widen (k := 0) (n := 0) (Nat.le_of_ble_eq_true rfl) (Nat.le_of_ble_eq_true rfl) ?_
    exact fm_iw hx hb hr rfl hlocks hW (hF.w hw) hS dX11_ofPlace_53 h
-- ofRound
def g_X11_ofRound (M : St) (x1 : Int32) (x2 : Int32) : Option (Int32 × Int32) :=
  ob (g_X11_isIn x1 0 2) fun r2 =>
  if r2 = 0 then
    ob2 (g_X11_start M 1 1) fun r27 u28 =>
    gd (r27 = 1) <|
    some (0, u28 0 0 0)
  else
    ob2 (g_X11_start M 0 1) fun r6 u7 =>
    gd (r6 = 0) <|
    ob (g_X11_isIn x2 0 1) fun r11 =>
    if r11 = 0 then
      ob2 (g_X11_refuse u7 1 2) fun r22 u23 =>
      gd (r22 = 1) <|
      some (0, u23 0 0 0)
    else
      ob2 (g_X11_refuse u7 0 2) fun r15 u16 =>
      gd (r15 = 0) <|
      gd (inb x1 3) <|
      gd (inb x2 2) <|
      some ((-1), u16 0 0 0)
set_option maxRecDepth 100000 in
set_option maxHeartbeats 4000000 in
theorem m_X11_ofRound (l : Launch) (z : Zt) (ad : Ad) (G : Gt) (hA : Raw ad) (A : Nat → Nat) (M : St) (hF : FM z G A M) (x1 : Int32) (x2 : Int32) {r9 : Int32} {t9 : Int32} (h : g_X11_ofRound M x1 x2 = some (r9, t9)) : MC l z yX11_ofRound cX11_ofRound 3 (some .int) { frames := 2, cells := 0, slots := 0, locals := 44 } 0 0 [.ref (A 0), .int x1, .int x2] ad G (PWi z ad A r9 t9 (fmO M)) := by
  refine Met.ofW (cc := cX11_ofRound) (maxL := 3) (ret := (some .int)) (by decide) rfl ?_
  intro p e s m args below meth c s₁ B hml hv
  obtain ⟨rfl, hSW, hW⟩ := hv
  have hx := B.exec; have hb := B.bytes; have hr := B.returns; have hlocks := B.notSynchronized
  have hown : s.vm.findClass RX11 = some m.cls := findClass_of_methodNamed B.named
  obtain ⟨hT, hK, hST, hB0⟩ := id hSW
  have hS : va_S (zA z) s.heap s.heap [] := va_S.rf
  have hl := lv_entry ([.ref (A 0), .int x1, .int x2]) (n := 3) (Nat.le_of_ble_eq_true rfl)
  rw [lg_entry_eq]
  generalize (lg_sl ([.ref (A 0), .int x1, .int x2]) ++ List.replicate (3 - (lg_sl ([.ref (A 0), .int x1, .int x2])).length) Slot.unset).toArray = ls at hl ⊢
  have hl : lv_has ls 3 [(0, .ref (A 0)), (1, .int x1), (2, .int x2)] := hl
  have hw : fmO M = fmO M := rfl
  unfold g_X11_ofRound at h
  refine lv_aload_n hx hb dX11_ofRound_0 rfl (lv_at hl 0 rfl) ?_
  refine lv_iload_n hx hb dX11_ofRound_1 rfl (lv_at hl 1 rfl) ?_
  refine lv_iconst (v := 0) hx hb dX11_ofRound_2 (by decide) ?_
  refine lv_iconst (v := 2) hx hb dX11_ofRound_3 (by decide) ?_
  obtain ⟨r2, h1, h⟩ := ob_s h
  refine nb_ci (nb_runS (As := [.int x1, .int 0, .int 2]) (rest := [.ref (A 0)]) hx hb hml hown hSW hS hW (m_X11_isIn l z ad _ hA x1 0 2 h1) mf_X11_isIn lk_X11_63 rfl ⟨rfl, rfl⟩ ⟨Nat.le_of_ble_eq_true rfl, Nat.le_of_ble_eq_true rfl⟩ hl.1 (Nat.le_of_ble_eq_true rfl) dX11_ofRound_4 ⟨Nat.le_of_ble_eq_true rfl, Nat.le_of_ble_eq_true rfl⟩) hS (fun H locs hW hS => ?_)
  refine lv_if_ne (tgt := 14) hx hb dX11_ofRound_7 (by decide) (fun c4 => ?_) (fun c4 => ?_)
  · replace h := ite_f h c4
    refine lv_iconst (v := 0) hx hb dX11_ofRound_14 (by decide) ?_
    refine lv_iconst (v := 1) hx hb dX11_ofRound_15 (by decide) ?_
    obtain ⟨r6, u7, h5, h⟩ := ob2_s h
    obtain ⟨g09, hz8⟩ := gd_s h
    clear h
    subst g09
    have h := hz8
    clear hz8
    refine fm_cs (nb_runVr (As := [.int 0, .int 1]) (rest := []) hA hx hb hml hown hSW hS hW (m_X11_start l z ad _ hA A M hF 0 1 h5) mf_X11_start lk_X11_75 hF.1 rfl rfl ⟨rfl, rfl⟩ ⟨Nat.le_of_ble_eq_true rfl, Nat.le_of_ble_eq_true rfl⟩ hl.1 (Nat.le_of_ble_eq_true rfl) dX11_ofRound_16 ⟨Nat.le_of_ble_eq_true rfl, Nat.le_of_ble_eq_true rfl⟩) hS (fun H locs G8 hF hw2 hW hS => ?_)
    replace hw := hw2.trans hw
    clear hw2
    refine lv_if_ne (tgt := 44) hx hb dX11_ofRound_19 (by decide) (fun hc => absurd (by decide) hc) (fun _ => ?_)
    refine lv_aload_n hx hb dX11_ofRound_22 rfl (lv_at hl 0 rfl) ?_
    refine lv_iload_n hx hb dX11_ofRound_23 rfl (lv_at hl 2 rfl) ?_
    refine lv_iconst (v := 0) hx hb dX11_ofRound_24 (by decide) ?_
    refine lv_iconst (v := 1) hx hb dX11_ofRound_25 (by decide) ?_
    obtain ⟨r11, h10, h⟩ := ob_s h
    refine nb_ci (nb_runS (As := [.int x2, .int 0, .int 1]) (rest := [.ref (A 0)]) hx hb hml hown hSW hS hW (m_X11_isIn l z ad _ hA x2 0 1 h10) mf_X11_isIn lk_X11_63 rfl ⟨rfl, rfl⟩ ⟨Nat.le_of_ble_eq_true rfl, Nat.le_of_ble_eq_true rfl⟩ hl.1 (Nat.le_of_ble_eq_true rfl) dX11_ofRound_26 ⟨Nat.le_of_ble_eq_true rfl, Nat.le_of_ble_eq_true rfl⟩) hS (fun H locs hW hS => ?_)
    refine lv_if_ne (tgt := 36) hx hb dX11_ofRound_29 (by decide) (fun c13 => ?_) (fun c13 => ?_)
    · replace h := ite_f h c13
      refine lv_iconst (v := 0) hx hb dX11_ofRound_36 (by decide) ?_
      refine lv_iconst (v := 2) hx hb dX11_ofRound_37 (by decide) ?_
      obtain ⟨r15, u16, h14, h⟩ := ob2_s h
      obtain ⟨g18, hz8⟩ := gd_s h
      clear h
      subst g18
      have h := hz8
      clear hz8
      refine fm_cs (nb_runVr (As := [.int 0, .int 2]) (rest := []) hA hx hb hml hown hSW hS hW (m_X11_refuse l z ad _ hA A u7 hF 0 2 h14) mf_X11_refuse lk_X11_59 hF.1 rfl rfl ⟨rfl, rfl⟩ ⟨Nat.le_of_ble_eq_true rfl, Nat.le_of_ble_eq_true rfl⟩ hl.1 (Nat.le_of_ble_eq_true rfl) dX11_ofRound_38 ⟨Nat.le_of_ble_eq_true rfl, Nat.le_of_ble_eq_true rfl⟩) hS (fun H locs G17 hF hw2 hW hS => ?_)
      replace hw := hw2.trans hw
      clear hw2
      refine lv_if_eq (tgt := 48) hx hb dX11_ofRound_41 (by decide) (fun _ => ?_) (fun hc => absurd (by decide) hc)
      refine lv_aload_n hx hb dX11_ofRound_48 rfl (lv_at hl 0 rfl) ?_
      refine nb_getr hA hx hb hT hK hown hW fl_X11_45 hF.1 (v := .ref (A 8)) rfl dX11_ofRound_49 ?_
      refine lv_iload_n hx hb dX11_ofRound_52 rfl (lv_at hl 1 rfl) ?_
      obtain ⟨g19, h⟩ := gd_s h
      refine nb_aaldr hA hx hb hK hW 1 hF.2.2.2.2.1 rfl rfl (inb_in g19) (b := A (10 + (ix x1))) (fmR_at (inb_lt g19)) dX11_ofRound_53 ?_
      refine lv_iload_n hx hb dX11_ofRound_54 rfl (lv_at hl 2 rfl) ?_
      obtain ⟨g20, h⟩ := gd_s h
      refine nb_iald_r hA hx hb hK hW 0 (hF.2.2.2.2.2.1 (ix x1) (inb_lt g19)) rfl (inb_in g20) dX11_ofRound_55 ?_
      refine W.widen (k := 0) (n := 0) (Nat.le_of_ble_eq_true rfl) (Nat.le_of_ble_eq_true rfl) ?_
      exact fm_iw hx hb hr rfl hlocks hW (hF.w hw) hS dX11_ofRound_56 h
    · replace h := ite_t h c13
      refine lv_iconst (v := 1) hx hb dX11_ofRound_32 (by decide) ?_
      refine lv_goto (tgt := 37) hx hb dX11_ofRound_33 (by decide) ?_
      refine lv_iconst (v := 2) hx hb dX11_ofRound_37 (by decide) ?_
      obtain ⟨r22, u23, h21, h⟩ := ob2_s h
      obtain ⟨g25, hz8⟩ := gd_s h
      clear h
      subst g25
      have h := hz8
      clear hz8
      refine fm_cs (nb_runVr (As := [.int 1, .int 2]) (rest := []) hA hx hb hml hown hSW hS hW (m_X11_refuse l z ad _ hA A u7 hF 1 2 h21) mf_X11_refuse lk_X11_59 hF.1 rfl rfl ⟨rfl, rfl⟩ ⟨Nat.le_of_ble_eq_true rfl, Nat.le_of_ble_eq_true rfl⟩ hl.1 (Nat.le_of_ble_eq_true rfl) dX11_ofRound_38 ⟨Nat.le_of_ble_eq_true rfl, Nat.le_of_ble_eq_true rfl⟩) hS (fun H locs G24 hF hw2 hW hS => ?_)
      replace hw := hw2.trans hw
      clear hw2
      refine lv_if_eq (tgt := 48) hx hb dX11_ofRound_41 (by decide) (fun hc => absurd hc (by decide)) (fun _ => ?_)
      refine lv_iconst (v := 0) hx hb dX11_ofRound_44 (by decide) ?_
      refine lv_goto (tgt := 56) hx hb dX11_ofRound_45 (by decide) ?_
      refine W.widen (k := 0) (n := 0) (Nat.le_of_ble_eq_true rfl) (Nat.le_of_ble_eq_true rfl) ?_
      exact fm_iw hx hb hr rfl hlocks hW (hF.w hw) hS dX11_ofRound_56 h
  · replace h := ite_t h c4
    refine lv_iconst (v := 1) hx hb dX11_ofRound_10 (by decide) ?_
    refine lv_goto (tgt := 15) hx hb dX11_ofRound_11 (by decide) ?_
    refine lv_iconst (v := 1) hx hb dX11_ofRound_15 (by decide) ?_
    obtain ⟨r27, u28, h26, h⟩ := ob2_s h
    obtain ⟨g30, hz8⟩ := gd_s h
    clear h
    subst g30
    have h := hz8
    clear hz8
    refine fm_cs (nb_runVr (As := [.int 1, .int 1]) (rest := []) hA hx hb hml hown hSW hS hW (m_X11_start l z ad _ hA A M hF 1 1 h26) mf_X11_start lk_X11_75 hF.1 rfl rfl ⟨rfl, rfl⟩ ⟨Nat.le_of_ble_eq_true rfl, Nat.le_of_ble_eq_true rfl⟩ hl.1 (Nat.le_of_ble_eq_true rfl) dX11_ofRound_16 ⟨Nat.le_of_ble_eq_true rfl, Nat.le_of_ble_eq_true rfl⟩) hS (fun H locs G29 hF hw2 hW hS => ?_)
    replace hw := hw2.trans hw
    clear hw2
    refine lv_if_ne (tgt := 44) hx hb dX11_ofRound_19 (by decide) (fun _ => ?_) (fun hc => absurd hc (by decide))
    refine lv_iconst (v := 0) hx hb dX11_ofRound_44 (by decide) ?_
    refine lv_goto (tgt := 56) hx hb dX11_ofRound_45 (by decide) ?_
    refine W.widen (k := 0) (n := 0) (Nat.le_of_ble_eq_true rfl) (Nat.le_of_ble_eq_true rfl) ?_
    exact fm_iw hx hb hr rfl hlocks hW (hF.w hw) hS dX11_ofRound_56 h
-- mark_
def g_X11_mark_ (M : St) (x1 : Int32) : Option (Int32 × Int32) :=
  ob (g_X11_isIn x1 0 3) fun r2 =>
  if r2 = 0 then
    ob2 (g_X11_start M 1 1) fun r18 u19 =>
    gd (r18 = 1) <|
    some (0, u19 0 0 0)
  else
    ob2 (g_X11_start M 0 1) fun r6 u7 =>
    gd (r6 = 0) <|
    ob (g_X11_row u7) fun _ =>
    ob (g_X11_mark u7 x1) fun r15 =>
    some (r15, u7 0 0 0)
set_option maxRecDepth 100000 in
set_option maxHeartbeats 4000000 in
theorem m_X11_mark_ (l : Launch) (z : Zt) (ad : Ad) (G : Gt) (hA : Raw ad) (A : Nat → Nat) (M : St) (hF : FM z G A M) (x1 : Int32) {r9 : Int32} {t9 : Int32} (h : g_X11_mark_ M x1 = some (r9, t9)) : MC l z yX11_mark_ cX11_mark_ 2 (some .int) { frames := 6, cells := 4, slots := 12, locals := 153 } 4 12 [.ref (A 0), .int x1] ad G (PWi z ad A r9 t9 (fmO M)) := by
  refine Met.ofW (cc := cX11_mark_) (maxL := 2) (ret := (some .int)) (by decide) rfl ?_
  intro p e s m args below meth c s₁ B hml hv
  obtain ⟨rfl, hSW, hW⟩ := hv
  have hx := B.exec; have hb := B.bytes; have hr := B.returns; have hlocks := B.notSynchronized
  have hown : s.vm.findClass RX11 = some m.cls := findClass_of_methodNamed B.named
  obtain ⟨hT, hK, hST, hB0⟩ := id hSW
  have hS : va_S (zA z) s.heap s.heap [] := va_S.rf
  have hl := lv_entry ([.ref (A 0), .int x1]) (n := 2) (Nat.le_of_ble_eq_true rfl)
  rw [lg_entry_eq]
  generalize (lg_sl ([.ref (A 0), .int x1]) ++ List.replicate (2 - (lg_sl ([.ref (A 0), .int x1])).length) Slot.unset).toArray = ls at hl ⊢
  have hl : lv_has ls 2 [(0, .ref (A 0)), (1, .int x1)] := hl
  have hw : fmO M = fmO M := rfl
  unfold g_X11_mark_ at h
  refine lv_aload_n hx hb dX11_mark__0 rfl (lv_at hl 0 rfl) ?_
  refine lv_iload_n hx hb dX11_mark__1 rfl (lv_at hl 1 rfl) ?_
  refine lv_iconst (v := 0) hx hb dX11_mark__2 (by decide) ?_
  refine lv_iconst (v := 3) hx hb dX11_mark__3 (by decide) ?_
  obtain ⟨r2, h1, h⟩ := ob_s h
  refine nb_ci (nb_runS (As := [.int x1, .int 0, .int 3]) (rest := [.ref (A 0)]) hx hb hml hown hSW hS hW (m_X11_isIn l z ad _ hA x1 0 3 h1) mf_X11_isIn lk_X11_63 rfl ⟨rfl, rfl⟩ ⟨Nat.le_of_ble_eq_true rfl, Nat.le_of_ble_eq_true rfl⟩ hl.1 (Nat.le_of_ble_eq_true rfl) dX11_mark__4 ⟨Nat.le_of_ble_eq_true rfl, Nat.le_of_ble_eq_true rfl⟩) hS (fun H locs hW hS => ?_)
  refine lv_if_ne (tgt := 14) hx hb dX11_mark__7 (by decide) (fun c4 => ?_) (fun c4 => ?_)
  · replace h := ite_f h c4
    refine lv_iconst (v := 0) hx hb dX11_mark__14 (by decide) ?_
    refine lv_iconst (v := 1) hx hb dX11_mark__15 (by decide) ?_
    obtain ⟨r6, u7, h5, h⟩ := ob2_s h
    obtain ⟨g09, hz8⟩ := gd_s h
    clear h
    subst g09
    have h := hz8
    clear hz8
    refine fm_cs (nb_runVr (As := [.int 0, .int 1]) (rest := []) hA hx hb hml hown hSW hS hW (m_X11_start l z ad _ hA A M hF 0 1 h5) mf_X11_start lk_X11_75 hF.1 rfl rfl ⟨rfl, rfl⟩ ⟨Nat.le_of_ble_eq_true rfl, Nat.le_of_ble_eq_true rfl⟩ hl.1 (Nat.le_of_ble_eq_true rfl) dX11_mark__16 ⟨Nat.le_of_ble_eq_true rfl, Nat.le_of_ble_eq_true rfl⟩) hS (fun H locs G8 hF hw2 hW hS => ?_)
    replace hw := hw2.trans hw
    clear hw2
    refine lv_if_eq (tgt := 26) hx hb dX11_mark__19 (by decide) (fun _ => ?_) (fun hc => absurd (by decide) hc)
    refine lv_aload_n hx hb dX11_mark__26 rfl (lv_at hl 0 rfl) ?_
    refine lv_iload_n hx hb dX11_mark__27 rfl (lv_at hl 1 rfl) ?_
    refine lv_aload_n hx hb dX11_mark__28 rfl (lv_at hl 0 rfl) ?_
    obtain ⟨_, h10, h⟩ := ob_s h
    refine fm_cr (nb_runVr (As := []) (rest := [.int x1, .ref (A 0)]) hA hx hb hml hown hSW hS hW (m_X11_row l z ad _ hA A u7 hF h10) mf_X11_row lk_X11_266 hF.1 rfl rfl ⟨rfl, rfl⟩ ⟨Nat.le_of_ble_eq_true rfl, Nat.le_of_ble_eq_true rfl⟩ hl.1 (Nat.le_of_ble_eq_true rfl) dX11_mark__29 ⟨Nat.le_of_ble_eq_true rfl, Nat.le_of_ble_eq_true rfl⟩) hS (fun H locs G12 q13 hEG12 hcq13 hW hS => ?_)
    replace hF := hF.ext0 hEG12
    obtain ⟨r15, h14, h⟩ := ob_s h
    refine fm_ci (nb_runVr (As := [.int x1, .ref q13]) (rest := []) hA hx hb hml hown hSW hS hW (m_X11_mark l z ad _ hA A u7 hF x1 q13 hcq13 h14) mf_X11_mark lk_X11_262 hF.1 rfl rfl ⟨rfl, rfl⟩ ⟨Nat.le_of_ble_eq_true rfl, Nat.le_of_ble_eq_true rfl⟩ hl.1 (Nat.le_of_ble_eq_true rfl) dX11_mark__32 ⟨Nat.le_of_ble_eq_true rfl, Nat.le_of_ble_eq_true rfl⟩) hS (fun H locs G16 hEG16 hW hS => ?_)
    replace hF := hF.ext0 hEG16
    replace hcq13 := hEG16 _ _ _ hcq13
    refine W.widen (k := 4) (n := 12) (Nat.le_of_ble_eq_true rfl) (Nat.le_of_ble_eq_true rfl) ?_
    exact fm_iw hx hb hr rfl hlocks hW (hF.w hw) hS dX11_mark__35 h
  · replace h := ite_t h c4
    refine lv_iconst (v := 1) hx hb dX11_mark__10 (by decide) ?_
    refine lv_goto (tgt := 15) hx hb dX11_mark__11 (by decide) ?_
    refine lv_iconst (v := 1) hx hb dX11_mark__15 (by decide) ?_
    obtain ⟨r18, u19, h17, h⟩ := ob2_s h
    obtain ⟨g21, hz8⟩ := gd_s h
    clear h
    subst g21
    have h := hz8
    clear hz8
    refine fm_cs (nb_runVr (As := [.int 1, .int 1]) (rest := []) hA hx hb hml hown hSW hS hW (m_X11_start l z ad _ hA A M hF 1 1 h17) mf_X11_start lk_X11_75 hF.1 rfl rfl ⟨rfl, rfl⟩ ⟨Nat.le_of_ble_eq_true rfl, Nat.le_of_ble_eq_true rfl⟩ hl.1 (Nat.le_of_ble_eq_true rfl) dX11_mark__16 ⟨Nat.le_of_ble_eq_true rfl, Nat.le_of_ble_eq_true rfl⟩) hS (fun H locs G20 hF hw2 hW hS => ?_)
    replace hw := hw2.trans hw
    clear hw2
    refine lv_if_eq (tgt := 26) hx hb dX11_mark__19 (by decide) (fun hc => absurd hc (by decide)) (fun _ => ?_)
    refine lv_iconst (v := 0) hx hb dX11_mark__22 (by decide) ?_
    refine lv_goto (tgt := 35) hx hb dX11_mark__23 (by decide) ?_
    refine W.widen (k := 4) (n := 12) (Nat.le_of_ble_eq_true rfl) (Nat.le_of_ble_eq_true rfl) ?_
    exact fm_iw hx hb hr rfl hlocks hW (hF.w hw) hS dX11_mark__35 h
-- many
def g_X11_many (M : St) (x1 : Int32) : Option (Int32 × Int32) :=
  ob (g_X11_isIn x1 0 13) fun r2 =>
  if r2 = 0 then
    ob2 (g_X11_start M 1 1) fun r14 u15 =>
    gd (r14 = 1) <|
    some (0, u15 0 0 0)
  else
    ob2 (g_X11_start M 0 1) fun r6 u7 =>
    gd (r6 = 0) <|
    ob (g_X11_manyNow u7 x1) fun r11 =>
    some (r11, u7 0 0 0)
set_option maxRecDepth 100000 in
set_option maxHeartbeats 4000000 in
theorem m_X11_many (l : Launch) (z : Zt) (ad : Ad) (G : Gt) (hA : Raw ad) (A : Nat → Nat) (M : St) (hF : FM z G A M) (x1 : Int32) {r9 : Int32} {t9 : Int32} (h : g_X11_many M x1 = some (r9, t9)) : MC l z yX11_many cX11_many 2 (some .int) { frames := 9, cells := 29, slots := 118, locals := 218 } 29 118 [.ref (A 0), .int x1] ad G (PWi z ad A r9 t9 (fmO M)) := by
  refine Met.ofW (cc := cX11_many) (maxL := 2) (ret := (some .int)) (by decide) rfl ?_
  intro p e s m args below meth c s₁ B hml hv
  obtain ⟨rfl, hSW, hW⟩ := hv
  have hx := B.exec; have hb := B.bytes; have hr := B.returns; have hlocks := B.notSynchronized
  have hown : s.vm.findClass RX11 = some m.cls := findClass_of_methodNamed B.named
  obtain ⟨hT, hK, hST, hB0⟩ := id hSW
  have hS : va_S (zA z) s.heap s.heap [] := va_S.rf
  have hl := lv_entry ([.ref (A 0), .int x1]) (n := 2) (Nat.le_of_ble_eq_true rfl)
  rw [lg_entry_eq]
  generalize (lg_sl ([.ref (A 0), .int x1]) ++ List.replicate (2 - (lg_sl ([.ref (A 0), .int x1])).length) Slot.unset).toArray = ls at hl ⊢
  have hl : lv_has ls 2 [(0, .ref (A 0)), (1, .int x1)] := hl
  have hw : fmO M = fmO M := rfl
  unfold g_X11_many at h
  refine lv_aload_n hx hb dX11_many_0 rfl (lv_at hl 0 rfl) ?_
  refine lv_iload_n hx hb dX11_many_1 rfl (lv_at hl 1 rfl) ?_
  refine lv_iconst (v := 0) hx hb dX11_many_2 (by decide) ?_
  refine lv_bipush (v := 13) hx hb dX11_many_3 (by decide) ?_
  obtain ⟨r2, h1, h⟩ := ob_s h
  refine nb_ci (nb_runS (As := [.int x1, .int 0, .int 13]) (rest := [.ref (A 0)]) hx hb hml hown hSW hS hW (m_X11_isIn l z ad _ hA x1 0 13 h1) mf_X11_isIn lk_X11_63 rfl ⟨rfl, rfl⟩ ⟨Nat.le_of_ble_eq_true rfl, Nat.le_of_ble_eq_true rfl⟩ hl.1 (Nat.le_of_ble_eq_true rfl) dX11_many_5 ⟨Nat.le_of_ble_eq_true rfl, Nat.le_of_ble_eq_true rfl⟩) hS (fun H locs hW hS => ?_)
  refine lv_if_ne (tgt := 15) hx hb dX11_many_8 (by decide) (fun c4 => ?_) (fun c4 => ?_)
  · replace h := ite_f h c4
    refine lv_iconst (v := 0) hx hb dX11_many_15 (by decide) ?_
    refine lv_iconst (v := 1) hx hb dX11_many_16 (by decide) ?_
    obtain ⟨r6, u7, h5, h⟩ := ob2_s h
    obtain ⟨g09, hz8⟩ := gd_s h
    clear h
    subst g09
    have h := hz8
    clear hz8
    refine fm_cs (nb_runVr (As := [.int 0, .int 1]) (rest := []) hA hx hb hml hown hSW hS hW (m_X11_start l z ad _ hA A M hF 0 1 h5) mf_X11_start lk_X11_75 hF.1 rfl rfl ⟨rfl, rfl⟩ ⟨Nat.le_of_ble_eq_true rfl, Nat.le_of_ble_eq_true rfl⟩ hl.1 (Nat.le_of_ble_eq_true rfl) dX11_many_17 ⟨Nat.le_of_ble_eq_true rfl, Nat.le_of_ble_eq_true rfl⟩) hS (fun H locs G8 hF hw2 hW hS => ?_)
    replace hw := hw2.trans hw
    clear hw2
    refine lv_if_eq (tgt := 27) hx hb dX11_many_20 (by decide) (fun _ => ?_) (fun hc => absurd (by decide) hc)
    refine lv_aload_n hx hb dX11_many_27 rfl (lv_at hl 0 rfl) ?_
    refine lv_iload_n hx hb dX11_many_28 rfl (lv_at hl 1 rfl) ?_
    obtain ⟨r11, h10, h⟩ := ob_s h
    refine fm_ci (nb_runVr (As := [.int x1]) (rest := []) hA hx hb hml hown hSW hS hW (m_X11_manyNow l z ad _ hA A u7 hF x1 h10) mf_X11_manyNow lk_X11_309 hF.1 rfl rfl ⟨rfl, rfl⟩ ⟨Nat.le_of_ble_eq_true rfl, Nat.le_of_ble_eq_true rfl⟩ hl.1 (Nat.le_of_ble_eq_true rfl) dX11_many_29 ⟨Nat.le_of_ble_eq_true rfl, Nat.le_of_ble_eq_true rfl⟩) hS (fun H locs G12 hEG12 hW hS => ?_)
    replace hF := hF.ext0 hEG12
    refine W.widen (k := 29) (n := 118) (Nat.le_of_ble_eq_true rfl) (Nat.le_of_ble_eq_true rfl) ?_
    exact fm_iw hx hb hr rfl hlocks hW (hF.w hw) hS dX11_many_32 h
  · replace h := ite_t h c4
    refine lv_iconst (v := 1) hx hb dX11_many_11 (by decide) ?_
    refine lv_goto (tgt := 16) hx hb dX11_many_12 (by decide) ?_
    refine lv_iconst (v := 1) hx hb dX11_many_16 (by decide) ?_
    obtain ⟨r14, u15, h13, h⟩ := ob2_s h
    obtain ⟨g17, hz8⟩ := gd_s h
    clear h
    subst g17
    have h := hz8
    clear hz8
    refine fm_cs (nb_runVr (As := [.int 1, .int 1]) (rest := []) hA hx hb hml hown hSW hS hW (m_X11_start l z ad _ hA A M hF 1 1 h13) mf_X11_start lk_X11_75 hF.1 rfl rfl ⟨rfl, rfl⟩ ⟨Nat.le_of_ble_eq_true rfl, Nat.le_of_ble_eq_true rfl⟩ hl.1 (Nat.le_of_ble_eq_true rfl) dX11_many_17 ⟨Nat.le_of_ble_eq_true rfl, Nat.le_of_ble_eq_true rfl⟩) hS (fun H locs G16 hF hw2 hW hS => ?_)
    replace hw := hw2.trans hw
    clear hw2
    refine lv_if_eq (tgt := 27) hx hb dX11_many_20 (by decide) (fun hc => absurd hc (by decide)) (fun _ => ?_)
    refine lv_iconst (v := 0) hx hb dX11_many_23 (by decide) ?_
    refine lv_goto (tgt := 32) hx hb dX11_many_24 (by decide) ?_
    refine W.widen (k := 29) (n := 118) (Nat.le_of_ble_eq_true rfl) (Nat.le_of_ble_eq_true rfl) ?_
    exact fm_iw hx hb hr rfl hlocks hW (hF.w hw) hS dX11_many_32 h
-- bestOrder
def g_X11_bestOrder (M : St) : Option (Int32 × Int32) :=
  ob2 (g_X11_start M 0 1) fun r2 u3 =>
  gd (r2 = 0) <|
  ob (g_X11_row u3) fun _ =>
  ob (g_X11_best u3 0) fun r11 =>
  some (r11, u3 0 0 0)
set_option maxRecDepth 100000 in
set_option maxHeartbeats 4000000 in
theorem m_X11_bestOrder (l : Launch) (z : Zt) (ad : Ad) (G : Gt) (hA : Raw ad) (A : Nat → Nat) (M : St) (hF : FM z G A M) {r9 : Int32} {t9 : Int32} (h : g_X11_bestOrder M = some (r9, t9)) : MC l z yX11_bestOrder cX11_bestOrder 1 (some .int) { frames := 8, cells := 13, slots := 48, locals := 198 } 13 48 [.ref (A 0)] ad G (PWi z ad A r9 t9 (fmO M)) := by
  refine Met.ofW (cc := cX11_bestOrder) (maxL := 1) (ret := (some .int)) (by decide) rfl ?_
  intro p e s m args below meth c s₁ B hml hv
  obtain ⟨rfl, hSW, hW⟩ := hv
  have hx := B.exec; have hb := B.bytes; have hr := B.returns; have hlocks := B.notSynchronized
  have hown : s.vm.findClass RX11 = some m.cls := findClass_of_methodNamed B.named
  obtain ⟨hT, hK, hST, hB0⟩ := id hSW
  have hS : va_S (zA z) s.heap s.heap [] := va_S.rf
  have hl := lv_entry ([.ref (A 0)]) (n := 1) (Nat.le_of_ble_eq_true rfl)
  rw [lg_entry_eq]
  generalize (lg_sl ([.ref (A 0)]) ++ List.replicate (1 - (lg_sl ([.ref (A 0)])).length) Slot.unset).toArray = ls at hl ⊢
  have hl : lv_has ls 1 [(0, .ref (A 0))] := hl
  have hw : fmO M = fmO M := rfl
  unfold g_X11_bestOrder at h
  refine lv_aload_n hx hb dX11_bestOrder_0 rfl (lv_at hl 0 rfl) ?_
  refine lv_aload_n hx hb dX11_bestOrder_1 rfl (lv_at hl 0 rfl) ?_
  refine nb_getr hA hx hb hT hK hown hW fl_X11_28 hF.1 (v := .ref (A 3)) rfl dX11_bestOrder_2 ?_
  refine nb_ci (nb_runVr (As := []) (rest := [.ref (A 0)]) hA hx hb hml hown hSW hS hW (m_size l z ad _ hA (A 3) (hF.2.1 2 (by decide))) mf_Jx4a65c_size_8abf5 lk_X11_67 (hF.2.1 2 (by decide)) rfl rfl ⟨rfl, rfl⟩ ⟨Nat.le_of_ble_eq_true rfl, Nat.le_of_ble_eq_true rfl⟩ hl.1 (Nat.le_of_ble_eq_true rfl) dX11_bestOrder_5 ⟨Nat.le_of_ble_eq_true rfl, Nat.le_of_ble_eq_true rfl⟩) hS (fun H locs hW hS => ?_)
  refine lv_iconst (v := 5) hx hb dX11_bestOrder_8 (by decide) ?_
  refine lv_icmp_le (tgt := 16) hx hb dX11_bestOrder_9 (by decide) (fun _ => ?_) (fun hc => absurd (by decide) hc)
  refine lv_iconst (v := 0) hx hb dX11_bestOrder_16 (by decide) ?_
  refine lv_iconst (v := 1) hx hb dX11_bestOrder_17 (by decide) ?_
  obtain ⟨r2, u3, h1, h⟩ := ob2_s h
  obtain ⟨g5, hz8⟩ := gd_s h
  clear h
  subst g5
  have h := hz8
  clear hz8
  refine fm_cs (nb_runVr (As := [.int 0, .int 1]) (rest := []) hA hx hb hml hown hSW hS hW (m_X11_start l z ad _ hA A M hF 0 1 h1) mf_X11_start lk_X11_75 hF.1 rfl rfl ⟨rfl, rfl⟩ ⟨Nat.le_of_ble_eq_true rfl, Nat.le_of_ble_eq_true rfl⟩ hl.1 (Nat.le_of_ble_eq_true rfl) dX11_bestOrder_18 ⟨Nat.le_of_ble_eq_true rfl, Nat.le_of_ble_eq_true rfl⟩) hS (fun H locs G4 hF hw2 hW hS => ?_)
  replace hw := hw2.trans hw
  clear hw2
  refine lv_if_eq (tgt := 28) hx hb dX11_bestOrder_21 (by decide) (fun _ => ?_) (fun hc => absurd (by decide) hc)
  refine lv_aload_n hx hb dX11_bestOrder_28 rfl (lv_at hl 0 rfl) ?_
  refine lv_aload_n hx hb dX11_bestOrder_29 rfl (lv_at hl 0 rfl) ?_
  obtain ⟨_, h6, h⟩ := ob_s h
  refine fm_cr (nb_runVr (As := []) (rest := [.ref (A 0)]) hA hx hb hml hown hSW hS hW (m_X11_row l z ad _ hA A u3 hF h6) mf_X11_row lk_X11_266 hF.1 rfl rfl ⟨rfl, rfl⟩ ⟨Nat.le_of_ble_eq_true rfl, Nat.le_of_ble_eq_true rfl⟩ hl.1 (Nat.le_of_ble_eq_true rfl) dX11_bestOrder_30 ⟨Nat.le_of_ble_eq_true rfl, Nat.le_of_ble_eq_true rfl⟩) hS (fun H locs G8 q09 hEG8 hcq09 hW hS => ?_)
  replace hF := hF.ext0 hEG8
  refine lv_iconst (v := 0) hx hb dX11_bestOrder_33 (by decide) ?_
  obtain ⟨r11, h10, h⟩ := ob_s h
  refine fm_ci (nb_runVr (As := [.ref q09, .int 0]) (rest := []) hA hx hb hml hown hSW hS hW (m_X11_best l z ad _ hA A u3 hF 0 q09 hcq09 h10) mf_X11_best lk_X11_325 hF.1 rfl rfl ⟨rfl, rfl⟩ ⟨Nat.le_of_ble_eq_true rfl, Nat.le_of_ble_eq_true rfl⟩ hl.1 (Nat.le_of_ble_eq_true rfl) dX11_bestOrder_34 ⟨Nat.le_of_ble_eq_true rfl, Nat.le_of_ble_eq_true rfl⟩) hS (fun H locs G12 hEG12 hW hS => ?_)
  replace hF := hF.ext0 hEG12
  replace hcq09 := hEG12 _ _ _ hcq09
  refine W.widen (k := 13) (n := 48) (Nat.le_of_ble_eq_true rfl) (Nat.le_of_ble_eq_true rfl) ?_
  exact fm_iw hx hb hr rfl hlocks hW (hF.w hw) hS dX11_bestOrder_37 h
-- bestTeach
def g_X11_bestTeach (M : St) (x1 : Int32) (x2 : Int32) : Option (Int32 × Int32) :=
  ob (g_X11_isNoPlayer M x1) fun r2 =>
  ob2 (g_X11_start M r2 1) fun r5 u6 =>
  if r5 = 0 then
    ob (g_X11_isIn x2 1 60) fun r10 =>
    if r10 = 0 then
      ob2 (g_X11_refuse u6 1 2) fun r19 u20 =>
      gd (r19 = 1) <|
      some (0, u20 0 0 0)
    else
      ob2 (g_X11_refuse u6 0 2) fun r14 u15 =>
      gd (r14 = 0) <|
      none
  else
    some (0, u6 0 0 0)
set_option maxRecDepth 100000 in
set_option maxHeartbeats 4000000 in
theorem m_X11_bestTeach (l : Launch) (z : Zt) (ad : Ad) (G : Gt) (hA : Raw ad) (A : Nat → Nat) (M : St) (hF : FM z G A M) (x1 : Int32) (x2 : Int32) {r9 : Int32} {t9 : Int32} (h : g_X11_bestTeach M x1 x2 = some (r9, t9)) : MC l z yX11_bestTeach cX11_bestTeach 3 (some .int) { frames := 3, cells := 0, slots := 0, locals := 102 } 0 0 [.ref (A 0), .int x1, .int x2] ad G (PWi z ad A r9 t9 (fmO M)) := by
  refine Met.ofW (cc := cX11_bestTeach) (maxL := 3) (ret := (some .int)) (by decide) rfl ?_
  intro p e s m args below meth c s₁ B hml hv
  obtain ⟨rfl, hSW, hW⟩ := hv
  have hx := B.exec; have hb := B.bytes; have hr := B.returns; have hlocks := B.notSynchronized
  have hown : s.vm.findClass RX11 = some m.cls := findClass_of_methodNamed B.named
  obtain ⟨hT, hK, hST, hB0⟩ := id hSW
  have hS : va_S (zA z) s.heap s.heap [] := va_S.rf
  have hl := lv_entry ([.ref (A 0), .int x1, .int x2]) (n := 3) (Nat.le_of_ble_eq_true rfl)
  rw [lg_entry_eq]
  generalize (lg_sl ([.ref (A 0), .int x1, .int x2]) ++ List.replicate (3 - (lg_sl ([.ref (A 0), .int x1, .int x2])).length) Slot.unset).toArray = ls at hl ⊢
  have hl : lv_has ls 3 [(0, .ref (A 0)), (1, .int x1), (2, .int x2)] := hl
  have hw : fmO M = fmO M := rfl
  unfold g_X11_bestTeach at h
  refine lv_aload_n hx hb dX11_bestTeach_0 rfl (lv_at hl 0 rfl) ?_
  refine lv_aload_n hx hb dX11_bestTeach_1 rfl (lv_at hl 0 rfl) ?_
  refine lv_iload_n hx hb dX11_bestTeach_2 rfl (lv_at hl 1 rfl) ?_
  obtain ⟨r2, h1, h⟩ := ob_s h
  refine fm_ci (nb_runVr (As := [.int x1]) (rest := [.ref (A 0)]) hA hx hb hml hown hSW hS hW (m_X11_isNoPlayer l z ad _ hA A M hF x1 h1) mf_X11_isNoPlayer lk_X11_174 hF.1 rfl rfl ⟨rfl, rfl⟩ ⟨Nat.le_of_ble_eq_true rfl, Nat.le_of_ble_eq_true rfl⟩ hl.1 (Nat.le_of_ble_eq_true rfl) dX11_bestTeach_3 ⟨Nat.le_of_ble_eq_true rfl, Nat.le_of_ble_eq_true rfl⟩) hS (fun H locs G3 hEG3 hW hS => ?_)
  replace hF := hF.ext0 hEG3
  refine lv_iconst (v := 1) hx hb dX11_bestTeach_6 (by decide) ?_
  obtain ⟨r5, u6, h4, h⟩ := ob2_s h
  refine fm_cs (nb_runVr (As := [.int r2, .int 1]) (rest := []) hA hx hb hml hown hSW hS hW (m_X11_start l z ad _ hA A M hF r2 1 h4) mf_X11_start lk_X11_75 hF.1 rfl rfl ⟨rfl, rfl⟩ ⟨Nat.le_of_ble_eq_true rfl, Nat.le_of_ble_eq_true rfl⟩ hl.1 (Nat.le_of_ble_eq_true rfl) dX11_bestTeach_7 ⟨Nat.le_of_ble_eq_true rfl, Nat.le_of_ble_eq_true rfl⟩) hS (fun H locs G7 hF hw2 hW hS => ?_)
  replace hw := hw2.trans hw
  clear hw2
  refine lv_if_ne (tgt := 36) hx hb dX11_bestTeach_10 (by decide) (fun c8 => ?_) (fun c8 => ?_)
  · replace h := ite_f h c8
    refine lv_iconst (v := 0) hx hb dX11_bestTeach_36 (by decide) ?_
    refine lv_goto (tgt := 46) hx hb dX11_bestTeach_37 (by decide) ?_
    refine W.widen (k := 0) (n := 0) (Nat.le_of_ble_eq_true rfl) (Nat.le_of_ble_eq_true rfl) ?_
    exact fm_iw hx hb hr rfl hlocks hW (hF.w hw) hS dX11_bestTeach_46 h
  · replace h := ite_t h c8
    refine lv_aload_n hx hb dX11_bestTeach_13 rfl (lv_at hl 0 rfl) ?_
    refine lv_iload_n hx hb dX11_bestTeach_14 rfl (lv_at hl 2 rfl) ?_
    refine lv_iconst (v := 1) hx hb dX11_bestTeach_15 (by decide) ?_
    refine lv_bipush (v := 60) hx hb dX11_bestTeach_16 (by decide) ?_
    obtain ⟨r10, h09, h⟩ := ob_s h
    refine nb_ci (nb_runS (As := [.int x2, .int 1, .int 60]) (rest := [.ref (A 0)]) hx hb hml hown hSW hS hW (m_X11_isIn l z ad _ hA x2 1 60 h09) mf_X11_isIn lk_X11_63 rfl ⟨rfl, rfl⟩ ⟨Nat.le_of_ble_eq_true rfl, Nat.le_of_ble_eq_true rfl⟩ hl.1 (Nat.le_of_ble_eq_true rfl) dX11_bestTeach_18 ⟨Nat.le_of_ble_eq_true rfl, Nat.le_of_ble_eq_true rfl⟩) hS (fun H locs hW hS => ?_)
    refine lv_if_ne (tgt := 28) hx hb dX11_bestTeach_21 (by decide) (fun c12 => ?_) (fun c12 => ?_)
    · replace h := ite_f h c12
      refine lv_iconst (v := 0) hx hb dX11_bestTeach_28 (by decide) ?_
      refine lv_iconst (v := 2) hx hb dX11_bestTeach_29 (by decide) ?_
      obtain ⟨r14, u15, h13, h⟩ := ob2_s h
      obtain ⟨g17, hz8⟩ := gd_s h
      clear h
      subst g17
      have h := hz8
      clear hz8
      refine fm_cs (nb_runVr (As := [.int 0, .int 2]) (rest := []) hA hx hb hml hown hSW hS hW (m_X11_refuse l z ad _ hA A u6 hF 0 2 h13) mf_X11_refuse lk_X11_59 hF.1 rfl rfl ⟨rfl, rfl⟩ ⟨Nat.le_of_ble_eq_true rfl, Nat.le_of_ble_eq_true rfl⟩ hl.1 (Nat.le_of_ble_eq_true rfl) dX11_bestTeach_30 ⟨Nat.le_of_ble_eq_true rfl, Nat.le_of_ble_eq_true rfl⟩) hS (fun H locs G16 hF hw2 hW hS => ?_)
      replace hw := hw2.trans hw
      clear hw2
      refine lv_if_eq (tgt := 40) hx hb dX11_bestTeach_33 (by decide) (fun _ => ?_) (fun hc => absurd (by decide) hc)
      refine lv_aload_n hx hb dX11_bestTeach_40 rfl (lv_at hl 0 rfl) ?_
      refine lv_iload_n hx hb dX11_bestTeach_41 rfl (lv_at hl 1 rfl) ?_
      refine lv_iload_n hx hb dX11_bestTeach_42 rfl (lv_at hl 2 rfl) ?_
      exact absurd h (by intro q; cases q)
    · replace h := ite_t h c12
      refine lv_iconst (v := 1) hx hb dX11_bestTeach_24 (by decide) ?_
      refine lv_goto (tgt := 29) hx hb dX11_bestTeach_25 (by decide) ?_
      refine lv_iconst (v := 2) hx hb dX11_bestTeach_29 (by decide) ?_
      obtain ⟨r19, u20, h18, h⟩ := ob2_s h
      obtain ⟨g22, hz8⟩ := gd_s h
      clear h
      subst g22
      have h := hz8
      clear hz8
      refine fm_cs (nb_runVr (As := [.int 1, .int 2]) (rest := []) hA hx hb hml hown hSW hS hW (m_X11_refuse l z ad _ hA A u6 hF 1 2 h18) mf_X11_refuse lk_X11_59 hF.1 rfl rfl ⟨rfl, rfl⟩ ⟨Nat.le_of_ble_eq_true rfl, Nat.le_of_ble_eq_true rfl⟩ hl.1 (Nat.le_of_ble_eq_true rfl) dX11_bestTeach_30 ⟨Nat.le_of_ble_eq_true rfl, Nat.le_of_ble_eq_true rfl⟩) hS (fun H locs G21 hF hw2 hW hS => ?_)
      replace hw := hw2.trans hw
      clear hw2
      refine lv_if_eq (tgt := 40) hx hb dX11_bestTeach_33 (by decide) (fun hc => absurd hc (by decide)) (fun _ => ?_)
      refine lv_iconst (v := 0) hx hb dX11_bestTeach_36 (by decide) ?_
      refine lv_goto (tgt := 46) hx hb dX11_bestTeach_37 (by decide) ?_
      refine W.widen (k := 0) (n := 0) (Nat.le_of_ble_eq_true rfl) (Nat.le_of_ble_eq_true rfl) ?_
      exact fm_iw hx hb hr rfl hlocks hW (hF.w hw) hS dX11_bestTeach_46 h
-- blowsFor
def g_X11_blowsFor (M : St) (x1 : Int32) : Option (Int32 × Int32) :=
  ob (g_X11_isNoPan M x1) fun r2 =>
  ob2 (g_X11_start M r2 1) fun r5 u6 =>
  if r5 = 0 then
    none
  else
    some (0, u6 0 0 0)
set_option maxRecDepth 100000 in
set_option maxHeartbeats 4000000 in
theorem m_X11_blowsFor (l : Launch) (z : Zt) (ad : Ad) (G : Gt) (hA : Raw ad) (A : Nat → Nat) (M : St) (hF : FM z G A M) (x1 : Int32) {r9 : Int32} {t9 : Int32} (h : g_X11_blowsFor M x1 = some (r9, t9)) : MC l z yX11_blowsFor cX11_blowsFor 2 (some .int) { frames := 3, cells := 0, slots := 0, locals := 102 } 0 0 [.ref (A 0), .int x1] ad G (PWi z ad A r9 t9 (fmO M)) := by
  refine Met.ofW (cc := cX11_blowsFor) (maxL := 2) (ret := (some .int)) (by decide) rfl ?_
  intro p e s m args below meth c s₁ B hml hv
  obtain ⟨rfl, hSW, hW⟩ := hv
  have hx := B.exec; have hb := B.bytes; have hr := B.returns; have hlocks := B.notSynchronized
  have hown : s.vm.findClass RX11 = some m.cls := findClass_of_methodNamed B.named
  obtain ⟨hT, hK, hST, hB0⟩ := id hSW
  have hS : va_S (zA z) s.heap s.heap [] := va_S.rf
  have hl := lv_entry ([.ref (A 0), .int x1]) (n := 2) (Nat.le_of_ble_eq_true rfl)
  rw [lg_entry_eq]
  generalize (lg_sl ([.ref (A 0), .int x1]) ++ List.replicate (2 - (lg_sl ([.ref (A 0), .int x1])).length) Slot.unset).toArray = ls at hl ⊢
  have hl : lv_has ls 2 [(0, .ref (A 0)), (1, .int x1)] := hl
  have hw : fmO M = fmO M := rfl
  unfold g_X11_blowsFor at h
  refine lv_aload_n hx hb dX11_blowsFor_0 rfl (lv_at hl 0 rfl) ?_
  refine lv_aload_n hx hb dX11_blowsFor_1 rfl (lv_at hl 0 rfl) ?_
  refine lv_iload_n hx hb dX11_blowsFor_2 rfl (lv_at hl 1 rfl) ?_
  obtain ⟨r2, h1, h⟩ := ob_s h
  refine fm_ci (nb_runVr (As := [.int x1]) (rest := [.ref (A 0)]) hA hx hb hml hown hSW hS hW (m_X11_isNoPan l z ad _ hA A M hF x1 h1) mf_X11_isNoPan lk_X11_87 hF.1 rfl rfl ⟨rfl, rfl⟩ ⟨Nat.le_of_ble_eq_true rfl, Nat.le_of_ble_eq_true rfl⟩ hl.1 (Nat.le_of_ble_eq_true rfl) dX11_blowsFor_3 ⟨Nat.le_of_ble_eq_true rfl, Nat.le_of_ble_eq_true rfl⟩) hS (fun H locs G3 hEG3 hW hS => ?_)
  replace hF := hF.ext0 hEG3
  refine lv_iconst (v := 1) hx hb dX11_blowsFor_6 (by decide) ?_
  obtain ⟨r5, u6, h4, h⟩ := ob2_s h
  refine fm_cs (nb_runVr (As := [.int r2, .int 1]) (rest := []) hA hx hb hml hown hSW hS hW (m_X11_start l z ad _ hA A M hF r2 1 h4) mf_X11_start lk_X11_75 hF.1 rfl rfl ⟨rfl, rfl⟩ ⟨Nat.le_of_ble_eq_true rfl, Nat.le_of_ble_eq_true rfl⟩ hl.1 (Nat.le_of_ble_eq_true rfl) dX11_blowsFor_7 ⟨Nat.le_of_ble_eq_true rfl, Nat.le_of_ble_eq_true rfl⟩) hS (fun H locs G7 hF hw2 hW hS => ?_)
  replace hw := hw2.trans hw
  clear hw2
  refine lv_if_eq (tgt := 17) hx hb dX11_blowsFor_10 (by decide) (fun c8 => ?_) (fun c8 => ?_)
  · replace h := ite_t h c8
    refine lv_aload_n hx hb dX11_blowsFor_17 rfl (lv_at hl 0 rfl) ?_
    refine lv_iload_n hx hb dX11_blowsFor_18 rfl (lv_at hl 1 rfl) ?_
    exact absurd h (by intro q; cases q)
  · replace h := ite_f h c8
    refine lv_iconst (v := 0) hx hb dX11_blowsFor_13 (by decide) ?_
    refine lv_goto (tgt := 22) hx hb dX11_blowsFor_14 (by decide) ?_
    refine W.widen (k := 0) (n := 0) (Nat.le_of_ble_eq_true rfl) (Nat.le_of_ble_eq_true rfl) ?_
    exact fm_iw hx hb hr rfl hlocks hW (hF.w hw) hS dX11_blowsFor_22 h
-- meanMemory
def g_X11_meanMemory (M : St) : Option (UInt64 × Int32) :=
  nm (sset M 0 0 0 0) fun u1 =>
  some (0, u1 0 0 0)
set_option maxRecDepth 100000 in
set_option maxHeartbeats 4000000 in
theorem m_X11_meanMemory (l : Launch) (z : Zt) (ad : Ad) (G : Gt) (hA : Raw ad) (A : Nat → Nat) (M : St) (hF : FM z G A M) {r9 : UInt64} {t9 : Int32} (h : g_X11_meanMemory M = some (r9, t9)) : MC l z yX11_meanMemory cX11_meanMemory 6 (some .double) { frames := 3, cells := 1, slots := 4, locals := 81 } 1 4 [.ref (A 0)] ad G (PWd z ad A r9 t9 (fmO M)) := by
  refine Met.ofW (cc := cX11_meanMemory) (maxL := 6) (ret := (some .double)) (by decide) rfl ?_
  intro p e s m args below meth c s₁ B hml hv
  obtain ⟨rfl, hSW, hW⟩ := hv
  have hx := B.exec; have hb := B.bytes; have hr := B.returns; have hlocks := B.notSynchronized
  have hown : s.vm.findClass RX11 = some m.cls := findClass_of_methodNamed B.named
  obtain ⟨hT, hK, hST, hB0⟩ := id hSW
  have hS : va_S (zA z) s.heap s.heap [] := va_S.rf
  have hl := lv_entry ([.ref (A 0)]) (n := 6) (Nat.le_of_ble_eq_true rfl)
  rw [lg_entry_eq]
  generalize (lg_sl ([.ref (A 0)]) ++ List.replicate (6 - (lg_sl ([.ref (A 0)])).length) Slot.unset).toArray = ls at hl ⊢
  have hl : lv_has ls 6 [(0, .ref (A 0))] := hl
  have hw : fmO M = fmO M := rfl
  unfold g_X11_meanMemory at h
  refine lv_aload_n hx hb dX11_meanMemory_0 rfl (lv_at hl 0 rfl) ?_
  refine lv_iconst (v := 0) hx hb dX11_meanMemory_1 (by decide) ?_
  obtain ⟨u1, eu1, h⟩ := nm_s h
  refine nb_putr hA hx hb hT hK hown hW hS fl_X11_56 tyX11 tyX11_ok nmX11 hF.1 (v := .int 0) rfl rfl rfl (Nat.le_of_ble_eq_true rfl) dX11_meanMemory_2 (fun H locs G2 hEG2 hcG2 hW hS => ?_)
  replace hF := hF.put (M' := u1) hEG2 hcG2 (by rw [eu1]; rfl) (by rw [eu1]; rfl)
  replace hw : fmO u1 = fmO M := by rw [eu1]; exact hw
  refine lv_iconst (v := 0) hx hb dX11_meanMemory_5 (by decide) ?_
  refine lv_istore_n (lv' := [(1, .int 0), (0, .ref (A 0))]) hx hb dX11_meanMemory_6 rfl hl (by decide) rfl (fun ls hl => ?_)
  refine lv_iconst (v := 0) hx hb dX11_meanMemory_7 (by decide) ?_
  refine lv_istore_n (lv' := [(2, .int 0), (1, .int 0), (0, .ref (A 0))]) hx hb dX11_meanMemory_8 rfl hl (by decide) rfl (fun ls hl => ?_)
  refine lv_aload_n hx hb dX11_meanMemory_9 rfl (lv_at hl 2 rfl) ?_
  refine nb_getr hA hx hb hT hK hown hW fl_X11_31 hF.1 (v := .ref (A 4)) rfl dX11_meanMemory_10 ?_
  refine fm_cr (nb_runVr (As := []) (rest := []) hA hx hb hml hown hSW hS hW (m_iterator l z ad _ hA (A 4) (hF.2.1 3 (by decide))) mf_Jx4a65c_iterator_32c93 lk_X11_138 (hF.2.1 3 (by decide)) rfl rfl ⟨rfl, rfl⟩ ⟨Nat.le_of_ble_eq_true rfl, Nat.le_of_ble_eq_true rfl⟩ hl.1 (Nat.le_of_ble_eq_true rfl) dX11_meanMemory_13 ⟨Nat.le_of_ble_eq_true rfl, Nat.le_of_ble_eq_true rfl⟩) hS (fun H locs G4 q3 hEq3 hcq3 hW hS => ?_)
  replace hF := hF.ext0 hEq3
  refine lv_astore_n (lv' := [(3, .ref q3), (2, .int 0), (1, .int 0), (0, .ref (A 0))]) hx hb dX11_meanMemory_16 rfl hl (by decide) rfl (fun ls hl => ?_)
  refine lv_aload_n hx hb dX11_meanMemory_17 rfl (lv_at hl 0 rfl) ?_
  refine fm_hn (rest := []) hA hx hb hml hown hSW hS hW hcq3 (hF.2.1 3 (by decide)) mh_X11_142 ⟨Nat.le_of_ble_eq_true rfl, Nat.le_of_ble_eq_true rfl⟩ hl.1 (Nat.le_of_ble_eq_true rfl) dX11_meanMemory_18 ⟨Nat.le_of_ble_eq_true rfl, Nat.le_of_ble_eq_true rfl⟩ (fun H locs hW hS => ?_)
  refine lv_if_eq (tgt := 98) hx hb dX11_meanMemory_23 (by decide) (fun _ => ?_) (fun hc => absurd (by decide) hc)
  refine lv_iload_n hx hb dX11_meanMemory_98 rfl (lv_at hl 2 rfl) ?_
  refine lv_if_ne (tgt := 106) hx hb dX11_meanMemory_99 (by decide) (fun hc => absurd (by decide) hc) (fun _ => ?_)
  refine lv_dconst0 hx hb dX11_meanMemory_102 ?_
  refine lv_goto (tgt := 111) hx hb dX11_meanMemory_103 (by decide) ?_
  refine W.widen (k := 1) (n := 4) (Nat.le_of_ble_eq_true rfl) (Nat.le_of_ble_eq_true rfl) ?_
  exact fm_dw hx hb hr hlocks hW (hF.w hw) hS dX11_meanMemory_111 h
-- thrown
def g_X11_thrown (M : St) : Option (Int32 × Int32) :=
  some ((M 0 0 0), M 0 0 0)
set_option maxRecDepth 100000 in
set_option maxHeartbeats 4000000 in
theorem m_X11_thrown (l : Launch) (z : Zt) (ad : Ad) (G : Gt) (hA : Raw ad) (A : Nat → Nat) (M : St) (hF : FM z G A M) {r9 : Int32} {t9 : Int32} (h : g_X11_thrown M = some (r9, t9)) : MC l z yX11_thrown cX11_thrown 1 (some .int) { frames := 0, cells := 0, slots := 0, locals := 0 } 0 0 [.ref (A 0)] ad G (PWi z ad A r9 t9 (fmO M)) := by
  refine Met.ofW (cc := cX11_thrown) (maxL := 1) (ret := (some .int)) (by decide) rfl ?_
  intro p e s m args below meth c s₁ B hml hv
  obtain ⟨rfl, hSW, hW⟩ := hv
  have hx := B.exec; have hb := B.bytes; have hr := B.returns; have hlocks := B.notSynchronized
  have hown : s.vm.findClass RX11 = some m.cls := findClass_of_methodNamed B.named
  obtain ⟨hT, hK, hST, hB0⟩ := id hSW
  have hS : va_S (zA z) s.heap s.heap [] := va_S.rf
  have hl := lv_entry ([.ref (A 0)]) (n := 1) (Nat.le_of_ble_eq_true rfl)
  rw [lg_entry_eq]
  generalize (lg_sl ([.ref (A 0)]) ++ List.replicate (1 - (lg_sl ([.ref (A 0)])).length) Slot.unset).toArray = ls at hl ⊢
  have hl : lv_has ls 1 [(0, .ref (A 0))] := hl
  have hw : fmO M = fmO M := rfl
  unfold g_X11_thrown at h
  refine lv_aload_n hx hb dX11_thrown_0 rfl (lv_at hl 0 rfl) ?_
  refine nb_getr hA hx hb hT hK hown hW fl_X11_56 hF.1 (v := .int (M 0 0 0)) rfl dX11_thrown_1 ?_
  refine W.widen (k := 0) (n := 0) (Nat.le_of_ble_eq_true rfl) (Nat.le_of_ble_eq_true rfl) ?_
  exact fm_iw hx hb hr rfl hlocks hW (hF.w hw) hS dX11_thrown_4 h
-- wouldTotal
def g_X11_wouldTotal (M : St) (x1 : Int32) : Option (Int32 × Int32) :=
  ob (g_X11_isIn x1 0 60) fun r2 =>
  if r2 = 0 then
    ob2 (g_X11_start M 1 1) fun r14 u15 =>
    gd (r14 = 1) <|
    some (0, u15 0 0 0)
  else
    ob2 (g_X11_start M 0 1) fun r6 u7 =>
    gd (r6 = 0) <|
    ob (g_X11_wouldTotalNow u7 x1) fun r11 =>
    some (r11, u7 0 0 0)
set_option maxRecDepth 100000 in
set_option maxHeartbeats 4000000 in
theorem m_X11_wouldTotal (l : Launch) (z : Zt) (ad : Ad) (G : Gt) (hA : Raw ad) (A : Nat → Nat) (M : St) (hF : FM z G A M) (x1 : Int32) {r9 : Int32} {t9 : Int32} (h : g_X11_wouldTotal M x1 = some (r9, t9)) : MC l z yX11_wouldTotal cX11_wouldTotal 2 (some .int) { frames := 8, cells := 14, slots := 48, locals := 199 } 14 48 [.ref (A 0), .int x1] ad G (PWi z ad A r9 t9 (fmO M)) := by
  refine Met.ofW (cc := cX11_wouldTotal) (maxL := 2) (ret := (some .int)) (by decide) rfl ?_
  intro p e s m args below meth c s₁ B hml hv
  obtain ⟨rfl, hSW, hW⟩ := hv
  have hx := B.exec; have hb := B.bytes; have hr := B.returns; have hlocks := B.notSynchronized
  have hown : s.vm.findClass RX11 = some m.cls := findClass_of_methodNamed B.named
  obtain ⟨hT, hK, hST, hB0⟩ := id hSW
  have hS : va_S (zA z) s.heap s.heap [] := va_S.rf
  have hl := lv_entry ([.ref (A 0), .int x1]) (n := 2) (Nat.le_of_ble_eq_true rfl)
  rw [lg_entry_eq]
  generalize (lg_sl ([.ref (A 0), .int x1]) ++ List.replicate (2 - (lg_sl ([.ref (A 0), .int x1])).length) Slot.unset).toArray = ls at hl ⊢
  have hl : lv_has ls 2 [(0, .ref (A 0)), (1, .int x1)] := hl
  have hw : fmO M = fmO M := rfl
  unfold g_X11_wouldTotal at h
  refine lv_aload_n hx hb dX11_wouldTotal_0 rfl (lv_at hl 0 rfl) ?_
  refine lv_iload_n hx hb dX11_wouldTotal_1 rfl (lv_at hl 1 rfl) ?_
  refine lv_iconst (v := 0) hx hb dX11_wouldTotal_2 (by decide) ?_
  refine lv_bipush (v := 60) hx hb dX11_wouldTotal_3 (by decide) ?_
  obtain ⟨r2, h1, h⟩ := ob_s h
  refine nb_ci (nb_runS (As := [.int x1, .int 0, .int 60]) (rest := [.ref (A 0)]) hx hb hml hown hSW hS hW (m_X11_isIn l z ad _ hA x1 0 60 h1) mf_X11_isIn lk_X11_63 rfl ⟨rfl, rfl⟩ ⟨Nat.le_of_ble_eq_true rfl, Nat.le_of_ble_eq_true rfl⟩ hl.1 (Nat.le_of_ble_eq_true rfl) dX11_wouldTotal_5 ⟨Nat.le_of_ble_eq_true rfl, Nat.le_of_ble_eq_true rfl⟩) hS (fun H locs hW hS => ?_)
  refine lv_if_ne (tgt := 15) hx hb dX11_wouldTotal_8 (by decide) (fun c4 => ?_) (fun c4 => ?_)
  · replace h := ite_f h c4
    refine lv_iconst (v := 0) hx hb dX11_wouldTotal_15 (by decide) ?_
    refine lv_iconst (v := 1) hx hb dX11_wouldTotal_16 (by decide) ?_
    obtain ⟨r6, u7, h5, h⟩ := ob2_s h
    obtain ⟨g09, hz8⟩ := gd_s h
    clear h
    subst g09
    have h := hz8
    clear hz8
    refine fm_cs (nb_runVr (As := [.int 0, .int 1]) (rest := []) hA hx hb hml hown hSW hS hW (m_X11_start l z ad _ hA A M hF 0 1 h5) mf_X11_start lk_X11_75 hF.1 rfl rfl ⟨rfl, rfl⟩ ⟨Nat.le_of_ble_eq_true rfl, Nat.le_of_ble_eq_true rfl⟩ hl.1 (Nat.le_of_ble_eq_true rfl) dX11_wouldTotal_17 ⟨Nat.le_of_ble_eq_true rfl, Nat.le_of_ble_eq_true rfl⟩) hS (fun H locs G8 hF hw2 hW hS => ?_)
    replace hw := hw2.trans hw
    clear hw2
    refine lv_if_eq (tgt := 27) hx hb dX11_wouldTotal_20 (by decide) (fun _ => ?_) (fun hc => absurd (by decide) hc)
    refine lv_aload_n hx hb dX11_wouldTotal_27 rfl (lv_at hl 0 rfl) ?_
    refine lv_iload_n hx hb dX11_wouldTotal_28 rfl (lv_at hl 1 rfl) ?_
    obtain ⟨r11, h10, h⟩ := ob_s h
    refine fm_ci (nb_runVr (As := [.int x1]) (rest := []) hA hx hb hml hown hSW hS hW (m_X11_wouldTotalNow l z ad _ hA A u7 hF x1 h10) mf_X11_wouldTotalNow lk_X11_318 hF.1 rfl rfl ⟨rfl, rfl⟩ ⟨Nat.le_of_ble_eq_true rfl, Nat.le_of_ble_eq_true rfl⟩ hl.1 (Nat.le_of_ble_eq_true rfl) dX11_wouldTotal_29 ⟨Nat.le_of_ble_eq_true rfl, Nat.le_of_ble_eq_true rfl⟩) hS (fun H locs G12 hEG12 hW hS => ?_)
    replace hF := hF.ext0 hEG12
    refine W.widen (k := 14) (n := 48) (Nat.le_of_ble_eq_true rfl) (Nat.le_of_ble_eq_true rfl) ?_
    exact fm_iw hx hb hr rfl hlocks hW (hF.w hw) hS dX11_wouldTotal_32 h
  · replace h := ite_t h c4
    refine lv_iconst (v := 1) hx hb dX11_wouldTotal_11 (by decide) ?_
    refine lv_goto (tgt := 16) hx hb dX11_wouldTotal_12 (by decide) ?_
    refine lv_iconst (v := 1) hx hb dX11_wouldTotal_16 (by decide) ?_
    obtain ⟨r14, u15, h13, h⟩ := ob2_s h
    obtain ⟨g17, hz8⟩ := gd_s h
    clear h
    subst g17
    have h := hz8
    clear hz8
    refine fm_cs (nb_runVr (As := [.int 1, .int 1]) (rest := []) hA hx hb hml hown hSW hS hW (m_X11_start l z ad _ hA A M hF 1 1 h13) mf_X11_start lk_X11_75 hF.1 rfl rfl ⟨rfl, rfl⟩ ⟨Nat.le_of_ble_eq_true rfl, Nat.le_of_ble_eq_true rfl⟩ hl.1 (Nat.le_of_ble_eq_true rfl) dX11_wouldTotal_17 ⟨Nat.le_of_ble_eq_true rfl, Nat.le_of_ble_eq_true rfl⟩) hS (fun H locs G16 hF hw2 hW hS => ?_)
    replace hw := hw2.trans hw
    clear hw2
    refine lv_if_eq (tgt := 27) hx hb dX11_wouldTotal_20 (by decide) (fun hc => absurd hc (by decide)) (fun _ => ?_)
    refine lv_iconst (v := 0) hx hb dX11_wouldTotal_23 (by decide) ?_
    refine lv_goto (tgt := 32) hx hb dX11_wouldTotal_24 (by decide) ?_
    refine W.widen (k := 14) (n := 48) (Nat.le_of_ble_eq_true rfl) (Nat.le_of_ble_eq_true rfl) ?_
    exact fm_iw hx hb hr rfl hlocks hW (hF.w hw) hS dX11_wouldTotal_32 h
-- digest
def g_X11_digest (M : St) : Option (Int64 × Int32) :=
  nm (sset M 0 0 0 0) fun u1 =>
  ob (g_X11_manyNow u1 0) fun r4 =>
  ob (g_X11_add 58218 r4.toInt64) fun r7 =>
  ob (g_X11_manyNow u1 1) fun r10 =>
  ob (g_X11_add r7 r10.toInt64) fun r13 =>
  ob (g_X11_manyNow u1 2) fun r16 =>
  ob (g_X11_add r13 r16.toInt64) fun r19 =>
  ob (g_X11_manyNow u1 3) fun r22 =>
  ob (g_X11_add r19 r22.toInt64) fun r25 =>
  ob (g_X11_manyNow u1 4) fun r28 =>
  ob (g_X11_add r25 r28.toInt64) fun r31 =>
  ob (g_X11_manyNow u1 5) fun r34 =>
  ob (g_X11_add r31 r34.toInt64) fun r37 =>
  ob (g_X11_manyNow u1 6) fun r40 =>
  ob (g_X11_add r37 r40.toInt64) fun r43 =>
  ob (g_X11_manyNow u1 7) fun r46 =>
  ob (g_X11_add r43 r46.toInt64) fun r49 =>
  ob (g_X11_manyNow u1 8) fun r52 =>
  ob (g_X11_add r49 r52.toInt64) fun r55 =>
  ob (g_X11_manyNow u1 9) fun r58 =>
  ob (g_X11_add r55 r58.toInt64) fun r61 =>
  ob (g_X11_manyNow u1 10) fun r64 =>
  ob (g_X11_add r61 r64.toInt64) fun r67 =>
  ob (g_X11_manyNow u1 11) fun r70 =>
  ob (g_X11_add r67 r70.toInt64) fun r73 =>
  ob (g_X11_manyNow u1 12) fun r76 =>
  ob (g_X11_add r73 r76.toInt64) fun r79 =>
  ob (g_X11_manyNow u1 13) fun r82 =>
  ob (g_X11_add r79 r82.toInt64) fun r85 =>
  ob (g_X11_row u1) fun _ =>
  ob (g_X11_mark u1 0) fun r92 =>
  ob (g_X11_add r85 r92.toInt64) fun r95 =>
  ob (g_X11_mark u1 1) fun r98 =>
  ob (g_X11_add r95 r98.toInt64) fun r101 =>
  ob (g_X11_mark u1 2) fun r104 =>
  ob (g_X11_add r101 r104.toInt64) fun r107 =>
  ob (g_X11_mark u1 3) fun r110 =>
  ob (g_X11_add r107 r110.toInt64) fun r113 =>
  ob (g_X11_add r113 (((-1) : Int32).toInt64)) fun r116 =>
  ob (g_X11_add r116 (((-1) : Int32).toInt64)) fun r119 =>
  ob (g_X11_add r119 (((-1) : Int32).toInt64)) fun r122 =>
  ob (g_X11_add r122 (((-1) : Int32).toInt64)) fun r125 =>
  ob (g_X11_add r125 (((-1) : Int32).toInt64)) fun r128 =>
  ob (g_X11_add r128 (((-1) : Int32).toInt64)) fun r131 =>
  ob (g_X11_wouldTotalNow u1 5) fun r134 =>
  ob (g_X11_add r131 r134.toInt64) fun r137 =>
  ob (g_X11_best u1 0) fun r140 =>
  ob (g_X11_add r137 r140.toInt64) fun r143 =>
  some (r143, u1 0 0 0)
set_option maxRecDepth 100000 in
set_option maxHeartbeats 4000000 in
theorem m_X11_digest (l : Launch) (z : Zt) (ad : Ad) (G : Gt) (hA : Raw ad) (A : Nat → Nat) (M : St) (hF : FM z G A M) {r9 : Int64} {t9 : Int32} (h : g_X11_digest M = some (r9, t9)) : MC l z yX11_digest cX11_digest 5 (some .long) { frames := 9, cells := 445, slots := 1796, locals := 218 } 445 1796 [.ref (A 0)] ad G (PWl z ad A r9 t9 (fmO M)) := by
  refine Met.ofW (cc := cX11_digest) (maxL := 5) (ret := (some .long)) (by decide) rfl ?_
  intro p e s m args below meth c s₁ B hml hv
  obtain ⟨rfl, hSW, hW⟩ := hv
  have hx := B.exec; have hb := B.bytes; have hr := B.returns; have hlocks := B.notSynchronized
  have hown : s.vm.findClass RX11 = some m.cls := findClass_of_methodNamed B.named
  obtain ⟨hT, hK, hST, hB0⟩ := id hSW
  have hS : va_S (zA z) s.heap s.heap [] := va_S.rf
  have hl := lv_entry ([.ref (A 0)]) (n := 5) (Nat.le_of_ble_eq_true rfl)
  rw [lg_entry_eq]
  generalize (lg_sl ([.ref (A 0)]) ++ List.replicate (5 - (lg_sl ([.ref (A 0)])).length) Slot.unset).toArray = ls at hl ⊢
  have hl : lv_has ls 5 [(0, .ref (A 0))] := hl
  have hw : fmO M = fmO M := rfl
  unfold g_X11_digest at h
  refine lv_aload_n hx hb dX11_digest_0 rfl (lv_at hl 0 rfl) ?_
  refine lv_iconst (v := 0) hx hb dX11_digest_1 (by decide) ?_
  obtain ⟨u1, eu1, h⟩ := nm_s h
  refine nb_putr hA hx hb hT hK hown hW hS fl_X11_56 tyX11 tyX11_ok nmX11 hF.1 (v := .int 0) rfl rfl rfl (Nat.le_of_ble_eq_true rfl) dX11_digest_2 (fun H locs G2 hEG2 hcG2 hW hS => ?_)
  replace hF := hF.put (M' := u1) hEG2 hcG2 (by rw [eu1]; rfl) (by rw [eu1]; rfl)
  replace hw : fmO u1 = fmO M := by rw [eu1]; exact hw
  refine lv_ldc2 (v := 58218) hx hb hown (hT.use (List.mem_of_getElem? (i := 1659) (by decide +kernel)) rfl) dX11_digest_5 ?_
  refine lv_lstore_n (lv' := [(1, .long 58218), (0, .ref (A 0))]) hx hb dX11_digest_8 rfl hl (by decide) rfl (fun ls hl => ?_)
  refine lv_iconst (v := 0) hx hb dX11_digest_9 (by decide) ?_
  refine lv_istore_n (lv' := [(3, .int 0), (1, .long 58218), (0, .ref (A 0))]) hx hb dX11_digest_10 rfl hl (by decide) rfl (fun ls hl => ?_)
  refine lv_iload_n hx hb dX11_digest_11 rfl (lv_at hl 0 rfl) ?_
  refine lv_bipush (v := 14) hx hb dX11_digest_12 (by decide) ?_
  refine lv_icmp_ge (tgt := 34) hx hb dX11_digest_14 (by decide) (fun hc => absurd hc (by decide)) (fun _ => ?_)
  refine lv_lload_n hx hb dX11_digest_17 rfl (lv_at hl 1 rfl) ?_
  refine lv_aload_n hx hb dX11_digest_18 rfl (lv_at hl 2 rfl) ?_
  refine lv_iload_n hx hb dX11_digest_19 rfl (lv_at hl 0 rfl) ?_
  obtain ⟨r4, h3, h⟩ := ob_s h
  refine fm_ci (nb_runVr (As := [.int 0]) (rest := [.long 58218]) hA hx hb hml hown hSW hS hW (m_X11_manyNow l z ad _ hA A u1 hF 0 h3) mf_X11_manyNow lk_X11_309 hF.1 rfl rfl ⟨rfl, rfl⟩ ⟨Nat.le_of_ble_eq_true rfl, Nat.le_of_ble_eq_true rfl⟩ hl.1 (Nat.le_of_ble_eq_true rfl) dX11_digest_20 ⟨Nat.le_of_ble_eq_true rfl, Nat.le_of_ble_eq_true rfl⟩) hS (fun H locs G5 hEG5 hW hS => ?_)
  replace hF := hF.ext0 hEG5
  refine lv_i2l hx hb dX11_digest_23 rfl ?_
  obtain ⟨r7, h6, h⟩ := ob_s h
  refine nb_cl (nb_runS (As := [.long 58218, .long r4.toInt64]) (rest := []) hx hb hml hown hSW hS hW (m_X11_add l z ad _ hA 58218 r4.toInt64 h6) mf_X11_add lk_X11_343 rfl ⟨rfl, rfl⟩ ⟨Nat.le_of_ble_eq_true rfl, Nat.le_of_ble_eq_true rfl⟩ hl.1 (Nat.le_of_ble_eq_true rfl) dX11_digest_24 ⟨Nat.le_of_ble_eq_true rfl, Nat.le_of_ble_eq_true rfl⟩) hS (fun H locs hW hS => ?_)
  refine lv_lstore_n (lv' := [(1, .long r7), (3, .int 0), (0, .ref (A 0))]) hx hb dX11_digest_27 rfl hl (by decide) rfl (fun ls hl => ?_)
  refine lv_iinc (v := 1) (lv' := [(3, .int 1), (1, .long r7), (0, .ref (A 0))]) hx hb dX11_digest_28 hl (k := 1) rfl (by decide) (by decide) rfl (fun ls hl => ?_)
  refine lv_goto (tgt := 11) hx hb dX11_digest_31 (by decide) ?_
  refine lv_iload_n hx hb dX11_digest_11 rfl (lv_at hl 0 rfl) ?_
  refine lv_bipush (v := 14) hx hb dX11_digest_12 (by decide) ?_
  refine lv_icmp_ge (tgt := 34) hx hb dX11_digest_14 (by decide) (fun hc => absurd hc (by decide)) (fun _ => ?_)
  refine lv_lload_n hx hb dX11_digest_17 rfl (lv_at hl 1 rfl) ?_
  refine lv_aload_n hx hb dX11_digest_18 rfl (lv_at hl 2 rfl) ?_
  refine lv_iload_n hx hb dX11_digest_19 rfl (lv_at hl 0 rfl) ?_
  obtain ⟨r10, h09, h⟩ := ob_s h
  refine fm_ci (nb_runVr (As := [.int 1]) (rest := [.long r7]) hA hx hb hml hown hSW hS hW (m_X11_manyNow l z ad _ hA A u1 hF 1 h09) mf_X11_manyNow lk_X11_309 hF.1 rfl rfl ⟨rfl, rfl⟩ ⟨Nat.le_of_ble_eq_true rfl, Nat.le_of_ble_eq_true rfl⟩ hl.1 (Nat.le_of_ble_eq_true rfl) dX11_digest_20 ⟨Nat.le_of_ble_eq_true rfl, Nat.le_of_ble_eq_true rfl⟩) hS (fun H locs G11 hEG11 hW hS => ?_)
  replace hF := hF.ext0 hEG11
  refine lv_i2l hx hb dX11_digest_23 rfl ?_
  obtain ⟨r13, h12, h⟩ := ob_s h
  refine nb_cl (nb_runS (As := [.long r7, .long r10.toInt64]) (rest := []) hx hb hml hown hSW hS hW (m_X11_add l z ad _ hA r7 r10.toInt64 h12) mf_X11_add lk_X11_343 rfl ⟨rfl, rfl⟩ ⟨Nat.le_of_ble_eq_true rfl, Nat.le_of_ble_eq_true rfl⟩ hl.1 (Nat.le_of_ble_eq_true rfl) dX11_digest_24 ⟨Nat.le_of_ble_eq_true rfl, Nat.le_of_ble_eq_true rfl⟩) hS (fun H locs hW hS => ?_)
  refine lv_lstore_n (lv' := [(1, .long r13), (3, .int 1), (0, .ref (A 0))]) hx hb dX11_digest_27 rfl hl (by decide) rfl (fun ls hl => ?_)
  refine lv_iinc (v := 2) (lv' := [(3, .int 2), (1, .long r13), (0, .ref (A 0))]) hx hb dX11_digest_28 hl (k := 1) rfl (by decide) (by decide) rfl (fun ls hl => ?_)
  refine lv_goto (tgt := 11) hx hb dX11_digest_31 (by decide) ?_
  refine lv_iload_n hx hb dX11_digest_11 rfl (lv_at hl 0 rfl) ?_
  refine lv_bipush (v := 14) hx hb dX11_digest_12 (by decide) ?_
  refine lv_icmp_ge (tgt := 34) hx hb dX11_digest_14 (by decide) (fun hc => absurd hc (by decide)) (fun _ => ?_)
  refine lv_lload_n hx hb dX11_digest_17 rfl (lv_at hl 1 rfl) ?_
  refine lv_aload_n hx hb dX11_digest_18 rfl (lv_at hl 2 rfl) ?_
  refine lv_iload_n hx hb dX11_digest_19 rfl (lv_at hl 0 rfl) ?_
  obtain ⟨r16, h15, h⟩ := ob_s h
  refine fm_ci (nb_runVr (As := [.int 2]) (rest := [.long r13]) hA hx hb hml hown hSW hS hW (m_X11_manyNow l z ad _ hA A u1 hF 2 h15) mf_X11_manyNow lk_X11_309 hF.1 rfl rfl ⟨rfl, rfl⟩ ⟨Nat.le_of_ble_eq_true rfl, Nat.le_of_ble_eq_true rfl⟩ hl.1 (Nat.le_of_ble_eq_true rfl) dX11_digest_20 ⟨Nat.le_of_ble_eq_true rfl, Nat.le_of_ble_eq_true rfl⟩) hS (fun H locs G17 hEG17 hW hS => ?_)
  replace hF := hF.ext0 hEG17
  refine lv_i2l hx hb dX11_digest_23 rfl ?_
  obtain ⟨r19, h18, h⟩ := ob_s h
  refine nb_cl (nb_runS (As := [.long r13, .long r16.toInt64]) (rest := []) hx hb hml hown hSW hS hW (m_X11_add l z ad _ hA r13 r16.toInt64 h18) mf_X11_add lk_X11_343 rfl ⟨rfl, rfl⟩ ⟨Nat.le_of_ble_eq_true rfl, Nat.le_of_ble_eq_true rfl⟩ hl.1 (Nat.le_of_ble_eq_true rfl) dX11_digest_24 ⟨Nat.le_of_ble_eq_true rfl, Nat.le_of_ble_eq_true rfl⟩) hS (fun H locs hW hS => ?_)
  refine lv_lstore_n (lv' := [(1, .long r19), (3, .int 2), (0, .ref (A 0))]) hx hb dX11_digest_27 rfl hl (by decide) rfl (fun ls hl => ?_)
  refine lv_iinc (v := 3) (lv' := [(3, .int 3), (1, .long r19), (0, .ref (A 0))]) hx hb dX11_digest_28 hl (k := 1) rfl (by decide) (by decide) rfl (fun ls hl => ?_)
  refine lv_goto (tgt := 11) hx hb dX11_digest_31 (by decide) ?_
  refine lv_iload_n hx hb dX11_digest_11 rfl (lv_at hl 0 rfl) ?_
  refine lv_bipush (v := 14) hx hb dX11_digest_12 (by decide) ?_
  refine lv_icmp_ge (tgt := 34) hx hb dX11_digest_14 (by decide) (fun hc => absurd hc (by decide)) (fun _ => ?_)
  refine lv_lload_n hx hb dX11_digest_17 rfl (lv_at hl 1 rfl) ?_
  refine lv_aload_n hx hb dX11_digest_18 rfl (lv_at hl 2 rfl) ?_
  refine lv_iload_n hx hb dX11_digest_19 rfl (lv_at hl 0 rfl) ?_
  obtain ⟨r22, h21, h⟩ := ob_s h
  refine fm_ci (nb_runVr (As := [.int 3]) (rest := [.long r19]) hA hx hb hml hown hSW hS hW (m_X11_manyNow l z ad _ hA A u1 hF 3 h21) mf_X11_manyNow lk_X11_309 hF.1 rfl rfl ⟨rfl, rfl⟩ ⟨Nat.le_of_ble_eq_true rfl, Nat.le_of_ble_eq_true rfl⟩ hl.1 (Nat.le_of_ble_eq_true rfl) dX11_digest_20 ⟨Nat.le_of_ble_eq_true rfl, Nat.le_of_ble_eq_true rfl⟩) hS (fun H locs G23 hEG23 hW hS => ?_)
  replace hF := hF.ext0 hEG23
  refine lv_i2l hx hb dX11_digest_23 rfl ?_
  obtain ⟨r25, h24, h⟩ := ob_s h
  refine nb_cl (nb_runS (As := [.long r19, .long r22.toInt64]) (rest := []) hx hb hml hown hSW hS hW (m_X11_add l z ad _ hA r19 r22.toInt64 h24) mf_X11_add lk_X11_343 rfl ⟨rfl, rfl⟩ ⟨Nat.le_of_ble_eq_true rfl, Nat.le_of_ble_eq_true rfl⟩ hl.1 (Nat.le_of_ble_eq_true rfl) dX11_digest_24 ⟨Nat.le_of_ble_eq_true rfl, Nat.le_of_ble_eq_true rfl⟩) hS (fun H locs hW hS => ?_)
  refine lv_lstore_n (lv' := [(1, .long r25), (3, .int 3), (0, .ref (A 0))]) hx hb dX11_digest_27 rfl hl (by decide) rfl (fun ls hl => ?_)
  refine lv_iinc (v := 4) (lv' := [(3, .int 4), (1, .long r25), (0, .ref (A 0))]) hx hb dX11_digest_28 hl (k := 1) rfl (by decide) (by decide) rfl (fun ls hl => ?_)
  refine lv_goto (tgt := 11) hx hb dX11_digest_31 (by decide) ?_
  refine lv_iload_n hx hb dX11_digest_11 rfl (lv_at hl 0 rfl) ?_
  refine lv_bipush (v := 14) hx hb dX11_digest_12 (by decide) ?_
  refine lv_icmp_ge (tgt := 34) hx hb dX11_digest_14 (by decide) (fun hc => absurd hc (by decide)) (fun _ => ?_)
  refine lv_lload_n hx hb dX11_digest_17 rfl (lv_at hl 1 rfl) ?_
  refine lv_aload_n hx hb dX11_digest_18 rfl (lv_at hl 2 rfl) ?_
  refine lv_iload_n hx hb dX11_digest_19 rfl (lv_at hl 0 rfl) ?_
  obtain ⟨r28, h27, h⟩ := ob_s h
  refine fm_ci (nb_runVr (As := [.int 4]) (rest := [.long r25]) hA hx hb hml hown hSW hS hW (m_X11_manyNow l z ad _ hA A u1 hF 4 h27) mf_X11_manyNow lk_X11_309 hF.1 rfl rfl ⟨rfl, rfl⟩ ⟨Nat.le_of_ble_eq_true rfl, Nat.le_of_ble_eq_true rfl⟩ hl.1 (Nat.le_of_ble_eq_true rfl) dX11_digest_20 ⟨Nat.le_of_ble_eq_true rfl, Nat.le_of_ble_eq_true rfl⟩) hS (fun H locs G29 hEG29 hW hS => ?_)
  replace hF := hF.ext0 hEG29
  refine lv_i2l hx hb dX11_digest_23 rfl ?_
  obtain ⟨r31, h30, h⟩ := ob_s h
  refine nb_cl (nb_runS (As := [.long r25, .long r28.toInt64]) (rest := []) hx hb hml hown hSW hS hW (m_X11_add l z ad _ hA r25 r28.toInt64 h30) mf_X11_add lk_X11_343 rfl ⟨rfl, rfl⟩ ⟨Nat.le_of_ble_eq_true rfl, Nat.le_of_ble_eq_true rfl⟩ hl.1 (Nat.le_of_ble_eq_true rfl) dX11_digest_24 ⟨Nat.le_of_ble_eq_true rfl, Nat.le_of_ble_eq_true rfl⟩) hS (fun H locs hW hS => ?_)
  refine lv_lstore_n (lv' := [(1, .long r31), (3, .int 4), (0, .ref (A 0))]) hx hb dX11_digest_27 rfl hl (by decide) rfl (fun ls hl => ?_)
  refine lv_iinc (v := 5) (lv' := [(3, .int 5), (1, .long r31), (0, .ref (A 0))]) hx hb dX11_digest_28 hl (k := 1) rfl (by decide) (by decide) rfl (fun ls hl => ?_)
  refine lv_goto (tgt := 11) hx hb dX11_digest_31 (by decide) ?_
  refine lv_iload_n hx hb dX11_digest_11 rfl (lv_at hl 0 rfl) ?_
  refine lv_bipush (v := 14) hx hb dX11_digest_12 (by decide) ?_
  refine lv_icmp_ge (tgt := 34) hx hb dX11_digest_14 (by decide) (fun hc => absurd hc (by decide)) (fun _ => ?_)
  refine lv_lload_n hx hb dX11_digest_17 rfl (lv_at hl 1 rfl) ?_
  refine lv_aload_n hx hb dX11_digest_18 rfl (lv_at hl 2 rfl) ?_
  refine lv_iload_n hx hb dX11_digest_19 rfl (lv_at hl 0 rfl) ?_
  obtain ⟨r34, h33, h⟩ := ob_s h
  refine fm_ci (nb_runVr (As := [.int 5]) (rest := [.long r31]) hA hx hb hml hown hSW hS hW (m_X11_manyNow l z ad _ hA A u1 hF 5 h33) mf_X11_manyNow lk_X11_309 hF.1 rfl rfl ⟨rfl, rfl⟩ ⟨Nat.le_of_ble_eq_true rfl, Nat.le_of_ble_eq_true rfl⟩ hl.1 (Nat.le_of_ble_eq_true rfl) dX11_digest_20 ⟨Nat.le_of_ble_eq_true rfl, Nat.le_of_ble_eq_true rfl⟩) hS (fun H locs G35 hEG35 hW hS => ?_)
  replace hF := hF.ext0 hEG35
  refine lv_i2l hx hb dX11_digest_23 rfl ?_
  obtain ⟨r37, h36, h⟩ := ob_s h
  refine nb_cl (nb_runS (As := [.long r31, .long r34.toInt64]) (rest := []) hx hb hml hown hSW hS hW (m_X11_add l z ad _ hA r31 r34.toInt64 h36) mf_X11_add lk_X11_343 rfl ⟨rfl, rfl⟩ ⟨Nat.le_of_ble_eq_true rfl, Nat.le_of_ble_eq_true rfl⟩ hl.1 (Nat.le_of_ble_eq_true rfl) dX11_digest_24 ⟨Nat.le_of_ble_eq_true rfl, Nat.le_of_ble_eq_true rfl⟩) hS (fun H locs hW hS => ?_)
  refine lv_lstore_n (lv' := [(1, .long r37), (3, .int 5), (0, .ref (A 0))]) hx hb dX11_digest_27 rfl hl (by decide) rfl (fun ls hl => ?_)
  refine lv_iinc (v := 6) (lv' := [(3, .int 6), (1, .long r37), (0, .ref (A 0))]) hx hb dX11_digest_28 hl (k := 1) rfl (by decide) (by decide) rfl (fun ls hl => ?_)
  refine lv_goto (tgt := 11) hx hb dX11_digest_31 (by decide) ?_
  refine lv_iload_n hx hb dX11_digest_11 rfl (lv_at hl 0 rfl) ?_
  refine lv_bipush (v := 14) hx hb dX11_digest_12 (by decide) ?_
  refine lv_icmp_ge (tgt := 34) hx hb dX11_digest_14 (by decide) (fun hc => absurd hc (by decide)) (fun _ => ?_)
  refine lv_lload_n hx hb dX11_digest_17 rfl (lv_at hl 1 rfl) ?_
  refine lv_aload_n hx hb dX11_digest_18 rfl (lv_at hl 2 rfl) ?_
  refine lv_iload_n hx hb dX11_digest_19 rfl (lv_at hl 0 rfl) ?_
  obtain ⟨r40, h39, h⟩ := ob_s h
  refine fm_ci (nb_runVr (As := [.int 6]) (rest := [.long r37]) hA hx hb hml hown hSW hS hW (m_X11_manyNow l z ad _ hA A u1 hF 6 h39) mf_X11_manyNow lk_X11_309 hF.1 rfl rfl ⟨rfl, rfl⟩ ⟨Nat.le_of_ble_eq_true rfl, Nat.le_of_ble_eq_true rfl⟩ hl.1 (Nat.le_of_ble_eq_true rfl) dX11_digest_20 ⟨Nat.le_of_ble_eq_true rfl, Nat.le_of_ble_eq_true rfl⟩) hS (fun H locs G41 hEG41 hW hS => ?_)
  replace hF := hF.ext0 hEG41
  refine lv_i2l hx hb dX11_digest_23 rfl ?_
  obtain ⟨r43, h42, h⟩ := ob_s h
  refine nb_cl (nb_runS (As := [.long r37, .long r40.toInt64]) (rest := []) hx hb hml hown hSW hS hW (m_X11_add l z ad _ hA r37 r40.toInt64 h42) mf_X11_add lk_X11_343 rfl ⟨rfl, rfl⟩ ⟨Nat.le_of_ble_eq_true rfl, Nat.le_of_ble_eq_true rfl⟩ hl.1 (Nat.le_of_ble_eq_true rfl) dX11_digest_24 ⟨Nat.le_of_ble_eq_true rfl, Nat.le_of_ble_eq_true rfl⟩) hS (fun H locs hW hS => ?_)
  refine lv_lstore_n (lv' := [(1, .long r43), (3, .int 6), (0, .ref (A 0))]) hx hb dX11_digest_27 rfl hl (by decide) rfl (fun ls hl => ?_)
  refine lv_iinc (v := 7) (lv' := [(3, .int 7), (1, .long r43), (0, .ref (A 0))]) hx hb dX11_digest_28 hl (k := 1) rfl (by decide) (by decide) rfl (fun ls hl => ?_)
  refine lv_goto (tgt := 11) hx hb dX11_digest_31 (by decide) ?_
  refine lv_iload_n hx hb dX11_digest_11 rfl (lv_at hl 0 rfl) ?_
  refine lv_bipush (v := 14) hx hb dX11_digest_12 (by decide) ?_
  refine lv_icmp_ge (tgt := 34) hx hb dX11_digest_14 (by decide) (fun hc => absurd hc (by decide)) (fun _ => ?_)
  refine lv_lload_n hx hb dX11_digest_17 rfl (lv_at hl 1 rfl) ?_
  refine lv_aload_n hx hb dX11_digest_18 rfl (lv_at hl 2 rfl) ?_
  refine lv_iload_n hx hb dX11_digest_19 rfl (lv_at hl 0 rfl) ?_
  obtain ⟨r46, h45, h⟩ := ob_s h
  refine fm_ci (nb_runVr (As := [.int 7]) (rest := [.long r43]) hA hx hb hml hown hSW hS hW (m_X11_manyNow l z ad _ hA A u1 hF 7 h45) mf_X11_manyNow lk_X11_309 hF.1 rfl rfl ⟨rfl, rfl⟩ ⟨Nat.le_of_ble_eq_true rfl, Nat.le_of_ble_eq_true rfl⟩ hl.1 (Nat.le_of_ble_eq_true rfl) dX11_digest_20 ⟨Nat.le_of_ble_eq_true rfl, Nat.le_of_ble_eq_true rfl⟩) hS (fun H locs G47 hEG47 hW hS => ?_)
  replace hF := hF.ext0 hEG47
  refine lv_i2l hx hb dX11_digest_23 rfl ?_
  obtain ⟨r49, h48, h⟩ := ob_s h
  refine nb_cl (nb_runS (As := [.long r43, .long r46.toInt64]) (rest := []) hx hb hml hown hSW hS hW (m_X11_add l z ad _ hA r43 r46.toInt64 h48) mf_X11_add lk_X11_343 rfl ⟨rfl, rfl⟩ ⟨Nat.le_of_ble_eq_true rfl, Nat.le_of_ble_eq_true rfl⟩ hl.1 (Nat.le_of_ble_eq_true rfl) dX11_digest_24 ⟨Nat.le_of_ble_eq_true rfl, Nat.le_of_ble_eq_true rfl⟩) hS (fun H locs hW hS => ?_)
  refine lv_lstore_n (lv' := [(1, .long r49), (3, .int 7), (0, .ref (A 0))]) hx hb dX11_digest_27 rfl hl (by decide) rfl (fun ls hl => ?_)
  refine lv_iinc (v := 8) (lv' := [(3, .int 8), (1, .long r49), (0, .ref (A 0))]) hx hb dX11_digest_28 hl (k := 1) rfl (by decide) (by decide) rfl (fun ls hl => ?_)
  refine lv_goto (tgt := 11) hx hb dX11_digest_31 (by decide) ?_
  refine lv_iload_n hx hb dX11_digest_11 rfl (lv_at hl 0 rfl) ?_
  refine lv_bipush (v := 14) hx hb dX11_digest_12 (by decide) ?_
  refine lv_icmp_ge (tgt := 34) hx hb dX11_digest_14 (by decide) (fun hc => absurd hc (by decide)) (fun _ => ?_)
  refine lv_lload_n hx hb dX11_digest_17 rfl (lv_at hl 1 rfl) ?_
  refine lv_aload_n hx hb dX11_digest_18 rfl (lv_at hl 2 rfl) ?_
  refine lv_iload_n hx hb dX11_digest_19 rfl (lv_at hl 0 rfl) ?_
  obtain ⟨r52, h51, h⟩ := ob_s h
  refine fm_ci (nb_runVr (As := [.int 8]) (rest := [.long r49]) hA hx hb hml hown hSW hS hW (m_X11_manyNow l z ad _ hA A u1 hF 8 h51) mf_X11_manyNow lk_X11_309 hF.1 rfl rfl ⟨rfl, rfl⟩ ⟨Nat.le_of_ble_eq_true rfl, Nat.le_of_ble_eq_true rfl⟩ hl.1 (Nat.le_of_ble_eq_true rfl) dX11_digest_20 ⟨Nat.le_of_ble_eq_true rfl, Nat.le_of_ble_eq_true rfl⟩) hS (fun H locs G53 hEG53 hW hS => ?_)
  replace hF := hF.ext0 hEG53
  refine lv_i2l hx hb dX11_digest_23 rfl ?_
  obtain ⟨r55, h54, h⟩ := ob_s h
  refine nb_cl (nb_runS (As := [.long r49, .long r52.toInt64]) (rest := []) hx hb hml hown hSW hS hW (m_X11_add l z ad _ hA r49 r52.toInt64 h54) mf_X11_add lk_X11_343 rfl ⟨rfl, rfl⟩ ⟨Nat.le_of_ble_eq_true rfl, Nat.le_of_ble_eq_true rfl⟩ hl.1 (Nat.le_of_ble_eq_true rfl) dX11_digest_24 ⟨Nat.le_of_ble_eq_true rfl, Nat.le_of_ble_eq_true rfl⟩) hS (fun H locs hW hS => ?_)
  refine lv_lstore_n (lv' := [(1, .long r55), (3, .int 8), (0, .ref (A 0))]) hx hb dX11_digest_27 rfl hl (by decide) rfl (fun ls hl => ?_)
  refine lv_iinc (v := 9) (lv' := [(3, .int 9), (1, .long r55), (0, .ref (A 0))]) hx hb dX11_digest_28 hl (k := 1) rfl (by decide) (by decide) rfl (fun ls hl => ?_)
  refine lv_goto (tgt := 11) hx hb dX11_digest_31 (by decide) ?_
  refine lv_iload_n hx hb dX11_digest_11 rfl (lv_at hl 0 rfl) ?_
  refine lv_bipush (v := 14) hx hb dX11_digest_12 (by decide) ?_
  refine lv_icmp_ge (tgt := 34) hx hb dX11_digest_14 (by decide) (fun hc => absurd hc (by decide)) (fun _ => ?_)
  refine lv_lload_n hx hb dX11_digest_17 rfl (lv_at hl 1 rfl) ?_
  refine lv_aload_n hx hb dX11_digest_18 rfl (lv_at hl 2 rfl) ?_
  refine lv_iload_n hx hb dX11_digest_19 rfl (lv_at hl 0 rfl) ?_
  obtain ⟨r58, h57, h⟩ := ob_s h
  refine fm_ci (nb_runVr (As := [.int 9]) (rest := [.long r55]) hA hx hb hml hown hSW hS hW (m_X11_manyNow l z ad _ hA A u1 hF 9 h57) mf_X11_manyNow lk_X11_309 hF.1 rfl rfl ⟨rfl, rfl⟩ ⟨Nat.le_of_ble_eq_true rfl, Nat.le_of_ble_eq_true rfl⟩ hl.1 (Nat.le_of_ble_eq_true rfl) dX11_digest_20 ⟨Nat.le_of_ble_eq_true rfl, Nat.le_of_ble_eq_true rfl⟩) hS (fun H locs G59 hEG59 hW hS => ?_)
  replace hF := hF.ext0 hEG59
  refine lv_i2l hx hb dX11_digest_23 rfl ?_
  obtain ⟨r61, h60, h⟩ := ob_s h
  refine nb_cl (nb_runS (As := [.long r55, .long r58.toInt64]) (rest := []) hx hb hml hown hSW hS hW (m_X11_add l z ad _ hA r55 r58.toInt64 h60) mf_X11_add lk_X11_343 rfl ⟨rfl, rfl⟩ ⟨Nat.le_of_ble_eq_true rfl, Nat.le_of_ble_eq_true rfl⟩ hl.1 (Nat.le_of_ble_eq_true rfl) dX11_digest_24 ⟨Nat.le_of_ble_eq_true rfl, Nat.le_of_ble_eq_true rfl⟩) hS (fun H locs hW hS => ?_)
  refine lv_lstore_n (lv' := [(1, .long r61), (3, .int 9), (0, .ref (A 0))]) hx hb dX11_digest_27 rfl hl (by decide) rfl (fun ls hl => ?_)
  refine lv_iinc (v := 10) (lv' := [(3, .int 10), (1, .long r61), (0, .ref (A 0))]) hx hb dX11_digest_28 hl (k := 1) rfl (by decide) (by decide) rfl (fun ls hl => ?_)
  refine lv_goto (tgt := 11) hx hb dX11_digest_31 (by decide) ?_
  refine lv_iload_n hx hb dX11_digest_11 rfl (lv_at hl 0 rfl) ?_
  refine lv_bipush (v := 14) hx hb dX11_digest_12 (by decide) ?_
  refine lv_icmp_ge (tgt := 34) hx hb dX11_digest_14 (by decide) (fun hc => absurd hc (by decide)) (fun _ => ?_)
  refine lv_lload_n hx hb dX11_digest_17 rfl (lv_at hl 1 rfl) ?_
  refine lv_aload_n hx hb dX11_digest_18 rfl (lv_at hl 2 rfl) ?_
  refine lv_iload_n hx hb dX11_digest_19 rfl (lv_at hl 0 rfl) ?_
  obtain ⟨r64, h63, h⟩ := ob_s h
  refine fm_ci (nb_runVr (As := [.int 10]) (rest := [.long r61]) hA hx hb hml hown hSW hS hW (m_X11_manyNow l z ad _ hA A u1 hF 10 h63) mf_X11_manyNow lk_X11_309 hF.1 rfl rfl ⟨rfl, rfl⟩ ⟨Nat.le_of_ble_eq_true rfl, Nat.le_of_ble_eq_true rfl⟩ hl.1 (Nat.le_of_ble_eq_true rfl) dX11_digest_20 ⟨Nat.le_of_ble_eq_true rfl, Nat.le_of_ble_eq_true rfl⟩) hS (fun H locs G65 hEG65 hW hS => ?_)
  replace hF := hF.ext0 hEG65
  refine lv_i2l hx hb dX11_digest_23 rfl ?_
  obtain ⟨r67, h66, h⟩ := ob_s h
  refine nb_cl (nb_runS (As := [.long r61, .long r64.toInt64]) (rest := []) hx hb hml hown hSW hS hW (m_X11_add l z ad _ hA r61 r64.toInt64 h66) mf_X11_add lk_X11_343 rfl ⟨rfl, rfl⟩ ⟨Nat.le_of_ble_eq_true rfl, Nat.le_of_ble_eq_true rfl⟩ hl.1 (Nat.le_of_ble_eq_true rfl) dX11_digest_24 ⟨Nat.le_of_ble_eq_true rfl, Nat.le_of_ble_eq_true rfl⟩) hS (fun H locs hW hS => ?_)
  refine lv_lstore_n (lv' := [(1, .long r67), (3, .int 10), (0, .ref (A 0))]) hx hb dX11_digest_27 rfl hl (by decide) rfl (fun ls hl => ?_)
  refine lv_iinc (v := 11) (lv' := [(3, .int 11), (1, .long r67), (0, .ref (A 0))]) hx hb dX11_digest_28 hl (k := 1) rfl (by decide) (by decide) rfl (fun ls hl => ?_)
  refine lv_goto (tgt := 11) hx hb dX11_digest_31 (by decide) ?_
  refine lv_iload_n hx hb dX11_digest_11 rfl (lv_at hl 0 rfl) ?_
  refine lv_bipush (v := 14) hx hb dX11_digest_12 (by decide) ?_
  refine lv_icmp_ge (tgt := 34) hx hb dX11_digest_14 (by decide) (fun hc => absurd hc (by decide)) (fun _ => ?_)
  refine lv_lload_n hx hb dX11_digest_17 rfl (lv_at hl 1 rfl) ?_
  refine lv_aload_n hx hb dX11_digest_18 rfl (lv_at hl 2 rfl) ?_
  refine lv_iload_n hx hb dX11_digest_19 rfl (lv_at hl 0 rfl) ?_
  obtain ⟨r70, h69, h⟩ := ob_s h
  refine fm_ci (nb_runVr (As := [.int 11]) (rest := [.long r67]) hA hx hb hml hown hSW hS hW (m_X11_manyNow l z ad _ hA A u1 hF 11 h69) mf_X11_manyNow lk_X11_309 hF.1 rfl rfl ⟨rfl, rfl⟩ ⟨Nat.le_of_ble_eq_true rfl, Nat.le_of_ble_eq_true rfl⟩ hl.1 (Nat.le_of_ble_eq_true rfl) dX11_digest_20 ⟨Nat.le_of_ble_eq_true rfl, Nat.le_of_ble_eq_true rfl⟩) hS (fun H locs G71 hEG71 hW hS => ?_)
  replace hF := hF.ext0 hEG71
  refine lv_i2l hx hb dX11_digest_23 rfl ?_
  obtain ⟨r73, h72, h⟩ := ob_s h
  refine nb_cl (nb_runS (As := [.long r67, .long r70.toInt64]) (rest := []) hx hb hml hown hSW hS hW (m_X11_add l z ad _ hA r67 r70.toInt64 h72) mf_X11_add lk_X11_343 rfl ⟨rfl, rfl⟩ ⟨Nat.le_of_ble_eq_true rfl, Nat.le_of_ble_eq_true rfl⟩ hl.1 (Nat.le_of_ble_eq_true rfl) dX11_digest_24 ⟨Nat.le_of_ble_eq_true rfl, Nat.le_of_ble_eq_true rfl⟩) hS (fun H locs hW hS => ?_)
  refine lv_lstore_n (lv' := [(1, .long r73), (3, .int 11), (0, .ref (A 0))]) hx hb dX11_digest_27 rfl hl (by decide) rfl (fun ls hl => ?_)
  refine lv_iinc (v := 12) (lv' := [(3, .int 12), (1, .long r73), (0, .ref (A 0))]) hx hb dX11_digest_28 hl (k := 1) rfl (by decide) (by decide) rfl (fun ls hl => ?_)
  refine lv_goto (tgt := 11) hx hb dX11_digest_31 (by decide) ?_
  refine lv_iload_n hx hb dX11_digest_11 rfl (lv_at hl 0 rfl) ?_
  refine lv_bipush (v := 14) hx hb dX11_digest_12 (by decide) ?_
  refine lv_icmp_ge (tgt := 34) hx hb dX11_digest_14 (by decide) (fun hc => absurd hc (by decide)) (fun _ => ?_)
  refine lv_lload_n hx hb dX11_digest_17 rfl (lv_at hl 1 rfl) ?_
  refine lv_aload_n hx hb dX11_digest_18 rfl (lv_at hl 2 rfl) ?_
  refine lv_iload_n hx hb dX11_digest_19 rfl (lv_at hl 0 rfl) ?_
  obtain ⟨r76, h75, h⟩ := ob_s h
  refine fm_ci (nb_runVr (As := [.int 12]) (rest := [.long r73]) hA hx hb hml hown hSW hS hW (m_X11_manyNow l z ad _ hA A u1 hF 12 h75) mf_X11_manyNow lk_X11_309 hF.1 rfl rfl ⟨rfl, rfl⟩ ⟨Nat.le_of_ble_eq_true rfl, Nat.le_of_ble_eq_true rfl⟩ hl.1 (Nat.le_of_ble_eq_true rfl) dX11_digest_20 ⟨Nat.le_of_ble_eq_true rfl, Nat.le_of_ble_eq_true rfl⟩) hS (fun H locs G77 hEG77 hW hS => ?_)
  replace hF := hF.ext0 hEG77
  refine lv_i2l hx hb dX11_digest_23 rfl ?_
  obtain ⟨r79, h78, h⟩ := ob_s h
  refine nb_cl (nb_runS (As := [.long r73, .long r76.toInt64]) (rest := []) hx hb hml hown hSW hS hW (m_X11_add l z ad _ hA r73 r76.toInt64 h78) mf_X11_add lk_X11_343 rfl ⟨rfl, rfl⟩ ⟨Nat.le_of_ble_eq_true rfl, Nat.le_of_ble_eq_true rfl⟩ hl.1 (Nat.le_of_ble_eq_true rfl) dX11_digest_24 ⟨Nat.le_of_ble_eq_true rfl, Nat.le_of_ble_eq_true rfl⟩) hS (fun H locs hW hS => ?_)
  refine lv_lstore_n (lv' := [(1, .long r79), (3, .int 12), (0, .ref (A 0))]) hx hb dX11_digest_27 rfl hl (by decide) rfl (fun ls hl => ?_)
  refine lv_iinc (v := 13) (lv' := [(3, .int 13), (1, .long r79), (0, .ref (A 0))]) hx hb dX11_digest_28 hl (k := 1) rfl (by decide) (by decide) rfl (fun ls hl => ?_)
  refine lv_goto (tgt := 11) hx hb dX11_digest_31 (by decide) ?_
  refine lv_iload_n hx hb dX11_digest_11 rfl (lv_at hl 0 rfl) ?_
  refine lv_bipush (v := 14) hx hb dX11_digest_12 (by decide) ?_
  refine lv_icmp_ge (tgt := 34) hx hb dX11_digest_14 (by decide) (fun hc => absurd hc (by decide)) (fun _ => ?_)
  refine lv_lload_n hx hb dX11_digest_17 rfl (lv_at hl 1 rfl) ?_
  refine lv_aload_n hx hb dX11_digest_18 rfl (lv_at hl 2 rfl) ?_
  refine lv_iload_n hx hb dX11_digest_19 rfl (lv_at hl 0 rfl) ?_
  obtain ⟨r82, h81, h⟩ := ob_s h
  refine fm_ci (nb_runVr (As := [.int 13]) (rest := [.long r79]) hA hx hb hml hown hSW hS hW (m_X11_manyNow l z ad _ hA A u1 hF 13 h81) mf_X11_manyNow lk_X11_309 hF.1 rfl rfl ⟨rfl, rfl⟩ ⟨Nat.le_of_ble_eq_true rfl, Nat.le_of_ble_eq_true rfl⟩ hl.1 (Nat.le_of_ble_eq_true rfl) dX11_digest_20 ⟨Nat.le_of_ble_eq_true rfl, Nat.le_of_ble_eq_true rfl⟩) hS (fun H locs G83 hEG83 hW hS => ?_)
  replace hF := hF.ext0 hEG83
  refine lv_i2l hx hb dX11_digest_23 rfl ?_
  obtain ⟨r85, h84, h⟩ := ob_s h
  refine nb_cl (nb_runS (As := [.long r79, .long r82.toInt64]) (rest := []) hx hb hml hown hSW hS hW (m_X11_add l z ad _ hA r79 r82.toInt64 h84) mf_X11_add lk_X11_343 rfl ⟨rfl, rfl⟩ ⟨Nat.le_of_ble_eq_true rfl, Nat.le_of_ble_eq_true rfl⟩ hl.1 (Nat.le_of_ble_eq_true rfl) dX11_digest_24 ⟨Nat.le_of_ble_eq_true rfl, Nat.le_of_ble_eq_true rfl⟩) hS (fun H locs hW hS => ?_)
  refine lv_lstore_n (lv' := [(1, .long r85), (3, .int 13), (0, .ref (A 0))]) hx hb dX11_digest_27 rfl hl (by decide) rfl (fun ls hl => ?_)
  refine lv_iinc (v := 14) (lv' := [(3, .int 14), (1, .long r85), (0, .ref (A 0))]) hx hb dX11_digest_28 hl (k := 1) rfl (by decide) (by decide) rfl (fun ls hl => ?_)
  refine lv_goto (tgt := 11) hx hb dX11_digest_31 (by decide) ?_
  refine lv_iload_n hx hb dX11_digest_11 rfl (lv_at hl 0 rfl) ?_
  refine lv_bipush (v := 14) hx hb dX11_digest_12 (by decide) ?_
  refine lv_icmp_ge (tgt := 34) hx hb dX11_digest_14 (by decide) (fun _ => ?_) (fun hc => absurd (by decide) hc)
  refine lv_iconst (v := 0) hx hb dX11_digest_34 (by decide) ?_
  refine lv_istore_n (lv' := [(3, .int 0), (1, .long r85), (0, .ref (A 0))]) hx hb dX11_digest_35 rfl hl (by decide) rfl (fun ls hl => ?_)
  refine lv_iload_n hx hb dX11_digest_36 rfl (lv_at hl 0 rfl) ?_
  refine lv_aload_n hx hb dX11_digest_37 rfl (lv_at hl 2 rfl) ?_
  refine nb_getr hA hx hb hT hK hown hW fl_X11_19 hF.1 (v := .ref (A 1)) rfl dX11_digest_38 ?_
  refine nb_ci (nb_runVr (As := []) (rest := [.int 0]) hA hx hb hml hown hSW hS hW (m_size l z ad _ hA (A 1) (hF.2.1 0 (by decide))) mf_Jx4a65c_size_8abf5 lk_X11_67 (hF.2.1 0 (by decide)) rfl rfl ⟨rfl, rfl⟩ ⟨Nat.le_of_ble_eq_true rfl, Nat.le_of_ble_eq_true rfl⟩ hl.1 (Nat.le_of_ble_eq_true rfl) dX11_digest_41 ⟨Nat.le_of_ble_eq_true rfl, Nat.le_of_ble_eq_true rfl⟩) hS (fun H locs hW hS => ?_)
  refine lv_icmp_ge (tgt := 131) hx hb dX11_digest_44 (by decide) (fun _ => ?_) (fun hc => absurd (by decide) hc)
  refine lv_iconst (v := 0) hx hb dX11_digest_131 (by decide) ?_
  refine lv_istore_n (lv' := [(3, .int 0), (1, .long r85), (0, .ref (A 0))]) hx hb dX11_digest_132 rfl hl (by decide) rfl (fun ls hl => ?_)
  refine lv_iload_n hx hb dX11_digest_133 rfl (lv_at hl 0 rfl) ?_
  refine lv_aload_n hx hb dX11_digest_134 rfl (lv_at hl 2 rfl) ?_
  refine nb_getr hA hx hb hT hK hown hW fl_X11_25 hF.1 (v := .ref (A 2)) rfl dX11_digest_135 ?_
  refine nb_ci (nb_runVr (As := []) (rest := [.int 0]) hA hx hb hml hown hSW hS hW (m_size l z ad _ hA (A 2) (hF.2.1 1 (by decide))) mf_Jx4a65c_size_8abf5 lk_X11_67 (hF.2.1 1 (by decide)) rfl rfl ⟨rfl, rfl⟩ ⟨Nat.le_of_ble_eq_true rfl, Nat.le_of_ble_eq_true rfl⟩ hl.1 (Nat.le_of_ble_eq_true rfl) dX11_digest_138 ⟨Nat.le_of_ble_eq_true rfl, Nat.le_of_ble_eq_true rfl⟩) hS (fun H locs hW hS => ?_)
  refine lv_icmp_ge (tgt := 178) hx hb dX11_digest_141 (by decide) (fun _ => ?_) (fun hc => absurd (by decide) hc)
  refine lv_iconst (v := 0) hx hb dX11_digest_178 (by decide) ?_
  refine lv_istore_n (lv' := [(3, .int 0), (1, .long r85), (0, .ref (A 0))]) hx hb dX11_digest_179 rfl hl (by decide) rfl (fun ls hl => ?_)
  refine lv_iload_n hx hb dX11_digest_180 rfl (lv_at hl 0 rfl) ?_
  refine lv_aload_n hx hb dX11_digest_181 rfl (lv_at hl 2 rfl) ?_
  refine nb_getr hA hx hb hT hK hown hW fl_X11_31 hF.1 (v := .ref (A 4)) rfl dX11_digest_182 ?_
  refine nb_ci (nb_runVr (As := []) (rest := [.int 0]) hA hx hb hml hown hSW hS hW (m_size l z ad _ hA (A 4) (hF.2.1 3 (by decide))) mf_Jx4a65c_size_8abf5 lk_X11_67 (hF.2.1 3 (by decide)) rfl rfl ⟨rfl, rfl⟩ ⟨Nat.le_of_ble_eq_true rfl, Nat.le_of_ble_eq_true rfl⟩ hl.1 (Nat.le_of_ble_eq_true rfl) dX11_digest_185 ⟨Nat.le_of_ble_eq_true rfl, Nat.le_of_ble_eq_true rfl⟩) hS (fun H locs hW hS => ?_)
  refine lv_icmp_ge (tgt := 283) hx hb dX11_digest_188 (by decide) (fun _ => ?_) (fun hc => absurd (by decide) hc)
  refine lv_aload_n hx hb dX11_digest_283 rfl (lv_at hl 2 rfl) ?_
  obtain ⟨_, h87, h⟩ := ob_s h
  refine fm_cr (nb_runVr (As := []) (rest := []) hA hx hb hml hown hSW hS hW (m_X11_row l z ad _ hA A u1 hF h87) mf_X11_row lk_X11_266 hF.1 rfl rfl ⟨rfl, rfl⟩ ⟨Nat.le_of_ble_eq_true rfl, Nat.le_of_ble_eq_true rfl⟩ hl.1 (Nat.le_of_ble_eq_true rfl) dX11_digest_284 ⟨Nat.le_of_ble_eq_true rfl, Nat.le_of_ble_eq_true rfl⟩) hS (fun H locs G89 q90 hEG89 hcq90 hW hS => ?_)
  replace hF := hF.ext0 hEG89
  refine lv_astore_n (lv' := [(3, .ref q90), (1, .long r85), (0, .ref (A 0))]) hx hb dX11_digest_287 rfl hl (by decide) rfl (fun ls hl => ?_)
  refine lv_iconst (v := 0) hx hb dX11_digest_288 (by decide) ?_
  refine lv_istore (lv' := [(4, .int 0), (3, .ref q90), (1, .long r85), (0, .ref (A 0))]) hx hb dX11_digest_289 hl (by decide) rfl (fun ls hl => ?_)
  refine lv_iload hx hb dX11_digest_291 (lv_at hl 0 rfl) ?_
  refine lv_aload_n hx hb dX11_digest_293 rfl (lv_at hl 1 rfl) ?_
  refine nb_alenr hA hx hb hK hW 0 hcq90 rfl (v := 0) rfl dX11_digest_294 ?_
  refine lv_icmp_ge (tgt := 328) hx hb dX11_digest_295 (by decide) (fun _ => ?_) (fun hc => absurd (by decide) hc)
  refine lv_iconst (v := 0) hx hb dX11_digest_328 (by decide) ?_
  refine lv_istore (lv' := [(4, .int 0), (3, .ref q90), (1, .long r85), (0, .ref (A 0))]) hx hb dX11_digest_329 hl (by decide) rfl (fun ls hl => ?_)
  refine lv_iload hx hb dX11_digest_331 (lv_at hl 0 rfl) ?_
  refine lv_iconst (v := 4) hx hb dX11_digest_333 (by decide) ?_
  refine lv_icmp_ge (tgt := 356) hx hb dX11_digest_334 (by decide) (fun hc => absurd hc (by decide)) (fun _ => ?_)
  refine lv_lload_n hx hb dX11_digest_337 rfl (lv_at hl 2 rfl) ?_
  refine lv_aload_n hx hb dX11_digest_338 rfl (lv_at hl 3 rfl) ?_
  refine lv_iload hx hb dX11_digest_339 (lv_at hl 0 rfl) ?_
  refine lv_aload_n hx hb dX11_digest_341 rfl (lv_at hl 1 rfl) ?_
  obtain ⟨r92, h91, h⟩ := ob_s h
  refine fm_ci (nb_runVr (As := [.int 0, .ref q90]) (rest := [.long r85]) hA hx hb hml hown hSW hS hW (m_X11_mark l z ad _ hA A u1 hF 0 q90 hcq90 h91) mf_X11_mark lk_X11_262 hF.1 rfl rfl ⟨rfl, rfl⟩ ⟨Nat.le_of_ble_eq_true rfl, Nat.le_of_ble_eq_true rfl⟩ hl.1 (Nat.le_of_ble_eq_true rfl) dX11_digest_342 ⟨Nat.le_of_ble_eq_true rfl, Nat.le_of_ble_eq_true rfl⟩) hS (fun H locs G93 hEG93 hW hS => ?_)
  replace hF := hF.ext0 hEG93
  replace hcq90 := hEG93 _ _ _ hcq90
  refine lv_i2l hx hb dX11_digest_345 rfl ?_
  obtain ⟨r95, h94, h⟩ := ob_s h
  refine nb_cl (nb_runS (As := [.long r85, .long r92.toInt64]) (rest := []) hx hb hml hown hSW hS hW (m_X11_add l z ad _ hA r85 r92.toInt64 h94) mf_X11_add lk_X11_343 rfl ⟨rfl, rfl⟩ ⟨Nat.le_of_ble_eq_true rfl, Nat.le_of_ble_eq_true rfl⟩ hl.1 (Nat.le_of_ble_eq_true rfl) dX11_digest_346 ⟨Nat.le_of_ble_eq_true rfl, Nat.le_of_ble_eq_true rfl⟩) hS (fun H locs hW hS => ?_)
  refine lv_lstore_n (lv' := [(1, .long r95), (4, .int 0), (3, .ref q90), (0, .ref (A 0))]) hx hb dX11_digest_349 rfl hl (by decide) rfl (fun ls hl => ?_)
  refine lv_iinc (v := 1) (lv' := [(4, .int 1), (1, .long r95), (3, .ref q90), (0, .ref (A 0))]) hx hb dX11_digest_350 hl (k := 1) rfl (by decide) (by decide) rfl (fun ls hl => ?_)
  refine lv_goto (tgt := 331) hx hb dX11_digest_353 (by decide) ?_
  refine lv_iload hx hb dX11_digest_331 (lv_at hl 0 rfl) ?_
  refine lv_iconst (v := 4) hx hb dX11_digest_333 (by decide) ?_
  refine lv_icmp_ge (tgt := 356) hx hb dX11_digest_334 (by decide) (fun hc => absurd hc (by decide)) (fun _ => ?_)
  refine lv_lload_n hx hb dX11_digest_337 rfl (lv_at hl 1 rfl) ?_
  refine lv_aload_n hx hb dX11_digest_338 rfl (lv_at hl 3 rfl) ?_
  refine lv_iload hx hb dX11_digest_339 (lv_at hl 0 rfl) ?_
  refine lv_aload_n hx hb dX11_digest_341 rfl (lv_at hl 2 rfl) ?_
  obtain ⟨r98, h97, h⟩ := ob_s h
  refine fm_ci (nb_runVr (As := [.int 1, .ref q90]) (rest := [.long r95]) hA hx hb hml hown hSW hS hW (m_X11_mark l z ad _ hA A u1 hF 1 q90 hcq90 h97) mf_X11_mark lk_X11_262 hF.1 rfl rfl ⟨rfl, rfl⟩ ⟨Nat.le_of_ble_eq_true rfl, Nat.le_of_ble_eq_true rfl⟩ hl.1 (Nat.le_of_ble_eq_true rfl) dX11_digest_342 ⟨Nat.le_of_ble_eq_true rfl, Nat.le_of_ble_eq_true rfl⟩) hS (fun H locs G99 hEG99 hW hS => ?_)
  replace hF := hF.ext0 hEG99
  replace hcq90 := hEG99 _ _ _ hcq90
  refine lv_i2l hx hb dX11_digest_345 rfl ?_
  obtain ⟨r101, h100, h⟩ := ob_s h
  refine nb_cl (nb_runS (As := [.long r95, .long r98.toInt64]) (rest := []) hx hb hml hown hSW hS hW (m_X11_add l z ad _ hA r95 r98.toInt64 h100) mf_X11_add lk_X11_343 rfl ⟨rfl, rfl⟩ ⟨Nat.le_of_ble_eq_true rfl, Nat.le_of_ble_eq_true rfl⟩ hl.1 (Nat.le_of_ble_eq_true rfl) dX11_digest_346 ⟨Nat.le_of_ble_eq_true rfl, Nat.le_of_ble_eq_true rfl⟩) hS (fun H locs hW hS => ?_)
  refine lv_lstore_n (lv' := [(1, .long r101), (4, .int 1), (3, .ref q90), (0, .ref (A 0))]) hx hb dX11_digest_349 rfl hl (by decide) rfl (fun ls hl => ?_)
  refine lv_iinc (v := 2) (lv' := [(4, .int 2), (1, .long r101), (3, .ref q90), (0, .ref (A 0))]) hx hb dX11_digest_350 hl (k := 1) rfl (by decide) (by decide) rfl (fun ls hl => ?_)
  refine lv_goto (tgt := 331) hx hb dX11_digest_353 (by decide) ?_
  refine lv_iload hx hb dX11_digest_331 (lv_at hl 0 rfl) ?_
  refine lv_iconst (v := 4) hx hb dX11_digest_333 (by decide) ?_
  refine lv_icmp_ge (tgt := 356) hx hb dX11_digest_334 (by decide) (fun hc => absurd hc (by decide)) (fun _ => ?_)
  refine lv_lload_n hx hb dX11_digest_337 rfl (lv_at hl 1 rfl) ?_
  refine lv_aload_n hx hb dX11_digest_338 rfl (lv_at hl 3 rfl) ?_
  refine lv_iload hx hb dX11_digest_339 (lv_at hl 0 rfl) ?_
  refine lv_aload_n hx hb dX11_digest_341 rfl (lv_at hl 2 rfl) ?_
  obtain ⟨r104, h103, h⟩ := ob_s h
  refine fm_ci (nb_runVr (As := [.int 2, .ref q90]) (rest := [.long r101]) hA hx hb hml hown hSW hS hW (m_X11_mark l z ad _ hA A u1 hF 2 q90 hcq90 h103) mf_X11_mark lk_X11_262 hF.1 rfl rfl ⟨rfl, rfl⟩ ⟨Nat.le_of_ble_eq_true rfl, Nat.le_of_ble_eq_true rfl⟩ hl.1 (Nat.le_of_ble_eq_true rfl) dX11_digest_342 ⟨Nat.le_of_ble_eq_true rfl, Nat.le_of_ble_eq_true rfl⟩) hS (fun H locs G105 hEG105 hW hS => ?_)
  replace hF := hF.ext0 hEG105
  replace hcq90 := hEG105 _ _ _ hcq90
  refine lv_i2l hx hb dX11_digest_345 rfl ?_
  obtain ⟨r107, h106, h⟩ := ob_s h
  refine nb_cl (nb_runS (As := [.long r101, .long r104.toInt64]) (rest := []) hx hb hml hown hSW hS hW (m_X11_add l z ad _ hA r101 r104.toInt64 h106) mf_X11_add lk_X11_343 rfl ⟨rfl, rfl⟩ ⟨Nat.le_of_ble_eq_true rfl, Nat.le_of_ble_eq_true rfl⟩ hl.1 (Nat.le_of_ble_eq_true rfl) dX11_digest_346 ⟨Nat.le_of_ble_eq_true rfl, Nat.le_of_ble_eq_true rfl⟩) hS (fun H locs hW hS => ?_)
  refine lv_lstore_n (lv' := [(1, .long r107), (4, .int 2), (3, .ref q90), (0, .ref (A 0))]) hx hb dX11_digest_349 rfl hl (by decide) rfl (fun ls hl => ?_)
  refine lv_iinc (v := 3) (lv' := [(4, .int 3), (1, .long r107), (3, .ref q90), (0, .ref (A 0))]) hx hb dX11_digest_350 hl (k := 1) rfl (by decide) (by decide) rfl (fun ls hl => ?_)
  refine lv_goto (tgt := 331) hx hb dX11_digest_353 (by decide) ?_
  refine lv_iload hx hb dX11_digest_331 (lv_at hl 0 rfl) ?_
  refine lv_iconst (v := 4) hx hb dX11_digest_333 (by decide) ?_
  refine lv_icmp_ge (tgt := 356) hx hb dX11_digest_334 (by decide) (fun hc => absurd hc (by decide)) (fun _ => ?_)
  refine lv_lload_n hx hb dX11_digest_337 rfl (lv_at hl 1 rfl) ?_
  refine lv_aload_n hx hb dX11_digest_338 rfl (lv_at hl 3 rfl) ?_
  refine lv_iload hx hb dX11_digest_339 (lv_at hl 0 rfl) ?_
  refine lv_aload_n hx hb dX11_digest_341 rfl (lv_at hl 2 rfl) ?_
  obtain ⟨r110, h109, h⟩ := ob_s h
  refine fm_ci (nb_runVr (As := [.int 3, .ref q90]) (rest := [.long r107]) hA hx hb hml hown hSW hS hW (m_X11_mark l z ad _ hA A u1 hF 3 q90 hcq90 h109) mf_X11_mark lk_X11_262 hF.1 rfl rfl ⟨rfl, rfl⟩ ⟨Nat.le_of_ble_eq_true rfl, Nat.le_of_ble_eq_true rfl⟩ hl.1 (Nat.le_of_ble_eq_true rfl) dX11_digest_342 ⟨Nat.le_of_ble_eq_true rfl, Nat.le_of_ble_eq_true rfl⟩) hS (fun H locs G111 hEG111 hW hS => ?_)
  replace hF := hF.ext0 hEG111
  replace hcq90 := hEG111 _ _ _ hcq90
  refine lv_i2l hx hb dX11_digest_345 rfl ?_
  obtain ⟨r113, h112, h⟩ := ob_s h
  refine nb_cl (nb_runS (As := [.long r107, .long r110.toInt64]) (rest := []) hx hb hml hown hSW hS hW (m_X11_add l z ad _ hA r107 r110.toInt64 h112) mf_X11_add lk_X11_343 rfl ⟨rfl, rfl⟩ ⟨Nat.le_of_ble_eq_true rfl, Nat.le_of_ble_eq_true rfl⟩ hl.1 (Nat.le_of_ble_eq_true rfl) dX11_digest_346 ⟨Nat.le_of_ble_eq_true rfl, Nat.le_of_ble_eq_true rfl⟩) hS (fun H locs hW hS => ?_)
  refine lv_lstore_n (lv' := [(1, .long r113), (4, .int 3), (3, .ref q90), (0, .ref (A 0))]) hx hb dX11_digest_349 rfl hl (by decide) rfl (fun ls hl => ?_)
  refine lv_iinc (v := 4) (lv' := [(4, .int 4), (1, .long r113), (3, .ref q90), (0, .ref (A 0))]) hx hb dX11_digest_350 hl (k := 1) rfl (by decide) (by decide) rfl (fun ls hl => ?_)
  refine lv_goto (tgt := 331) hx hb dX11_digest_353 (by decide) ?_
  refine lv_iload hx hb dX11_digest_331 (lv_at hl 0 rfl) ?_
  refine lv_iconst (v := 4) hx hb dX11_digest_333 (by decide) ?_
  refine lv_icmp_ge (tgt := 356) hx hb dX11_digest_334 (by decide) (fun _ => ?_) (fun hc => absurd (by decide) hc)
  refine lv_iconst (v := 0) hx hb dX11_digest_356 (by decide) ?_
  refine lv_istore (lv' := [(4, .int 0), (1, .long r113), (3, .ref q90), (0, .ref (A 0))]) hx hb dX11_digest_357 hl (by decide) rfl (fun ls hl => ?_)
  refine lv_iload hx hb dX11_digest_359 (lv_at hl 0 rfl) ?_
  refine lv_iconst (v := 3) hx hb dX11_digest_361 (by decide) ?_
  refine lv_icmp_ge (tgt := 399) hx hb dX11_digest_362 (by decide) (fun hc => absurd hc (by decide)) (fun _ => ?_)
  refine lv_lload_n hx hb dX11_digest_365 rfl (lv_at hl 1 rfl) ?_
  refine lv_aload_n hx hb dX11_digest_366 rfl (lv_at hl 3 rfl) ?_
  refine nb_getr hA hx hb hT hK hown hW fl_X11_45 hF.1 (v := .ref (A 8)) rfl dX11_digest_367 ?_
  refine lv_iload hx hb dX11_digest_370 (lv_at hl 0 rfl) ?_
  refine nb_aaldr hA hx hb hK hW 1 hF.2.2.2.2.1 rfl rfl (inb_in (show inb 0 3 by decide)) (b := A (10 + 0)) (fmR_at (inb_lt (show inb 0 3 by decide))) dX11_digest_372 ?_
  refine lv_iconst (v := 0) hx hb dX11_digest_373 (by decide) ?_
  refine nb_iald_r hA hx hb hK hW 0 (hF.2.2.2.2.2.1 0 (inb_lt (show inb 0 3 by decide))) rfl (inb_in (by decide)) dX11_digest_374 ?_
  refine lv_i2l hx hb dX11_digest_375 rfl ?_
  obtain ⟨r116, h115, h⟩ := ob_s h
  refine nb_cl (nb_runS (As := [.long r113, .long (((-1) : Int32).toInt64)]) (rest := []) hx hb hml hown hSW hS hW (m_X11_add l z ad _ hA r113 (((-1) : Int32).toInt64) h115) mf_X11_add lk_X11_343 rfl ⟨rfl, rfl⟩ ⟨Nat.le_of_ble_eq_true rfl, Nat.le_of_ble_eq_true rfl⟩ hl.1 (Nat.le_of_ble_eq_true rfl) dX11_digest_376 ⟨Nat.le_of_ble_eq_true rfl, Nat.le_of_ble_eq_true rfl⟩) hS (fun H locs hW hS => ?_)
  refine lv_aload_n hx hb dX11_digest_379 rfl (lv_at hl 3 rfl) ?_
  refine nb_getr hA hx hb hT hK hown hW fl_X11_45 hF.1 (v := .ref (A 8)) rfl dX11_digest_380 ?_
  refine lv_iload hx hb dX11_digest_383 (lv_at hl 0 rfl) ?_
  refine nb_aaldr hA hx hb hK hW 1 hF.2.2.2.2.1 rfl rfl (inb_in (show inb 0 3 by decide)) (b := A (10 + 0)) (fmR_at (inb_lt (show inb 0 3 by decide))) dX11_digest_385 ?_
  refine lv_iconst (v := 1) hx hb dX11_digest_386 (by decide) ?_
  refine nb_iald_r hA hx hb hK hW 0 (hF.2.2.2.2.2.1 0 (inb_lt (show inb 0 3 by decide))) rfl (inb_in (by decide)) dX11_digest_387 ?_
  refine lv_i2l hx hb dX11_digest_388 rfl ?_
  obtain ⟨r119, h118, h⟩ := ob_s h
  refine nb_cl (nb_runS (As := [.long r116, .long (((-1) : Int32).toInt64)]) (rest := []) hx hb hml hown hSW hS hW (m_X11_add l z ad _ hA r116 (((-1) : Int32).toInt64) h118) mf_X11_add lk_X11_343 rfl ⟨rfl, rfl⟩ ⟨Nat.le_of_ble_eq_true rfl, Nat.le_of_ble_eq_true rfl⟩ hl.1 (Nat.le_of_ble_eq_true rfl) dX11_digest_389 ⟨Nat.le_of_ble_eq_true rfl, Nat.le_of_ble_eq_true rfl⟩) hS (fun H locs hW hS => ?_)
  refine lv_lstore_n (lv' := [(1, .long r119), (4, .int 0), (3, .ref q90), (0, .ref (A 0))]) hx hb dX11_digest_392 rfl hl (by decide) rfl (fun ls hl => ?_)
  refine lv_iinc (v := 1) (lv' := [(4, .int 1), (1, .long r119), (3, .ref q90), (0, .ref (A 0))]) hx hb dX11_digest_393 hl (k := 1) rfl (by decide) (by decide) rfl (fun ls hl => ?_)
  refine lv_goto (tgt := 359) hx hb dX11_digest_396 (by decide) ?_
  refine lv_iload hx hb dX11_digest_359 (lv_at hl 0 rfl) ?_
  refine lv_iconst (v := 3) hx hb dX11_digest_361 (by decide) ?_
  refine lv_icmp_ge (tgt := 399) hx hb dX11_digest_362 (by decide) (fun hc => absurd hc (by decide)) (fun _ => ?_)
  refine lv_lload_n hx hb dX11_digest_365 rfl (lv_at hl 1 rfl) ?_
  refine lv_aload_n hx hb dX11_digest_366 rfl (lv_at hl 3 rfl) ?_
  refine nb_getr hA hx hb hT hK hown hW fl_X11_45 hF.1 (v := .ref (A 8)) rfl dX11_digest_367 ?_
  refine lv_iload hx hb dX11_digest_370 (lv_at hl 0 rfl) ?_
  refine nb_aaldr hA hx hb hK hW 1 hF.2.2.2.2.1 rfl rfl (inb_in (show inb 1 3 by decide)) (b := A (10 + 1)) (fmR_at (inb_lt (show inb 1 3 by decide))) dX11_digest_372 ?_
  refine lv_iconst (v := 0) hx hb dX11_digest_373 (by decide) ?_
  refine nb_iald_r hA hx hb hK hW 0 (hF.2.2.2.2.2.1 1 (inb_lt (show inb 1 3 by decide))) rfl (inb_in (by decide)) dX11_digest_374 ?_
  refine lv_i2l hx hb dX11_digest_375 rfl ?_
  obtain ⟨r122, h121, h⟩ := ob_s h
  refine nb_cl (nb_runS (As := [.long r119, .long (((-1) : Int32).toInt64)]) (rest := []) hx hb hml hown hSW hS hW (m_X11_add l z ad _ hA r119 (((-1) : Int32).toInt64) h121) mf_X11_add lk_X11_343 rfl ⟨rfl, rfl⟩ ⟨Nat.le_of_ble_eq_true rfl, Nat.le_of_ble_eq_true rfl⟩ hl.1 (Nat.le_of_ble_eq_true rfl) dX11_digest_376 ⟨Nat.le_of_ble_eq_true rfl, Nat.le_of_ble_eq_true rfl⟩) hS (fun H locs hW hS => ?_)
  refine lv_aload_n hx hb dX11_digest_379 rfl (lv_at hl 3 rfl) ?_
  refine nb_getr hA hx hb hT hK hown hW fl_X11_45 hF.1 (v := .ref (A 8)) rfl dX11_digest_380 ?_
  refine lv_iload hx hb dX11_digest_383 (lv_at hl 0 rfl) ?_
  refine nb_aaldr hA hx hb hK hW 1 hF.2.2.2.2.1 rfl rfl (inb_in (show inb 1 3 by decide)) (b := A (10 + 1)) (fmR_at (inb_lt (show inb 1 3 by decide))) dX11_digest_385 ?_
  refine lv_iconst (v := 1) hx hb dX11_digest_386 (by decide) ?_
  refine nb_iald_r hA hx hb hK hW 0 (hF.2.2.2.2.2.1 1 (inb_lt (show inb 1 3 by decide))) rfl (inb_in (by decide)) dX11_digest_387 ?_
  refine lv_i2l hx hb dX11_digest_388 rfl ?_
  obtain ⟨r125, h124, h⟩ := ob_s h
  refine nb_cl (nb_runS (As := [.long r122, .long (((-1) : Int32).toInt64)]) (rest := []) hx hb hml hown hSW hS hW (m_X11_add l z ad _ hA r122 (((-1) : Int32).toInt64) h124) mf_X11_add lk_X11_343 rfl ⟨rfl, rfl⟩ ⟨Nat.le_of_ble_eq_true rfl, Nat.le_of_ble_eq_true rfl⟩ hl.1 (Nat.le_of_ble_eq_true rfl) dX11_digest_389 ⟨Nat.le_of_ble_eq_true rfl, Nat.le_of_ble_eq_true rfl⟩) hS (fun H locs hW hS => ?_)
  refine lv_lstore_n (lv' := [(1, .long r125), (4, .int 1), (3, .ref q90), (0, .ref (A 0))]) hx hb dX11_digest_392 rfl hl (by decide) rfl (fun ls hl => ?_)
  refine lv_iinc (v := 2) (lv' := [(4, .int 2), (1, .long r125), (3, .ref q90), (0, .ref (A 0))]) hx hb dX11_digest_393 hl (k := 1) rfl (by decide) (by decide) rfl (fun ls hl => ?_)
  refine lv_goto (tgt := 359) hx hb dX11_digest_396 (by decide) ?_
  refine lv_iload hx hb dX11_digest_359 (lv_at hl 0 rfl) ?_
  refine lv_iconst (v := 3) hx hb dX11_digest_361 (by decide) ?_
  refine lv_icmp_ge (tgt := 399) hx hb dX11_digest_362 (by decide) (fun hc => absurd hc (by decide)) (fun _ => ?_)
  refine lv_lload_n hx hb dX11_digest_365 rfl (lv_at hl 1 rfl) ?_
  refine lv_aload_n hx hb dX11_digest_366 rfl (lv_at hl 3 rfl) ?_
  refine nb_getr hA hx hb hT hK hown hW fl_X11_45 hF.1 (v := .ref (A 8)) rfl dX11_digest_367 ?_
  refine lv_iload hx hb dX11_digest_370 (lv_at hl 0 rfl) ?_
  refine nb_aaldr hA hx hb hK hW 1 hF.2.2.2.2.1 rfl rfl (inb_in (show inb 2 3 by decide)) (b := A (10 + 2)) (fmR_at (inb_lt (show inb 2 3 by decide))) dX11_digest_372 ?_
  refine lv_iconst (v := 0) hx hb dX11_digest_373 (by decide) ?_
  refine nb_iald_r hA hx hb hK hW 0 (hF.2.2.2.2.2.1 2 (inb_lt (show inb 2 3 by decide))) rfl (inb_in (by decide)) dX11_digest_374 ?_
  refine lv_i2l hx hb dX11_digest_375 rfl ?_
  obtain ⟨r128, h127, h⟩ := ob_s h
  refine nb_cl (nb_runS (As := [.long r125, .long (((-1) : Int32).toInt64)]) (rest := []) hx hb hml hown hSW hS hW (m_X11_add l z ad _ hA r125 (((-1) : Int32).toInt64) h127) mf_X11_add lk_X11_343 rfl ⟨rfl, rfl⟩ ⟨Nat.le_of_ble_eq_true rfl, Nat.le_of_ble_eq_true rfl⟩ hl.1 (Nat.le_of_ble_eq_true rfl) dX11_digest_376 ⟨Nat.le_of_ble_eq_true rfl, Nat.le_of_ble_eq_true rfl⟩) hS (fun H locs hW hS => ?_)
  refine lv_aload_n hx hb dX11_digest_379 rfl (lv_at hl 3 rfl) ?_
  refine nb_getr hA hx hb hT hK hown hW fl_X11_45 hF.1 (v := .ref (A 8)) rfl dX11_digest_380 ?_
  refine lv_iload hx hb dX11_digest_383 (lv_at hl 0 rfl) ?_
  refine nb_aaldr hA hx hb hK hW 1 hF.2.2.2.2.1 rfl rfl (inb_in (show inb 2 3 by decide)) (b := A (10 + 2)) (fmR_at (inb_lt (show inb 2 3 by decide))) dX11_digest_385 ?_
  refine lv_iconst (v := 1) hx hb dX11_digest_386 (by decide) ?_
  refine nb_iald_r hA hx hb hK hW 0 (hF.2.2.2.2.2.1 2 (inb_lt (show inb 2 3 by decide))) rfl (inb_in (by decide)) dX11_digest_387 ?_
  refine lv_i2l hx hb dX11_digest_388 rfl ?_
  obtain ⟨r131, h130, h⟩ := ob_s h
  refine nb_cl (nb_runS (As := [.long r128, .long (((-1) : Int32).toInt64)]) (rest := []) hx hb hml hown hSW hS hW (m_X11_add l z ad _ hA r128 (((-1) : Int32).toInt64) h130) mf_X11_add lk_X11_343 rfl ⟨rfl, rfl⟩ ⟨Nat.le_of_ble_eq_true rfl, Nat.le_of_ble_eq_true rfl⟩ hl.1 (Nat.le_of_ble_eq_true rfl) dX11_digest_389 ⟨Nat.le_of_ble_eq_true rfl, Nat.le_of_ble_eq_true rfl⟩) hS (fun H locs hW hS => ?_)
  refine lv_lstore_n (lv' := [(1, .long r131), (4, .int 2), (3, .ref q90), (0, .ref (A 0))]) hx hb dX11_digest_392 rfl hl (by decide) rfl (fun ls hl => ?_)
  refine lv_iinc (v := 3) (lv' := [(4, .int 3), (1, .long r131), (3, .ref q90), (0, .ref (A 0))]) hx hb dX11_digest_393 hl (k := 1) rfl (by decide) (by decide) rfl (fun ls hl => ?_)
  refine lv_goto (tgt := 359) hx hb dX11_digest_396 (by decide) ?_
  refine lv_iload hx hb dX11_digest_359 (lv_at hl 0 rfl) ?_
  refine lv_iconst (v := 3) hx hb dX11_digest_361 (by decide) ?_
  refine lv_icmp_ge (tgt := 399) hx hb dX11_digest_362 (by decide) (fun _ => ?_) (fun hc => absurd (by decide) hc)
  refine lv_lload_n hx hb dX11_digest_399 rfl (lv_at hl 1 rfl) ?_
  refine lv_aload_n hx hb dX11_digest_400 rfl (lv_at hl 3 rfl) ?_
  refine lv_iconst (v := 5) hx hb dX11_digest_401 (by decide) ?_
  obtain ⟨r134, h133, h⟩ := ob_s h
  refine fm_ci (nb_runVr (As := [.int 5]) (rest := [.long r131]) hA hx hb hml hown hSW hS hW (m_X11_wouldTotalNow l z ad _ hA A u1 hF 5 h133) mf_X11_wouldTotalNow lk_X11_318 hF.1 rfl rfl ⟨rfl, rfl⟩ ⟨Nat.le_of_ble_eq_true rfl, Nat.le_of_ble_eq_true rfl⟩ hl.1 (Nat.le_of_ble_eq_true rfl) dX11_digest_402 ⟨Nat.le_of_ble_eq_true rfl, Nat.le_of_ble_eq_true rfl⟩) hS (fun H locs G135 hEG135 hW hS => ?_)
  replace hF := hF.ext0 hEG135
  replace hcq90 := hEG135 _ _ _ hcq90
  refine lv_i2l hx hb dX11_digest_405 rfl ?_
  obtain ⟨r137, h136, h⟩ := ob_s h
  refine nb_cl (nb_runS (As := [.long r131, .long r134.toInt64]) (rest := []) hx hb hml hown hSW hS hW (m_X11_add l z ad _ hA r131 r134.toInt64 h136) mf_X11_add lk_X11_343 rfl ⟨rfl, rfl⟩ ⟨Nat.le_of_ble_eq_true rfl, Nat.le_of_ble_eq_true rfl⟩ hl.1 (Nat.le_of_ble_eq_true rfl) dX11_digest_406 ⟨Nat.le_of_ble_eq_true rfl, Nat.le_of_ble_eq_true rfl⟩) hS (fun H locs hW hS => ?_)
  refine lv_lstore_n (lv' := [(1, .long r137), (4, .int 3), (3, .ref q90), (0, .ref (A 0))]) hx hb dX11_digest_409 rfl hl (by decide) rfl (fun ls hl => ?_)
  refine lv_aload_n hx hb dX11_digest_410 rfl (lv_at hl 2 rfl) ?_
  refine nb_alenr hA hx hb hK hW 0 hcq90 rfl (v := 0) rfl dX11_digest_411 ?_
  refine lv_iconst (v := 5) hx hb dX11_digest_412 (by decide) ?_
  refine lv_icmp_le (tgt := 420) hx hb dX11_digest_413 (by decide) (fun _ => ?_) (fun hc => absurd (by decide) hc)
  refine lv_lload_n hx hb dX11_digest_420 rfl (lv_at hl 0 rfl) ?_
  refine lv_aload_n hx hb dX11_digest_421 rfl (lv_at hl 3 rfl) ?_
  refine lv_aload_n hx hb dX11_digest_422 rfl (lv_at hl 2 rfl) ?_
  refine lv_iconst (v := 0) hx hb dX11_digest_423 (by decide) ?_
  obtain ⟨r140, h139, h⟩ := ob_s h
  refine fm_ci (nb_runVr (As := [.ref q90, .int 0]) (rest := [.long r137]) hA hx hb hml hown hSW hS hW (m_X11_best l z ad _ hA A u1 hF 0 q90 hcq90 h139) mf_X11_best lk_X11_325 hF.1 rfl rfl ⟨rfl, rfl⟩ ⟨Nat.le_of_ble_eq_true rfl, Nat.le_of_ble_eq_true rfl⟩ hl.1 (Nat.le_of_ble_eq_true rfl) dX11_digest_424 ⟨Nat.le_of_ble_eq_true rfl, Nat.le_of_ble_eq_true rfl⟩) hS (fun H locs G141 hEG141 hW hS => ?_)
  replace hF := hF.ext0 hEG141
  replace hcq90 := hEG141 _ _ _ hcq90
  refine lv_i2l hx hb dX11_digest_427 rfl ?_
  obtain ⟨r143, h142, h⟩ := ob_s h
  refine nb_cl (nb_runS (As := [.long r137, .long r140.toInt64]) (rest := []) hx hb hml hown hSW hS hW (m_X11_add l z ad _ hA r137 r140.toInt64 h142) mf_X11_add lk_X11_343 rfl ⟨rfl, rfl⟩ ⟨Nat.le_of_ble_eq_true rfl, Nat.le_of_ble_eq_true rfl⟩ hl.1 (Nat.le_of_ble_eq_true rfl) dX11_digest_428 ⟨Nat.le_of_ble_eq_true rfl, Nat.le_of_ble_eq_true rfl⟩) hS (fun H locs hW hS => ?_)
  refine W.widen (k := 445) (n := 1796) (Nat.le_of_ble_eq_true rfl) (Nat.le_of_ble_eq_true rfl) ?_
  exact fm_lw hx hb hr hlocks hW (hF.w hw) hS dX11_digest_431 h
