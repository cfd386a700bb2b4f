/-! 26: pass -/
-- pass
def g_X11_pass (M : St) (x1 : Int32) (x2 : Int32) (x3 : Int32) : Option (Int32 × Int32) :=
  ob (g_X11_isIn x1 1 30) fun r2 =>
  if r2 = 0 then
    ob2 (g_X11_start M 1 1) fun r6 u7 =>
    gd (r6 = 1) <|
    some (0, u7 0 0 0)
  else
    ob (g_X11_isIn x2 0 9) fun r11 =>
    if r11 = 0 then
      ob2 (g_X11_start M 1 1) fun r15 u16 =>
      gd (r15 = 1) <|
      some (0, u16 0 0 0)
    else
      ob (g_X11_isIn x3 0 9) fun r20 =>
      if r20 = 0 then
        ob2 (g_X11_start M 1 1) fun r600 u601 =>
        gd (r600 = 1) <|
        some (0, u601 0 0 0)
      else
        ob2 (g_X11_start M 0 1) fun r24 u25 =>
        gd (r24 = 0) <|
        if x1 ≤ 0 then
          some ((u25 11 0 0), u25 0 0 0)
        else
          ob (g_X11_forget u25) fun _ =>
          ob (g_X11_weather u25 x2 x3) fun _ =>
          nm (sset u25 10 0 0 0) fun u43 =>
          nm (sset u43 11 0 0 ((u43 11 0 0) + 1)) fun u45 =>
          if x1 ≤ 1 then
            some ((u45 11 0 0), u45 0 0 0)
          else
            ob (g_X11_forget u45) fun _ =>
            ob (g_X11_weather u45 x2 x3) fun _ =>
            nm (sset u45 10 0 0 0) fun u62 =>
            nm (sset u62 11 0 0 ((u62 11 0 0) + 1)) fun u64 =>
            if x1 ≤ 2 then
              some ((u64 11 0 0), u64 0 0 0)
            else
              ob (g_X11_forget u64) fun _ =>
              ob (g_X11_weather u64 x2 x3) fun _ =>
              nm (sset u64 10 0 0 0) fun u81 =>
              nm (sset u81 11 0 0 ((u81 11 0 0) + 1)) fun u83 =>
              if x1 ≤ 3 then
                some ((u83 11 0 0), u83 0 0 0)
              else
                ob (g_X11_forget u83) fun _ =>
                ob (g_X11_weather u83 x2 x3) fun _ =>
                nm (sset u83 10 0 0 0) fun u100 =>
                nm (sset u100 11 0 0 ((u100 11 0 0) + 1)) fun u102 =>
                if x1 ≤ 4 then
                  some ((u102 11 0 0), u102 0 0 0)
                else
                  ob (g_X11_forget u102) fun _ =>
                  ob (g_X11_weather u102 x2 x3) fun _ =>
                  nm (sset u102 10 0 0 0) fun u119 =>
                  nm (sset u119 11 0 0 ((u119 11 0 0) + 1)) fun u121 =>
                  if x1 ≤ 5 then
                    some ((u121 11 0 0), u121 0 0 0)
                  else
                    ob (g_X11_forget u121) fun _ =>
                    ob (g_X11_weather u121 x2 x3) fun _ =>
                    nm (sset u121 10 0 0 0) fun u138 =>
                    nm (sset u138 11 0 0 ((u138 11 0 0) + 1)) fun u140 =>
                    if x1 ≤ 6 then
                      some ((u140 11 0 0), u140 0 0 0)
                    else
                      ob (g_X11_forget u140) fun _ =>
                      ob (g_X11_weather u140 x2 x3) fun _ =>
                      nm (sset u140 10 0 0 0) fun u157 =>
                      nm (sset u157 11 0 0 ((u157 11 0 0) + 1)) fun u159 =>
                      if x1 ≤ 7 then
                        some ((u159 11 0 0), u159 0 0 0)
                      else
                        ob (g_X11_forget u159) fun _ =>
                        ob (g_X11_weather u159 x2 x3) fun _ =>
                        nm (sset u159 10 0 0 0) fun u176 =>
                        nm (sset u176 11 0 0 ((u176 11 0 0) + 1)) fun u178 =>
                        if x1 ≤ 8 then
                          some ((u178 11 0 0), u178 0 0 0)
                        else
                          ob (g_X11_forget u178) fun _ =>
                          ob (g_X11_weather u178 x2 x3) fun _ =>
                          nm (sset u178 10 0 0 0) fun u195 =>
                          nm (sset u195 11 0 0 ((u195 11 0 0) + 1)) fun u197 =>
                          if x1 ≤ 9 then
                            some ((u197 11 0 0), u197 0 0 0)
                          else
                            ob (g_X11_forget u197) fun _ =>
                            ob (g_X11_weather u197 x2 x3) fun _ =>
                            nm (sset u197 10 0 0 0) fun u214 =>
                            nm (sset u214 11 0 0 ((u214 11 0 0) + 1)) fun u216 =>
                            if x1 ≤ 10 then
                              some ((u216 11 0 0), u216 0 0 0)
                            else
                              ob (g_X11_forget u216) fun _ =>
                              ob (g_X11_weather u216 x2 x3) fun _ =>
                              nm (sset u216 10 0 0 0) fun u233 =>
                              nm (sset u233 11 0 0 ((u233 11 0 0) + 1)) fun u235 =>
                              if x1 ≤ 11 then
                                some ((u235 11 0 0), u235 0 0 0)
                              else
                                ob (g_X11_forget u235) fun _ =>
                                ob (g_X11_weather u235 x2 x3) fun _ =>
                                nm (sset u235 10 0 0 0) fun u252 =>
                                nm (sset u252 11 0 0 ((u252 11 0 0) + 1)) fun u254 =>
                                if x1 ≤ 12 then
                                  some ((u254 11 0 0), u254 0 0 0)
                                else
                                  ob (g_X11_forget u254) fun _ =>
                                  ob (g_X11_weather u254 x2 x3) fun _ =>
                                  nm (sset u254 10 0 0 0) fun u271 =>
                                  nm (sset u271 11 0 0 ((u271 11 0 0) + 1)) fun u273 =>
                                  if x1 ≤ 13 then
                                    some ((u273 11 0 0), u273 0 0 0)
                                  else
                                    ob (g_X11_forget u273) fun _ =>
                                    ob (g_X11_weather u273 x2 x3) fun _ =>
                                    nm (sset u273 10 0 0 0) fun u290 =>
                                    nm (sset u290 11 0 0 ((u290 11 0 0) + 1)) fun u292 =>
                                    if x1 ≤ 14 then
                                      some ((u292 11 0 0), u292 0 0 0)
                                    else
                                      ob (g_X11_forget u292) fun _ =>
                                      ob (g_X11_weather u292 x2 x3) fun _ =>
                                      nm (sset u292 10 0 0 0) fun u309 =>
                                      nm (sset u309 11 0 0 ((u309 11 0 0) + 1)) fun u311 =>
                                      if x1 ≤ 15 then
                                        some ((u311 11 0 0), u311 0 0 0)
                                      else
                                        ob (g_X11_forget u311) fun _ =>
                                        ob (g_X11_weather u311 x2 x3) fun _ =>
                                        nm (sset u311 10 0 0 0) fun u328 =>
                                        nm (sset u328 11 0 0 ((u328 11 0 0) + 1)) fun u330 =>
                                        if x1 ≤ 16 then
                                          some ((u330 11 0 0), u330 0 0 0)
                                        else
                                          ob (g_X11_forget u330) fun _ =>
                                          ob (g_X11_weather u330 x2 x3) fun _ =>
                                          nm (sset u330 10 0 0 0) fun u347 =>
                                          nm (sset u347 11 0 0 ((u347 11 0 0) + 1)) fun u349 =>
                                          if x1 ≤ 17 then
                                            some ((u349 11 0 0), u349 0 0 0)
                                          else
                                            ob (g_X11_forget u349) fun _ =>
                                            ob (g_X11_weather u349 x2 x3) fun _ =>
                                            nm (sset u349 10 0 0 0) fun u366 =>
                                            nm (sset u366 11 0 0 ((u366 11 0 0) + 1)) fun u368 =>
                                            if x1 ≤ 18 then
                                              some ((u368 11 0 0), u368 0 0 0)
                                            else
                                              ob (g_X11_forget u368) fun _ =>
                                              ob (g_X11_weather u368 x2 x3) fun _ =>
                                              nm (sset u368 10 0 0 0) fun u385 =>
                                              nm (sset u385 11 0 0 ((u385 11 0 0) + 1)) fun u387 =>
                                              if x1 ≤ 19 then
                                                some ((u387 11 0 0), u387 0 0 0)
                                              else
                                                ob (g_X11_forget u387) fun _ =>
                                                ob (g_X11_weather u387 x2 x3) fun _ =>
                                                nm (sset u387 10 0 0 0) fun u404 =>
                                                nm (sset u404 11 0 0 ((u404 11 0 0) + 1)) fun u406 =>
                                                if x1 ≤ 20 then
                                                  some ((u406 11 0 0), u406 0 0 0)
                                                else
                                                  ob (g_X11_forget u406) fun _ =>
                                                  ob (g_X11_weather u406 x2 x3) fun _ =>
                                                  nm (sset u406 10 0 0 0) fun u423 =>
                                                  nm (sset u423 11 0 0 ((u423 11 0 0) + 1)) fun u425 =>
                                                  if x1 ≤ 21 then
                                                    some ((u425 11 0 0), u425 0 0 0)
                                                  else
                                                    ob (g_X11_forget u425) fun _ =>
                                                    ob (g_X11_weather u425 x2 x3) fun _ =>
                                                    nm (sset u425 10 0 0 0) fun u442 =>
                                                    nm (sset u442 11 0 0 ((u442 11 0 0) + 1)) fun u444 =>
                                                    if x1 ≤ 22 then
                                                      some ((u444 11 0 0), u444 0 0 0)
                                                    else
                                                      ob (g_X11_forget u444) fun _ =>
                                                      ob (g_X11_weather u444 x2 x3) fun _ =>
                                                      nm (sset u444 10 0 0 0) fun u461 =>
                                                      nm (sset u461 11 0 0 ((u461 11 0 0) + 1)) fun u463 =>
                                                      if x1 ≤ 23 then
                                                        some ((u463 11 0 0), u463 0 0 0)
                                                      else
                                                        ob (g_X11_forget u463) fun _ =>
                                                        ob (g_X11_weather u463 x2 x3) fun _ =>
                                                        nm (sset u463 10 0 0 0) fun u480 =>
                                                        nm (sset u480 11 0 0 ((u480 11 0 0) + 1)) fun u482 =>
                                                        if x1 ≤ 24 then
                                                          some ((u482 11 0 0), u482 0 0 0)
                                                        else
                                                          ob (g_X11_forget u482) fun _ =>
                                                          ob (g_X11_weather u482 x2 x3) fun _ =>
                                                          nm (sset u482 10 0 0 0) fun u499 =>
                                                          nm (sset u499 11 0 0 ((u499 11 0 0) + 1)) fun u501 =>
                                                          if x1 ≤ 25 then
                                                            some ((u501 11 0 0), u501 0 0 0)
                                                          else
                                                            ob (g_X11_forget u501) fun _ =>
                                                            ob (g_X11_weather u501 x2 x3) fun _ =>
                                                            nm (sset u501 10 0 0 0) fun u518 =>
                                                            nm (sset u518 11 0 0 ((u518 11 0 0) + 1)) fun u520 =>
                                                            if x1 ≤ 26 then
                                                              some ((u520 11 0 0), u520 0 0 0)
                                                            else
                                                              ob (g_X11_forget u520) fun _ =>
                                                              ob (g_X11_weather u520 x2 x3) fun _ =>
                                                              nm (sset u520 10 0 0 0) fun u537 =>
                                                              nm (sset u537 11 0 0 ((u537 11 0 0) + 1)) fun u539 =>
                                                              if x1 ≤ 27 then
                                                                some ((u539 11 0 0), u539 0 0 0)
                                                              else
                                                                ob (g_X11_forget u539) fun _ =>
                                                                ob (g_X11_weather u539 x2 x3) fun _ =>
                                                                nm (sset u539 10 0 0 0) fun u556 =>
                                                                nm (sset u556 11 0 0 ((u556 11 0 0) + 1)) fun u558 =>
                                                                if x1 ≤ 28 then
                                                                  some ((u558 11 0 0), u558 0 0 0)
                                                                else
                                                                  ob (g_X11_forget u558) fun _ =>
                                                                  ob (g_X11_weather u558 x2 x3) fun _ =>
                                                                  nm (sset u558 10 0 0 0) fun u575 =>
                                                                  nm (sset u575 11 0 0 ((u575 11 0 0) + 1)) fun u577 =>
                                                                  if x1 ≤ 29 then
                                                                    some ((u577 11 0 0), u577 0 0 0)
                                                                  else
                                                                    ob (g_X11_forget u577) fun _ =>
                                                                    ob (g_X11_weather u577 x2 x3) fun _ =>
                                                                    nm (sset u577 10 0 0 0) fun u594 =>
                                                                    nm (sset u594 11 0 0 ((u594 11 0 0) + 1)) fun u596 =>
                                                                    if x1 ≤ 30 then
                                                                      some ((u596 11 0 0), u596 0 0 0)
                                                                    else
                                                                      none
set_option maxRecDepth 100000 in
set_option maxHeartbeats 4000000 in
theorem m_X11_pass (l : Launch) (z : Zt) (ad : Ad) (G : Gt) (hA : Raw ad) (A : Nat → Nat) (M : St) (hF : FM z G A M) (x1 : Int32) (x2 : Int32) (x3 : Int32) {r9 : Int32} {t9 : Int32} (h : g_X11_pass M x1 x2 x3 = some (r9, t9)) : MC l z yX11_pass cX11_pass 6 (some .int) { frames := 4, cells := 60, slots := 240, locals := 106 } 60 240 [.ref (A 0), .int x1, .int x2, .int x3] ad G (PWi z ad A r9 t9 (fmO M)) := by
  refine Met.ofW (cc := cX11_pass) (maxL := 6) (ret := (some .int)) (by decide) rfl ?_
  intro p e s m args below meth c s₁ B hml hv
  obtain ⟨rfl, hSW, hW⟩ := hv
  have hx := B.exec; have hb := B.bytes; have hr := B.returns; have hlocks := B.notSynchronized
  have hown : s.vm.findClass RX11 = some m.cls := findClass_of_methodNamed B.named
  obtain ⟨hT, hK, hST, hB0⟩ := id hSW
  have hS : va_S (zA z) s.heap s.heap [] := va_S.rf
  have hl := lv_entry ([.ref (A 0), .int x1, .int x2, .int x3]) (n := 6) (Nat.le_of_ble_eq_true rfl)
  rw [lg_entry_eq]
  generalize (lg_sl ([.ref (A 0), .int x1, .int x2, .int x3]) ++ List.replicate (6 - (lg_sl ([.ref (A 0), .int x1, .int x2, .int x3])).length) Slot.unset).toArray = ls at hl ⊢
  have hl : lv_has ls 6 [(0, .ref (A 0)), (1, .int x1), (2, .int x2), (3, .int x3)] := hl
  have hw : fmO M = fmO M := rfl
  unfold g_X11_pass at h
  refine lv_aload_n hx hb dX11_pass_0 rfl (lv_at hl 0 rfl) ?_
  refine lv_iload_n hx hb dX11_pass_1 rfl (lv_at hl 1 rfl) ?_
  refine lv_iconst (v := 1) hx hb dX11_pass_2 (by decide) ?_
  refine lv_bipush (v := 30) hx hb dX11_pass_3 (by decide) ?_
  obtain ⟨r2, h1, h⟩ := ob_s h
  refine nb_ci (nb_runS (As := [.int x1, .int 1, .int 30]) (rest := [.ref (A 0)]) hx hb hml hown hSW hS hW (m_X11_isIn l z ad _ hA x1 1 30 h1) mf_X11_isIn lk_X11_63 rfl ⟨rfl, rfl⟩ ⟨Nat.le_of_ble_eq_true rfl, Nat.le_of_ble_eq_true rfl⟩ hl.1 (Nat.le_of_ble_eq_true rfl) dX11_pass_5 ⟨Nat.le_of_ble_eq_true rfl, Nat.le_of_ble_eq_true rfl⟩) hS (fun H locs hW hS => ?_)
  refine lv_if_eq (tgt := 31) hx hb dX11_pass_8 (by decide) (fun c4 => ?_) (fun c4 => ?_)
  · replace h := ite_t h c4
    refine lv_iconst (v := 1) hx hb dX11_pass_31 (by decide) ?_
    refine lv_goto (tgt := 36) hx hb dX11_pass_32 (by decide) ?_
    refine lv_iconst (v := 1) hx hb dX11_pass_36 (by decide) ?_
    obtain ⟨r6, u7, h5, h⟩ := ob2_s h
    obtain ⟨g09, hz8⟩ := gd_s h
    clear h
    subst g09
    have h := hz8
    clear hz8
    refine fm_cs (nb_runVr (As := [.int 1, .int 1]) (rest := []) hA hx hb hml hown hSW hS hW (m_X11_start l z ad _ hA A M hF 1 1 h5) mf_X11_start lk_X11_75 hF.1 rfl rfl ⟨rfl, rfl⟩ ⟨Nat.le_of_ble_eq_true rfl, Nat.le_of_ble_eq_true rfl⟩ hl.1 (Nat.le_of_ble_eq_true rfl) dX11_pass_37 ⟨Nat.le_of_ble_eq_true rfl, Nat.le_of_ble_eq_true rfl⟩) hS (fun H locs G8 hF hw2 hW hS => ?_)
    replace hw := hw2.trans hw
    clear hw2
    refine lv_if_eq (tgt := 45) hx hb dX11_pass_40 (by decide) (fun hc => absurd hc (by decide)) (fun _ => ?_)
    refine lv_iconst (v := 0) hx hb dX11_pass_43 (by decide) ?_
    refine W.widen (k := 60) (n := 240) (Nat.le_of_ble_eq_true rfl) (Nat.le_of_ble_eq_true rfl) ?_
    exact fm_iw hx hb hr rfl hlocks hW (hF.w hw) hS dX11_pass_44 h
  · replace h := ite_f h c4
    refine lv_iload_n hx hb dX11_pass_11 rfl (lv_at hl 2 rfl) ?_
    refine lv_iconst (v := 0) hx hb dX11_pass_12 (by decide) ?_
    refine lv_bipush (v := 9) hx hb dX11_pass_13 (by decide) ?_
    obtain ⟨r11, h10, h⟩ := ob_s h
    refine nb_ci (nb_runS (As := [.int x2, .int 0, .int 9]) (rest := [.ref (A 0)]) hx hb hml hown hSW hS hW (m_X11_isIn l z ad _ hA x2 0 9 h10) mf_X11_isIn lk_X11_63 rfl ⟨rfl, rfl⟩ ⟨Nat.le_of_ble_eq_true rfl, Nat.le_of_ble_eq_true rfl⟩ hl.1 (Nat.le_of_ble_eq_true rfl) dX11_pass_15 ⟨Nat.le_of_ble_eq_true rfl, Nat.le_of_ble_eq_true rfl⟩) hS (fun H locs hW hS => ?_)
    refine lv_if_eq (tgt := 31) hx hb dX11_pass_18 (by decide) (fun c13 => ?_) (fun c13 => ?_)
    · replace h := ite_t h c13
      refine lv_iconst (v := 1) hx hb dX11_pass_31 (by decide) ?_
      refine lv_goto (tgt := 36) hx hb dX11_pass_32 (by decide) ?_
      refine lv_iconst (v := 1) hx hb dX11_pass_36 (by decide) ?_
      obtain ⟨r15, u16, h14, h⟩ := ob2_s h
      obtain ⟨g18, hz8⟩ := gd_s h
      clear h
      subst g18
      have h := hz8
      clear hz8
      refine fm_cs (nb_runVr (As := [.int 1, .int 1]) (rest := []) hA hx hb hml hown hSW hS hW (m_X11_start l z ad _ hA A M hF 1 1 h14) mf_X11_start lk_X11_75 hF.1 rfl rfl ⟨rfl, rfl⟩ ⟨Nat.le_of_ble_eq_true rfl, Nat.le_of_ble_eq_true rfl⟩ hl.1 (Nat.le_of_ble_eq_true rfl) dX11_pass_37 ⟨Nat.le_of_ble_eq_true rfl, Nat.le_of_ble_eq_true rfl⟩) hS (fun H locs G17 hF hw2 hW hS => ?_)
      replace hw := hw2.trans hw
      clear hw2
      refine lv_if_eq (tgt := 45) hx hb dX11_pass_40 (by decide) (fun hc => absurd hc (by decide)) (fun _ => ?_)
      refine lv_iconst (v := 0) hx hb dX11_pass_43 (by decide) ?_
      refine W.widen (k := 60) (n := 240) (Nat.le_of_ble_eq_true rfl) (Nat.le_of_ble_eq_true rfl) ?_
      exact fm_iw hx hb hr rfl hlocks hW (hF.w hw) hS dX11_pass_44 h
    · replace h := ite_f h c13
      refine lv_iload_n hx hb dX11_pass_21 rfl (lv_at hl 3 rfl) ?_
      refine lv_iconst (v := 0) hx hb dX11_pass_22 (by decide) ?_
      refine lv_bipush (v := 9) hx hb dX11_pass_23 (by decide) ?_
      obtain ⟨r20, h19, h⟩ := ob_s h
      refine nb_ci (nb_runS (As := [.int x3, .int 0, .int 9]) (rest := [.ref (A 0)]) hx hb hml hown hSW hS hW (m_X11_isIn l z ad _ hA x3 0 9 h19) mf_X11_isIn lk_X11_63 rfl ⟨rfl, rfl⟩ ⟨Nat.le_of_ble_eq_true rfl, Nat.le_of_ble_eq_true rfl⟩ hl.1 (Nat.le_of_ble_eq_true rfl) dX11_pass_25 ⟨Nat.le_of_ble_eq_true rfl, Nat.le_of_ble_eq_true rfl⟩) hS (fun H locs hW hS => ?_)
      refine lv_if_ne (tgt := 35) hx hb dX11_pass_28 (by decide) (fun c22 => ?_) (fun c22 => ?_)
      · replace h := ite_f h c22
        refine lv_iconst (v := 0) hx hb dX11_pass_35 (by decide) ?_
        refine lv_iconst (v := 1) hx hb dX11_pass_36 (by decide) ?_
        obtain ⟨r24, u25, h23, h⟩ := ob2_s h
        obtain ⟨g27, hz8⟩ := gd_s h
        clear h
        subst g27
        have h := hz8
        clear hz8
        refine fm_cs (nb_runVr (As := [.int 0, .int 1]) (rest := []) hA hx hb hml hown hSW hS hW (m_X11_start l z ad _ hA A M hF 0 1 h23) mf_X11_start lk_X11_75 hF.1 rfl rfl ⟨rfl, rfl⟩ ⟨Nat.le_of_ble_eq_true rfl, Nat.le_of_ble_eq_true rfl⟩ hl.1 (Nat.le_of_ble_eq_true rfl) dX11_pass_37 ⟨Nat.le_of_ble_eq_true rfl, Nat.le_of_ble_eq_true rfl⟩) hS (fun H locs G26 hF hw2 hW hS => ?_)
        replace hw := hw2.trans hw
        clear hw2
        refine lv_if_eq (tgt := 45) hx hb dX11_pass_40 (by decide) (fun _ => ?_) (fun hc => absurd (by decide) hc)
        refine lv_iconst (v := 0) hx hb dX11_pass_45 (by decide) ?_
        refine lv_istore (lv' := [(4, .int 0), (0, .ref (A 0)), (1, .int x1), (2, .int x2), (3, .int x3)]) hx hb dX11_pass_46 hl (by decide) rfl (fun ls hl => ?_)
        refine lv_iload hx hb dX11_pass_48 (lv_at hl 0 rfl) ?_
        refine lv_iload_n hx hb dX11_pass_50 rfl (lv_at hl 2 rfl) ?_
        refine lv_icmp_ge (tgt := 108) hx hb dX11_pass_51 (by decide) (fun c28 => ?_) (fun c28 => ?_)
        · replace h := ite_t h c28
          refine lv_aload_n hx hb dX11_pass_108 rfl (lv_at hl 1 rfl) ?_
          refine nb_getr hA hx hb hT hK hown hW fl_X11_210 hF.1 (v := .int (u25 11 0 0)) rfl dX11_pass_109 ?_
          refine W.widen (k := 60) (n := 240) (Nat.le_of_ble_eq_true rfl) (Nat.le_of_ble_eq_true rfl) ?_
          exact fm_iw hx hb hr rfl hlocks hW (hF.w hw) hS dX11_pass_112 h
        · replace h := ite_f h c28
          refine lv_aload_n hx hb dX11_pass_54 rfl (lv_at hl 1 rfl) ?_
          obtain ⟨_, h29, h⟩ := ob_s h
          refine fm_cv (nb_runVr (As := []) (rest := []) hA hx hb hml hown hSW hS hW (m_X11_forget l z ad _ hA A u25 hF h29) mf_X11_forget lk_X11_233 hF.1 rfl rfl ⟨rfl, rfl⟩ ⟨Nat.le_of_ble_eq_true rfl, Nat.le_of_ble_eq_true rfl⟩ hl.1 (Nat.le_of_ble_eq_true rfl) dX11_pass_55 ⟨Nat.le_of_ble_eq_true rfl, Nat.le_of_ble_eq_true rfl⟩) hS (fun H locs G31 hEG31 hW hS => ?_)
          replace hF := hF.ext0 hEG31
          refine lv_aload_n hx hb dX11_pass_58 rfl (lv_at hl 1 rfl) ?_
          refine lv_iload_n hx hb dX11_pass_59 rfl (lv_at hl 3 rfl) ?_
          refine lv_iload_n hx hb dX11_pass_60 rfl (lv_at hl 4 rfl) ?_
          obtain ⟨_, h32, h⟩ := ob_s h
          refine fm_cv (nb_runVr (As := [.int x2, .int x3]) (rest := []) hA hx hb hml hown hSW hS hW (m_X11_weather l z ad _ hA A u25 hF x2 x3 h32) mf_X11_weather lk_X11_236 hF.1 rfl rfl ⟨rfl, rfl⟩ ⟨Nat.le_of_ble_eq_true rfl, Nat.le_of_ble_eq_true rfl⟩ hl.1 (Nat.le_of_ble_eq_true rfl) dX11_pass_61 ⟨Nat.le_of_ble_eq_true rfl, Nat.le_of_ble_eq_true rfl⟩) hS (fun H locs G34 hEG34 hW hS => ?_)
          replace hF := hF.ext0 hEG34
          refine lv_iconst (v := 0) hx hb dX11_pass_64 (by decide) ?_
          refine lv_istore (lv' := [(5, .int 0), (4, .int 0), (0, .ref (A 0)), (1, .int x1), (2, .int x2), (3, .int x3)]) hx hb dX11_pass_65 hl (by decide) rfl (fun ls hl => ?_)
          refine lv_iload hx hb dX11_pass_67 (lv_at hl 0 rfl) ?_
          refine lv_iconst (v := 4) hx hb dX11_pass_69 (by decide) ?_
          refine lv_icmp_ge (tgt := 87) hx hb dX11_pass_70 (by decide) (fun hc => absurd hc (by decide)) (fun _ => ?_)
          refine lv_aload_n hx hb dX11_pass_73 rfl (lv_at hl 2 rfl) ?_
          refine nb_getr hA hx hb hT hK hown hW fl_X11_37 hF.1 (v := .ref (A 6)) rfl dX11_pass_74 ?_
          refine lv_iload hx hb dX11_pass_77 (lv_at hl 0 rfl) ?_
          refine lv_iconst (v := 0) hx hb dX11_pass_79 (by decide) ?_
          obtain ⟨f36, hf36⟩ := hF.2.2.1
          refine nb_iastr hA hx hb hK hW hS 0 hf36 rfl (inb_in (by decide)) dX11_pass_80 (fun H locs G35 hEG35 hcG35 hW hS => ?_)
          replace hF := hF.teach hEG35 hcG35
          refine lv_iinc (v := 1) (lv' := [(5, .int 1), (4, .int 0), (0, .ref (A 0)), (1, .int x1), (2, .int x2), (3, .int x3)]) hx hb dX11_pass_81 hl (k := 0) rfl (by decide) (by decide) rfl (fun ls hl => ?_)
          refine lv_goto (tgt := 67) hx hb dX11_pass_84 (by decide) ?_
          refine lv_iload hx hb dX11_pass_67 (lv_at hl 0 rfl) ?_
          refine lv_iconst (v := 4) hx hb dX11_pass_69 (by decide) ?_
          refine lv_icmp_ge (tgt := 87) hx hb dX11_pass_70 (by decide) (fun hc => absurd hc (by decide)) (fun _ => ?_)
          refine lv_aload_n hx hb dX11_pass_73 rfl (lv_at hl 2 rfl) ?_
          refine nb_getr hA hx hb hT hK hown hW fl_X11_37 hF.1 (v := .ref (A 6)) rfl dX11_pass_74 ?_
          refine lv_iload hx hb dX11_pass_77 (lv_at hl 0 rfl) ?_
          refine lv_iconst (v := 0) hx hb dX11_pass_79 (by decide) ?_
          obtain ⟨f38, hf38⟩ := hF.2.2.1
          refine nb_iastr hA hx hb hK hW hS 0 hf38 rfl (inb_in (by decide)) dX11_pass_80 (fun H locs G37 hEG37 hcG37 hW hS => ?_)
          replace hF := hF.teach hEG37 hcG37
          refine lv_iinc (v := 2) (lv' := [(5, .int 2), (4, .int 0), (0, .ref (A 0)), (1, .int x1), (2, .int x2), (3, .int x3)]) hx hb dX11_pass_81 hl (k := 0) rfl (by decide) (by decide) rfl (fun ls hl => ?_)
          refine lv_goto (tgt := 67) hx hb dX11_pass_84 (by decide) ?_
          refine lv_iload hx hb dX11_pass_67 (lv_at hl 0 rfl) ?_
          refine lv_iconst (v := 4) hx hb dX11_pass_69 (by decide) ?_
          refine lv_icmp_ge (tgt := 87) hx hb dX11_pass_70 (by decide) (fun hc => absurd hc (by decide)) (fun _ => ?_)
          refine lv_aload_n hx hb dX11_pass_73 rfl (lv_at hl 2 rfl) ?_
          refine nb_getr hA hx hb hT hK hown hW fl_X11_37 hF.1 (v := .ref (A 6)) rfl dX11_pass_74 ?_
          refine lv_iload hx hb dX11_pass_77 (lv_at hl 0 rfl) ?_
          refine lv_iconst (v := 0) hx hb dX11_pass_79 (by decide) ?_
          obtain ⟨f40, hf40⟩ := hF.2.2.1
          refine nb_iastr hA hx hb hK hW hS 0 hf40 rfl (inb_in (by decide)) dX11_pass_80 (fun H locs G39 hEG39 hcG39 hW hS => ?_)
          replace hF := hF.teach hEG39 hcG39
          refine lv_iinc (v := 3) (lv' := [(5, .int 3), (4, .int 0), (0, .ref (A 0)), (1, .int x1), (2, .int x2), (3, .int x3)]) hx hb dX11_pass_81 hl (k := 0) rfl (by decide) (by decide) rfl (fun ls hl => ?_)
          refine lv_goto (tgt := 67) hx hb dX11_pass_84 (by decide) ?_
          refine lv_iload hx hb dX11_pass_67 (lv_at hl 0 rfl) ?_
          refine lv_iconst (v := 4) hx hb dX11_pass_69 (by decide) ?_
          refine lv_icmp_ge (tgt := 87) hx hb dX11_pass_70 (by decide) (fun hc => absurd hc (by decide)) (fun _ => ?_)
          refine lv_aload_n hx hb dX11_pass_73 rfl (lv_at hl 2 rfl) ?_
          refine nb_getr hA hx hb hT hK hown hW fl_X11_37 hF.1 (v := .ref (A 6)) rfl dX11_pass_74 ?_
          refine lv_iload hx hb dX11_pass_77 (lv_at hl 0 rfl) ?_
          refine lv_iconst (v := 0) hx hb dX11_pass_79 (by decide) ?_
          obtain ⟨f42, hf42⟩ := hF.2.2.1
          refine nb_iastr hA hx hb hK hW hS 0 hf42 rfl (inb_in (by decide)) dX11_pass_80 (fun H locs G41 hEG41 hcG41 hW hS => ?_)
          replace hF := hF.teach hEG41 hcG41
          refine lv_iinc (v := 4) (lv' := [(5, .int 4), (4, .int 0), (0, .ref (A 0)), (1, .int x1), (2, .int x2), (3, .int x3)]) hx hb dX11_pass_81 hl (k := 0) rfl (by decide) (by decide) rfl (fun ls hl => ?_)
          refine lv_goto (tgt := 67) hx hb dX11_pass_84 (by decide) ?_
          refine lv_iload hx hb dX11_pass_67 (lv_at hl 0 rfl) ?_
          refine lv_iconst (v := 4) hx hb dX11_pass_69 (by decide) ?_
          refine lv_icmp_ge (tgt := 87) hx hb dX11_pass_70 (by decide) (fun _ => ?_) (fun hc => absurd (by decide) hc)
          refine lv_aload_n hx hb dX11_pass_87 rfl (lv_at hl 2 rfl) ?_
          refine lv_iconst (v := 0) hx hb dX11_pass_88 (by decide) ?_
          obtain ⟨u43, eu43, h⟩ := nm_s h
          refine nb_putr hA hx hb hT hK hown hW hS fl_X11_216 tyX11 tyX11_ok nmX11 hF.1 (v := .int 0) rfl rfl rfl (Nat.le_of_ble_eq_true rfl) dX11_pass_89 (fun H locs G44 hEG44 hcG44 hW hS => ?_)
          replace hF := hF.put (M' := u43) hEG44 hcG44 (by rw [eu43]; rfl) (by rw [eu43]; rfl)
          replace hw : fmO u43 = fmO M := by rw [eu43]; exact hw
          refine lv_aload_n hx hb dX11_pass_92 rfl (lv_at hl 2 rfl) ?_
          refine lv_dup hx hb dX11_pass_93 rfl ?_
          refine nb_getr hA hx hb hT hK hown hW fl_X11_210 hF.1 (v := .int (u43 11 0 0)) rfl dX11_pass_94 ?_
          refine lv_iconst (v := 1) hx hb dX11_pass_97 (by decide) ?_
          refine lv_iadd hx hb dX11_pass_98 ?_
          obtain ⟨u45, eu45, h⟩ := nm_s h
          refine nb_putr hA hx hb hT hK hown hW hS fl_X11_210 tyX11 tyX11_ok nmX11 hF.1 (v := .int ((u43 11 0 0) + 1)) rfl rfl rfl (Nat.le_of_ble_eq_true rfl) dX11_pass_99 (fun H locs G46 hEG46 hcG46 hW hS => ?_)
          replace hF := hF.put (M' := u45) hEG46 hcG46 (by rw [eu45]; rfl) (by rw [eu45]; rfl)
          replace hw : fmO u45 = fmO M := by rw [eu45]; exact hw
          refine lv_iinc (v := 1) (lv' := [(4, .int 1), (5, .int 4), (0, .ref (A 0)), (1, .int x1), (2, .int x2), (3, .int x3)]) hx hb dX11_pass_102 hl (k := 1) rfl (by decide) (by decide) rfl (fun ls hl => ?_)
          refine lv_goto (tgt := 48) hx hb dX11_pass_105 (by decide) ?_
          refine lv_iload hx hb dX11_pass_48 (lv_at hl 0 rfl) ?_
          refine lv_iload_n hx hb dX11_pass_50 rfl (lv_at hl 3 rfl) ?_
          refine lv_icmp_ge (tgt := 108) hx hb dX11_pass_51 (by decide) (fun c47 => ?_) (fun c47 => ?_)
          · replace h := ite_t h c47
            refine lv_aload_n hx hb dX11_pass_108 rfl (lv_at hl 2 rfl) ?_
            refine nb_getr hA hx hb hT hK hown hW fl_X11_210 hF.1 (v := .int (u45 11 0 0)) rfl dX11_pass_109 ?_
            refine W.widen (k := 60) (n := 240) (Nat.le_of_ble_eq_true rfl) (Nat.le_of_ble_eq_true rfl) ?_
            exact fm_iw hx hb hr rfl hlocks hW (hF.w hw) hS dX11_pass_112 h
          · replace h := ite_f h c47
            refine lv_aload_n hx hb dX11_pass_54 rfl (lv_at hl 2 rfl) ?_
            obtain ⟨_, h48, h⟩ := ob_s h
            refine fm_cv (nb_runVr (As := []) (rest := []) hA hx hb hml hown hSW hS hW (m_X11_forget l z ad _ hA A u45 hF h48) mf_X11_forget lk_X11_233 hF.1 rfl rfl ⟨rfl, rfl⟩ ⟨Nat.le_of_ble_eq_true rfl, Nat.le_of_ble_eq_true rfl⟩ hl.1 (Nat.le_of_ble_eq_true rfl) dX11_pass_55 ⟨Nat.le_of_ble_eq_true rfl, Nat.le_of_ble_eq_true rfl⟩) hS (fun H locs G50 hEG50 hW hS => ?_)
            replace hF := hF.ext0 hEG50
            refine lv_aload_n hx hb dX11_pass_58 rfl (lv_at hl 2 rfl) ?_
            refine lv_iload_n hx hb dX11_pass_59 rfl (lv_at hl 4 rfl) ?_
            refine lv_iload_n hx hb dX11_pass_60 rfl (lv_at hl 5 rfl) ?_
            obtain ⟨_, h51, h⟩ := ob_s h
            refine fm_cv (nb_runVr (As := [.int x2, .int x3]) (rest := []) hA hx hb hml hown hSW hS hW (m_X11_weather l z ad _ hA A u45 hF x2 x3 h51) mf_X11_weather lk_X11_236 hF.1 rfl rfl ⟨rfl, rfl⟩ ⟨Nat.le_of_ble_eq_true rfl, Nat.le_of_ble_eq_true rfl⟩ hl.1 (Nat.le_of_ble_eq_true rfl) dX11_pass_61 ⟨Nat.le_of_ble_eq_true rfl, Nat.le_of_ble_eq_true rfl⟩) hS (fun H locs G53 hEG53 hW hS => ?_)
            replace hF := hF.ext0 hEG53
            refine lv_iconst (v := 0) hx hb dX11_pass_64 (by decide) ?_
            refine lv_istore (lv' := [(5, .int 0), (4, .int 1), (0, .ref (A 0)), (1, .int x1), (2, .int x2), (3, .int x3)]) hx hb dX11_pass_65 hl (by decide) rfl (fun ls hl => ?_)
            refine lv_iload hx hb dX11_pass_67 (lv_at hl 0 rfl) ?_
            refine lv_iconst (v := 4) hx hb dX11_pass_69 (by decide) ?_
            refine lv_icmp_ge (tgt := 87) hx hb dX11_pass_70 (by decide) (fun hc => absurd hc (by decide)) (fun _ => ?_)
            refine lv_aload_n hx hb dX11_pass_73 rfl (lv_at hl 2 rfl) ?_
            refine nb_getr hA hx hb hT hK hown hW fl_X11_37 hF.1 (v := .ref (A 6)) rfl dX11_pass_74 ?_
            refine lv_iload hx hb dX11_pass_77 (lv_at hl 0 rfl) ?_
            refine lv_iconst (v := 0) hx hb dX11_pass_79 (by decide) ?_
            obtain ⟨f55, hf55⟩ := hF.2.2.1
            refine nb_iastr hA hx hb hK hW hS 0 hf55 rfl (inb_in (by decide)) dX11_pass_80 (fun H locs G54 hEG54 hcG54 hW hS => ?_)
            replace hF := hF.teach hEG54 hcG54
            refine lv_iinc (v := 1) (lv' := [(5, .int 1), (4, .int 1), (0, .ref (A 0)), (1, .int x1), (2, .int x2), (3, .int x3)]) hx hb dX11_pass_81 hl (k := 0) rfl (by decide) (by decide) rfl (fun ls hl => ?_)
            refine lv_goto (tgt := 67) hx hb dX11_pass_84 (by decide) ?_
            refine lv_iload hx hb dX11_pass_67 (lv_at hl 0 rfl) ?_
            refine lv_iconst (v := 4) hx hb dX11_pass_69 (by decide) ?_
            refine lv_icmp_ge (tgt := 87) hx hb dX11_pass_70 (by decide) (fun hc => absurd hc (by decide)) (fun _ => ?_)
            refine lv_aload_n hx hb dX11_pass_73 rfl (lv_at hl 2 rfl) ?_
            refine nb_getr hA hx hb hT hK hown hW fl_X11_37 hF.1 (v := .ref (A 6)) rfl dX11_pass_74 ?_
            refine lv_iload hx hb dX11_pass_77 (lv_at hl 0 rfl) ?_
            refine lv_iconst (v := 0) hx hb dX11_pass_79 (by decide) ?_
            obtain ⟨f57, hf57⟩ := hF.2.2.1
            refine nb_iastr hA hx hb hK hW hS 0 hf57 rfl (inb_in (by decide)) dX11_pass_80 (fun H locs G56 hEG56 hcG56 hW hS => ?_)
            replace hF := hF.teach hEG56 hcG56
            refine lv_iinc (v := 2) (lv' := [(5, .int 2), (4, .int 1), (0, .ref (A 0)), (1, .int x1), (2, .int x2), (3, .int x3)]) hx hb dX11_pass_81 hl (k := 0) rfl (by decide) (by decide) rfl (fun ls hl => ?_)
            refine lv_goto (tgt := 67) hx hb dX11_pass_84 (by decide) ?_
            refine lv_iload hx hb dX11_pass_67 (lv_at hl 0 rfl) ?_
            refine lv_iconst (v := 4) hx hb dX11_pass_69 (by decide) ?_
            refine lv_icmp_ge (tgt := 87) hx hb dX11_pass_70 (by decide) (fun hc => absurd hc (by decide)) (fun _ => ?_)
            refine lv_aload_n hx hb dX11_pass_73 rfl (lv_at hl 2 rfl) ?_
            refine nb_getr hA hx hb hT hK hown hW fl_X11_37 hF.1 (v := .ref (A 6)) rfl dX11_pass_74 ?_
            refine lv_iload hx hb dX11_pass_77 (lv_at hl 0 rfl) ?_
            refine lv_iconst (v := 0) hx hb dX11_pass_79 (by decide) ?_
            obtain ⟨f59, hf59⟩ := hF.2.2.1
            refine nb_iastr hA hx hb hK hW hS 0 hf59 rfl (inb_in (by decide)) dX11_pass_80 (fun H locs G58 hEG58 hcG58 hW hS => ?_)
            replace hF := hF.teach hEG58 hcG58
            refine lv_iinc (v := 3) (lv' := [(5, .int 3), (4, .int 1), (0, .ref (A 0)), (1, .int x1), (2, .int x2), (3, .int x3)]) hx hb dX11_pass_81 hl (k := 0) rfl (by decide) (by decide) rfl (fun ls hl => ?_)
            refine lv_goto (tgt := 67) hx hb dX11_pass_84 (by decide) ?_
            refine lv_iload hx hb dX11_pass_67 (lv_at hl 0 rfl) ?_
            refine lv_iconst (v := 4) hx hb dX11_pass_69 (by decide) ?_
            refine lv_icmp_ge (tgt := 87) hx hb dX11_pass_70 (by decide) (fun hc => absurd hc (by decide)) (fun _ => ?_)
            refine lv_aload_n hx hb dX11_pass_73 rfl (lv_at hl 2 rfl) ?_
            refine nb_getr hA hx hb hT hK hown hW fl_X11_37 hF.1 (v := .ref (A 6)) rfl dX11_pass_74 ?_
            refine lv_iload hx hb dX11_pass_77 (lv_at hl 0 rfl) ?_
            refine lv_iconst (v := 0) hx hb dX11_pass_79 (by decide) ?_
            obtain ⟨f61, hf61⟩ := hF.2.2.1
            refine nb_iastr hA hx hb hK hW hS 0 hf61 rfl (inb_in (by decide)) dX11_pass_80 (fun H locs G60 hEG60 hcG60 hW hS => ?_)
            replace hF := hF.teach hEG60 hcG60
            refine lv_iinc (v := 4) (lv' := [(5, .int 4), (4, .int 1), (0, .ref (A 0)), (1, .int x1), (2, .int x2), (3, .int x3)]) hx hb dX11_pass_81 hl (k := 0) rfl (by decide) (by decide) rfl (fun ls hl => ?_)
            refine lv_goto (tgt := 67) hx hb dX11_pass_84 (by decide) ?_
            refine lv_iload hx hb dX11_pass_67 (lv_at hl 0 rfl) ?_
            refine lv_iconst (v := 4) hx hb dX11_pass_69 (by decide) ?_
            refine lv_icmp_ge (tgt := 87) hx hb dX11_pass_70 (by decide) (fun _ => ?_) (fun hc => absurd (by decide) hc)
            refine lv_aload_n hx hb dX11_pass_87 rfl (lv_at hl 2 rfl) ?_
            refine lv_iconst (v := 0) hx hb dX11_pass_88 (by decide) ?_
            obtain ⟨u62, eu62, h⟩ := nm_s h
            refine nb_putr hA hx hb hT hK hown hW hS fl_X11_216 tyX11 tyX11_ok nmX11 hF.1 (v := .int 0) rfl rfl rfl (Nat.le_of_ble_eq_true rfl) dX11_pass_89 (fun H locs G63 hEG63 hcG63 hW hS => ?_)
            replace hF := hF.put (M' := u62) hEG63 hcG63 (by rw [eu62]; rfl) (by rw [eu62]; rfl)
            replace hw : fmO u62 = fmO M := by rw [eu62]; exact hw
            refine lv_aload_n hx hb dX11_pass_92 rfl (lv_at hl 2 rfl) ?_
            refine lv_dup hx hb dX11_pass_93 rfl ?_
            refine nb_getr hA hx hb hT hK hown hW fl_X11_210 hF.1 (v := .int (u62 11 0 0)) rfl dX11_pass_94 ?_
            refine lv_iconst (v := 1) hx hb dX11_pass_97 (by decide) ?_
            refine lv_iadd hx hb dX11_pass_98 ?_
            obtain ⟨u64, eu64, h⟩ := nm_s h
            refine nb_putr hA hx hb hT hK hown hW hS fl_X11_210 tyX11 tyX11_ok nmX11 hF.1 (v := .int ((u62 11 0 0) + 1)) rfl rfl rfl (Nat.le_of_ble_eq_true rfl) dX11_pass_99 (fun H locs G65 hEG65 hcG65 hW hS => ?_)
            replace hF := hF.put (M' := u64) hEG65 hcG65 (by rw [eu64]; rfl) (by rw [eu64]; rfl)
            replace hw : fmO u64 = fmO M := by rw [eu64]; exact hw
            refine lv_iinc (v := 2) (lv' := [(4, .int 2), (5, .int 4), (0, .ref (A 0)), (1, .int x1), (2, .int x2), (3, .int x3)]) hx hb dX11_pass_102 hl (k := 1) rfl (by decide) (by decide) rfl (fun ls hl => ?_)
            refine lv_goto (tgt := 48) hx hb dX11_pass_105 (by decide) ?_
            refine lv_iload hx hb dX11_pass_48 (lv_at hl 0 rfl) ?_
            refine lv_iload_n hx hb dX11_pass_50 rfl (lv_at hl 3 rfl) ?_
            refine lv_icmp_ge (tgt := 108) hx hb dX11_pass_51 (by decide) (fun c66 => ?_) (fun c66 => ?_)
            · replace h := ite_t h c66
              refine lv_aload_n hx hb dX11_pass_108 rfl (lv_at hl 2 rfl) ?_
              refine nb_getr hA hx hb hT hK hown hW fl_X11_210 hF.1 (v := .int (u64 11 0 0)) rfl dX11_pass_109 ?_
              refine W.widen (k := 60) (n := 240) (Nat.le_of_ble_eq_true rfl) (Nat.le_of_ble_eq_true rfl) ?_
              exact fm_iw hx hb hr rfl hlocks hW (hF.w hw) hS dX11_pass_112 h
            · replace h := ite_f h c66
              refine lv_aload_n hx hb dX11_pass_54 rfl (lv_at hl 2 rfl) ?_
              obtain ⟨_, h67, h⟩ := ob_s h
              refine fm_cv (nb_runVr (As := []) (rest := []) hA hx hb hml hown hSW hS hW (m_X11_forget l z ad _ hA A u64 hF h67) mf_X11_forget lk_X11_233 hF.1 rfl rfl ⟨rfl, rfl⟩ ⟨Nat.le_of_ble_eq_true rfl, Nat.le_of_ble_eq_true rfl⟩ hl.1 (Nat.le_of_ble_eq_true rfl) dX11_pass_55 ⟨Nat.le_of_ble_eq_true rfl, Nat.le_of_ble_eq_true rfl⟩) hS (fun H locs G69 hEG69 hW hS => ?_)
              replace hF := hF.ext0 hEG69
              refine lv_aload_n hx hb dX11_pass_58 rfl (lv_at hl 2 rfl) ?_
              refine lv_iload_n hx hb dX11_pass_59 rfl (lv_at hl 4 rfl) ?_
              refine lv_iload_n hx hb dX11_pass_60 rfl (lv_at hl 5 rfl) ?_
              obtain ⟨_, h70, h⟩ := ob_s h
              refine fm_cv (nb_runVr (As := [.int x2, .int x3]) (rest := []) hA hx hb hml hown hSW hS hW (m_X11_weather l z ad _ hA A u64 hF x2 x3 h70) mf_X11_weather lk_X11_236 hF.1 rfl rfl ⟨rfl, rfl⟩ ⟨Nat.le_of_ble_eq_true rfl, Nat.le_of_ble_eq_true rfl⟩ hl.1 (Nat.le_of_ble_eq_true rfl) dX11_pass_61 ⟨Nat.le_of_ble_eq_true rfl, Nat.le_of_ble_eq_true rfl⟩) hS (fun H locs G72 hEG72 hW hS => ?_)
              replace hF := hF.ext0 hEG72
              refine lv_iconst (v := 0) hx hb dX11_pass_64 (by decide) ?_
              refine lv_istore (lv' := [(5, .int 0), (4, .int 2), (0, .ref (A 0)), (1, .int x1), (2, .int x2), (3, .int x3)]) hx hb dX11_pass_65 hl (by decide) rfl (fun ls hl => ?_)
              refine lv_iload hx hb dX11_pass_67 (lv_at hl 0 rfl) ?_
              refine lv_iconst (v := 4) hx hb dX11_pass_69 (by decide) ?_
              refine lv_icmp_ge (tgt := 87) hx hb dX11_pass_70 (by decide) (fun hc => absurd hc (by decide)) (fun _ => ?_)
              refine lv_aload_n hx hb dX11_pass_73 rfl (lv_at hl 2 rfl) ?_
              refine nb_getr hA hx hb hT hK hown hW fl_X11_37 hF.1 (v := .ref (A 6)) rfl dX11_pass_74 ?_
              refine lv_iload hx hb dX11_pass_77 (lv_at hl 0 rfl) ?_
              refine lv_iconst (v := 0) hx hb dX11_pass_79 (by decide) ?_
              obtain ⟨f74, hf74⟩ := hF.2.2.1
              refine nb_iastr hA hx hb hK hW hS 0 hf74 rfl (inb_in (by decide)) dX11_pass_80 (fun H locs G73 hEG73 hcG73 hW hS => ?_)
              replace hF := hF.teach hEG73 hcG73
              refine lv_iinc (v := 1) (lv' := [(5, .int 1), (4, .int 2), (0, .ref (A 0)), (1, .int x1), (2, .int x2), (3, .int x3)]) hx hb dX11_pass_81 hl (k := 0) rfl (by decide) (by decide) rfl (fun ls hl => ?_)
              refine lv_goto (tgt := 67) hx hb dX11_pass_84 (by decide) ?_
              refine lv_iload hx hb dX11_pass_67 (lv_at hl 0 rfl) ?_
              refine lv_iconst (v := 4) hx hb dX11_pass_69 (by decide) ?_
              refine lv_icmp_ge (tgt := 87) hx hb dX11_pass_70 (by decide) (fun hc => absurd hc (by decide)) (fun _ => ?_)
              refine lv_aload_n hx hb dX11_pass_73 rfl (lv_at hl 2 rfl) ?_
              refine nb_getr hA hx hb hT hK hown hW fl_X11_37 hF.1 (v := .ref (A 6)) rfl dX11_pass_74 ?_
              refine lv_iload hx hb dX11_pass_77 (lv_at hl 0 rfl) ?_
              refine lv_iconst (v := 0) hx hb dX11_pass_79 (by decide) ?_
              obtain ⟨f76, hf76⟩ := hF.2.2.1
              refine nb_iastr hA hx hb hK hW hS 0 hf76 rfl (inb_in (by decide)) dX11_pass_80 (fun H locs G75 hEG75 hcG75 hW hS => ?_)
              replace hF := hF.teach hEG75 hcG75
              refine lv_iinc (v := 2) (lv' := [(5, .int 2), (4, .int 2), (0, .ref (A 0)), (1, .int x1), (2, .int x2), (3, .int x3)]) hx hb dX11_pass_81 hl (k := 0) rfl (by decide) (by decide) rfl (fun ls hl => ?_)
              refine lv_goto (tgt := 67) hx hb dX11_pass_84 (by decide) ?_
              refine lv_iload hx hb dX11_pass_67 (lv_at hl 0 rfl) ?_
              refine lv_iconst (v := 4) hx hb dX11_pass_69 (by decide) ?_
              refine lv_icmp_ge (tgt := 87) hx hb dX11_pass_70 (by decide) (fun hc => absurd hc (by decide)) (fun _ => ?_)
              refine lv_aload_n hx hb dX11_pass_73 rfl (lv_at hl 2 rfl) ?_
              refine nb_getr hA hx hb hT hK hown hW fl_X11_37 hF.1 (v := .ref (A 6)) rfl dX11_pass_74 ?_
              refine lv_iload hx hb dX11_pass_77 (lv_at hl 0 rfl) ?_
              refine lv_iconst (v := 0) hx hb dX11_pass_79 (by decide) ?_
              obtain ⟨f78, hf78⟩ := hF.2.2.1
              refine nb_iastr hA hx hb hK hW hS 0 hf78 rfl (inb_in (by decide)) dX11_pass_80 (fun H locs G77 hEG77 hcG77 hW hS => ?_)
              replace hF := hF.teach hEG77 hcG77
              refine lv_iinc (v := 3) (lv' := [(5, .int 3), (4, .int 2), (0, .ref (A 0)), (1, .int x1), (2, .int x2), (3, .int x3)]) hx hb dX11_pass_81 hl (k := 0) rfl (by decide) (by decide) rfl (fun ls hl => ?_)
              refine lv_goto (tgt := 67) hx hb dX11_pass_84 (by decide) ?_
              refine lv_iload hx hb dX11_pass_67 (lv_at hl 0 rfl) ?_
              refine lv_iconst (v := 4) hx hb dX11_pass_69 (by decide) ?_
              refine lv_icmp_ge (tgt := 87) hx hb dX11_pass_70 (by decide) (fun hc => absurd hc (by decide)) (fun _ => ?_)
              refine lv_aload_n hx hb dX11_pass_73 rfl (lv_at hl 2 rfl) ?_
              refine nb_getr hA hx hb hT hK hown hW fl_X11_37 hF.1 (v := .ref (A 6)) rfl dX11_pass_74 ?_
              refine lv_iload hx hb dX11_pass_77 (lv_at hl 0 rfl) ?_
              refine lv_iconst (v := 0) hx hb dX11_pass_79 (by decide) ?_
              obtain ⟨f80, hf80⟩ := hF.2.2.1
              refine nb_iastr hA hx hb hK hW hS 0 hf80 rfl (inb_in (by decide)) dX11_pass_80 (fun H locs G79 hEG79 hcG79 hW hS => ?_)
              replace hF := hF.teach hEG79 hcG79
              refine lv_iinc (v := 4) (lv' := [(5, .int 4), (4, .int 2), (0, .ref (A 0)), (1, .int x1), (2, .int x2), (3, .int x3)]) hx hb dX11_pass_81 hl (k := 0) rfl (by decide) (by decide) rfl (fun ls hl => ?_)
              refine lv_goto (tgt := 67) hx hb dX11_pass_84 (by decide) ?_
              refine lv_iload hx hb dX11_pass_67 (lv_at hl 0 rfl) ?_
              refine lv_iconst (v := 4) hx hb dX11_pass_69 (by decide) ?_
              refine lv_icmp_ge (tgt := 87) hx hb dX11_pass_70 (by decide) (fun _ => ?_) (fun hc => absurd (by decide) hc)
              refine lv_aload_n hx hb dX11_pass_87 rfl (lv_at hl 2 rfl) ?_
              refine lv_iconst (v := 0) hx hb dX11_pass_88 (by decide) ?_
              obtain ⟨u81, eu81, h⟩ := nm_s h
              refine nb_putr hA hx hb hT hK hown hW hS fl_X11_216 tyX11 tyX11_ok nmX11 hF.1 (v := .int 0) rfl rfl rfl (Nat.le_of_ble_eq_true rfl) dX11_pass_89 (fun H locs G82 hEG82 hcG82 hW hS => ?_)
              replace hF := hF.put (M' := u81) hEG82 hcG82 (by rw [eu81]; rfl) (by rw [eu81]; rfl)
              replace hw : fmO u81 = fmO M := by rw [eu81]; exact hw
              refine lv_aload_n hx hb dX11_pass_92 rfl (lv_at hl 2 rfl) ?_
              refine lv_dup hx hb dX11_pass_93 rfl ?_
              refine nb_getr hA hx hb hT hK hown hW fl_X11_210 hF.1 (v := .int (u81 11 0 0)) rfl dX11_pass_94 ?_
              refine lv_iconst (v := 1) hx hb dX11_pass_97 (by decide) ?_
              refine lv_iadd hx hb dX11_pass_98 ?_
              obtain ⟨u83, eu83, h⟩ := nm_s h
              refine nb_putr hA hx hb hT hK hown hW hS fl_X11_210 tyX11 tyX11_ok nmX11 hF.1 (v := .int ((u81 11 0 0) + 1)) rfl rfl rfl (Nat.le_of_ble_eq_true rfl) dX11_pass_99 (fun H locs G84 hEG84 hcG84 hW hS => ?_)
              replace hF := hF.put (M' := u83) hEG84 hcG84 (by rw [eu83]; rfl) (by rw [eu83]; rfl)
              replace hw : fmO u83 = fmO M := by rw [eu83]; exact hw
              refine lv_iinc (v := 3) (lv' := [(4, .int 3), (5, .int 4), (0, .ref (A 0)), (1, .int x1), (2, .int x2), (3, .int x3)]) hx hb dX11_pass_102 hl (k := 1) rfl (by decide) (by decide) rfl (fun ls hl => ?_)
              refine lv_goto (tgt := 48) hx hb dX11_pass_105 (by decide) ?_
              refine lv_iload hx hb dX11_pass_48 (lv_at hl 0 rfl) ?_
              refine lv_iload_n hx hb dX11_pass_50 rfl (lv_at hl 3 rfl) ?_
              refine lv_icmp_ge (tgt := 108) hx hb dX11_pass_51 (by decide) (fun c85 => ?_) (fun c85 => ?_)
              · replace h := ite_t h c85
                refine lv_aload_n hx hb dX11_pass_108 rfl (lv_at hl 2 rfl) ?_
                refine nb_getr hA hx hb hT hK hown hW fl_X11_210 hF.1 (v := .int (u83 11 0 0)) rfl dX11_pass_109 ?_
                refine W.widen (k := 60) (n := 240) (Nat.le_of_ble_eq_true rfl) (Nat.le_of_ble_eq_true rfl) ?_
                exact fm_iw hx hb hr rfl hlocks hW (hF.w hw) hS dX11_pass_112 h
              · replace h := ite_f h c85
                refine lv_aload_n hx hb dX11_pass_54 rfl (lv_at hl 2 rfl) ?_
                obtain ⟨_, h86, h⟩ := ob_s h
                refine fm_cv (nb_runVr (As := []) (rest := []) hA hx hb hml hown hSW hS hW (m_X11_forget l z ad _ hA A u83 hF h86) mf_X11_forget lk_X11_233 hF.1 rfl rfl ⟨rfl, rfl⟩ ⟨Nat.le_of_ble_eq_true rfl, Nat.le_of_ble_eq_true rfl⟩ hl.1 (Nat.le_of_ble_eq_true rfl) dX11_pass_55 ⟨Nat.le_of_ble_eq_true rfl, Nat.le_of_ble_eq_true rfl⟩) hS (fun H locs G88 hEG88 hW hS => ?_)
                replace hF := hF.ext0 hEG88
                refine lv_aload_n hx hb dX11_pass_58 rfl (lv_at hl 2 rfl) ?_
                refine lv_iload_n hx hb dX11_pass_59 rfl (lv_at hl 4 rfl) ?_
                refine lv_iload_n hx hb dX11_pass_60 rfl (lv_at hl 5 rfl) ?_
                obtain ⟨_, h89, h⟩ := ob_s h
                refine fm_cv (nb_runVr (As := [.int x2, .int x3]) (rest := []) hA hx hb hml hown hSW hS hW (m_X11_weather l z ad _ hA A u83 hF x2 x3 h89) mf_X11_weather lk_X11_236 hF.1 rfl rfl ⟨rfl, rfl⟩ ⟨Nat.le_of_ble_eq_true rfl, Nat.le_of_ble_eq_true rfl⟩ hl.1 (Nat.le_of_ble_eq_true rfl) dX11_pass_61 ⟨Nat.le_of_ble_eq_true rfl, Nat.le_of_ble_eq_true rfl⟩) hS (fun H locs G91 hEG91 hW hS => ?_)
                replace hF := hF.ext0 hEG91
                refine lv_iconst (v := 0) hx hb dX11_pass_64 (by decide) ?_
                refine lv_istore (lv' := [(5, .int 0), (4, .int 3), (0, .ref (A 0)), (1, .int x1), (2, .int x2), (3, .int x3)]) hx hb dX11_pass_65 hl (by decide) rfl (fun ls hl => ?_)
                refine lv_iload hx hb dX11_pass_67 (lv_at hl 0 rfl) ?_
                refine lv_iconst (v := 4) hx hb dX11_pass_69 (by decide) ?_
                refine lv_icmp_ge (tgt := 87) hx hb dX11_pass_70 (by decide) (fun hc => absurd hc (by decide)) (fun _ => ?_)
                refine lv_aload_n hx hb dX11_pass_73 rfl (lv_at hl 2 rfl) ?_
                refine nb_getr hA hx hb hT hK hown hW fl_X11_37 hF.1 (v := .ref (A 6)) rfl dX11_pass_74 ?_
                refine lv_iload hx hb dX11_pass_77 (lv_at hl 0 rfl) ?_
                refine lv_iconst (v := 0) hx hb dX11_pass_79 (by decide) ?_
                obtain ⟨f93, hf93⟩ := hF.2.2.1
                refine nb_iastr hA hx hb hK hW hS 0 hf93 rfl (inb_in (by decide)) dX11_pass_80 (fun H locs G92 hEG92 hcG92 hW hS => ?_)
                replace hF := hF.teach hEG92 hcG92
                refine lv_iinc (v := 1) (lv' := [(5, .int 1), (4, .int 3), (0, .ref (A 0)), (1, .int x1), (2, .int x2), (3, .int x3)]) hx hb dX11_pass_81 hl (k := 0) rfl (by decide) (by decide) rfl (fun ls hl => ?_)
                refine lv_goto (tgt := 67) hx hb dX11_pass_84 (by decide) ?_
                refine lv_iload hx hb dX11_pass_67 (lv_at hl 0 rfl) ?_
                refine lv_iconst (v := 4) hx hb dX11_pass_69 (by decide) ?_
                refine lv_icmp_ge (tgt := 87) hx hb dX11_pass_70 (by decide) (fun hc => absurd hc (by decide)) (fun _ => ?_)
                refine lv_aload_n hx hb dX11_pass_73 rfl (lv_at hl 2 rfl) ?_
                refine nb_getr hA hx hb hT hK hown hW fl_X11_37 hF.1 (v := .ref (A 6)) rfl dX11_pass_74 ?_
                refine lv_iload hx hb dX11_pass_77 (lv_at hl 0 rfl) ?_
                refine lv_iconst (v := 0) hx hb dX11_pass_79 (by decide) ?_
                obtain ⟨f95, hf95⟩ := hF.2.2.1
                refine nb_iastr hA hx hb hK hW hS 0 hf95 rfl (inb_in (by decide)) dX11_pass_80 (fun H locs G94 hEG94 hcG94 hW hS => ?_)
                replace hF := hF.teach hEG94 hcG94
                refine lv_iinc (v := 2) (lv' := [(5, .int 2), (4, .int 3), (0, .ref (A 0)), (1, .int x1), (2, .int x2), (3, .int x3)]) hx hb dX11_pass_81 hl (k := 0) rfl (by decide) (by decide) rfl (fun ls hl => ?_)
                refine lv_goto (tgt := 67) hx hb dX11_pass_84 (by decide) ?_
                refine lv_iload hx hb dX11_pass_67 (lv_at hl 0 rfl) ?_
                refine lv_iconst (v := 4) hx hb dX11_pass_69 (by decide) ?_
                refine lv_icmp_ge (tgt := 87) hx hb dX11_pass_70 (by decide) (fun hc => absurd hc (by decide)) (fun _ => ?_)
                refine lv_aload_n hx hb dX11_pass_73 rfl (lv_at hl 2 rfl) ?_
                refine nb_getr hA hx hb hT hK hown hW fl_X11_37 hF.1 (v := .ref (A 6)) rfl dX11_pass_74 ?_
                refine lv_iload hx hb dX11_pass_77 (lv_at hl 0 rfl) ?_
                refine lv_iconst (v := 0) hx hb dX11_pass_79 (by decide) ?_
                obtain ⟨f97, hf97⟩ := hF.2.2.1
                refine nb_iastr hA hx hb hK hW hS 0 hf97 rfl (inb_in (by decide)) dX11_pass_80 (fun H locs G96 hEG96 hcG96 hW hS => ?_)
                replace hF := hF.teach hEG96 hcG96
                refine lv_iinc (v := 3) (lv' := [(5, .int 3), (4, .int 3), (0, .ref (A 0)), (1, .int x1), (2, .int x2), (3, .int x3)]) hx hb dX11_pass_81 hl (k := 0) rfl (by decide) (by decide) rfl (fun ls hl => ?_)
                refine lv_goto (tgt := 67) hx hb dX11_pass_84 (by decide) ?_
                refine lv_iload hx hb dX11_pass_67 (lv_at hl 0 rfl) ?_
                refine lv_iconst (v := 4) hx hb dX11_pass_69 (by decide) ?_
                refine lv_icmp_ge (tgt := 87) hx hb dX11_pass_70 (by decide) (fun hc => absurd hc (by decide)) (fun _ => ?_)
                refine lv_aload_n hx hb dX11_pass_73 rfl (lv_at hl 2 rfl) ?_
                refine nb_getr hA hx hb hT hK hown hW fl_X11_37 hF.1 (v := .ref (A 6)) rfl dX11_pass_74 ?_
                refine lv_iload hx hb dX11_pass_77 (lv_at hl 0 rfl) ?_
                refine lv_iconst (v := 0) hx hb dX11_pass_79 (by decide) ?_
                obtain ⟨f99, hf99⟩ := hF.2.2.1
                refine nb_iastr hA hx hb hK hW hS 0 hf99 rfl (inb_in (by decide)) dX11_pass_80 (fun H locs G98 hEG98 hcG98 hW hS => ?_)
                replace hF := hF.teach hEG98 hcG98
                refine lv_iinc (v := 4) (lv' := [(5, .int 4), (4, .int 3), (0, .ref (A 0)), (1, .int x1), (2, .int x2), (3, .int x3)]) hx hb dX11_pass_81 hl (k := 0) rfl (by decide) (by decide) rfl (fun ls hl => ?_)
                refine lv_goto (tgt := 67) hx hb dX11_pass_84 (by decide) ?_
                refine lv_iload hx hb dX11_pass_67 (lv_at hl 0 rfl) ?_
                refine lv_iconst (v := 4) hx hb dX11_pass_69 (by decide) ?_
                refine lv_icmp_ge (tgt := 87) hx hb dX11_pass_70 (by decide) (fun _ => ?_) (fun hc => absurd (by decide) hc)
                refine lv_aload_n hx hb dX11_pass_87 rfl (lv_at hl 2 rfl) ?_
                refine lv_iconst (v := 0) hx hb dX11_pass_88 (by decide) ?_
                obtain ⟨u100, eu100, h⟩ := nm_s h
                refine nb_putr hA hx hb hT hK hown hW hS fl_X11_216 tyX11 tyX11_ok nmX11 hF.1 (v := .int 0) rfl rfl rfl (Nat.le_of_ble_eq_true rfl) dX11_pass_89 (fun H locs G101 hEG101 hcG101 hW hS => ?_)
                replace hF := hF.put (M' := u100) hEG101 hcG101 (by rw [eu100]; rfl) (by rw [eu100]; rfl)
                replace hw : fmO u100 = fmO M := by rw [eu100]; exact hw
                refine lv_aload_n hx hb dX11_pass_92 rfl (lv_at hl 2 rfl) ?_
                refine lv_dup hx hb dX11_pass_93 rfl ?_
                refine nb_getr hA hx hb hT hK hown hW fl_X11_210 hF.1 (v := .int (u100 11 0 0)) rfl dX11_pass_94 ?_
                refine lv_iconst (v := 1) hx hb dX11_pass_97 (by decide) ?_
                refine lv_iadd hx hb dX11_pass_98 ?_
                obtain ⟨u102, eu102, h⟩ := nm_s h
                refine nb_putr hA hx hb hT hK hown hW hS fl_X11_210 tyX11 tyX11_ok nmX11 hF.1 (v := .int ((u100 11 0 0) + 1)) rfl rfl rfl (Nat.le_of_ble_eq_true rfl) dX11_pass_99 (fun H locs G103 hEG103 hcG103 hW hS => ?_)
                replace hF := hF.put (M' := u102) hEG103 hcG103 (by rw [eu102]; rfl) (by rw [eu102]; rfl)
                replace hw : fmO u102 = fmO M := by rw [eu102]; exact hw
                refine lv_iinc (v := 4) (lv' := [(4, .int 4), (5, .int 4), (0, .ref (A 0)), (1, .int x1), (2, .int x2), (3, .int x3)]) hx hb dX11_pass_102 hl (k := 1) rfl (by decide) (by decide) rfl (fun ls hl => ?_)
                refine lv_goto (tgt := 48) hx hb dX11_pass_105 (by decide) ?_
                refine lv_iload hx hb dX11_pass_48 (lv_at hl 0 rfl) ?_
                refine lv_iload_n hx hb dX11_pass_50 rfl (lv_at hl 3 rfl) ?_
                refine lv_icmp_ge (tgt := 108) hx hb dX11_pass_51 (by decide) (fun c104 => ?_) (fun c104 => ?_)
                · replace h := ite_t h c104
                  refine lv_aload_n hx hb dX11_pass_108 rfl (lv_at hl 2 rfl) ?_
                  refine nb_getr hA hx hb hT hK hown hW fl_X11_210 hF.1 (v := .int (u102 11 0 0)) rfl dX11_pass_109 ?_
                  refine W.widen (k := 60) (n := 240) (Nat.le_of_ble_eq_true rfl) (Nat.le_of_ble_eq_true rfl) ?_
                  exact fm_iw hx hb hr rfl hlocks hW (hF.w hw) hS dX11_pass_112 h
                · replace h := ite_f h c104
                  refine lv_aload_n hx hb dX11_pass_54 rfl (lv_at hl 2 rfl) ?_
                  obtain ⟨_, h105, h⟩ := ob_s h
                  refine fm_cv (nb_runVr (As := []) (rest := []) hA hx hb hml hown hSW hS hW (m_X11_forget l z ad _ hA A u102 hF h105) mf_X11_forget lk_X11_233 hF.1 rfl rfl ⟨rfl, rfl⟩ ⟨Nat.le_of_ble_eq_true rfl, Nat.le_of_ble_eq_true rfl⟩ hl.1 (Nat.le_of_ble_eq_true rfl) dX11_pass_55 ⟨Nat.le_of_ble_eq_true rfl, Nat.le_of_ble_eq_true rfl⟩) hS (fun H locs G107 hEG107 hW hS => ?_)
                  replace hF := hF.ext0 hEG107
                  refine lv_aload_n hx hb dX11_pass_58 rfl (lv_at hl 2 rfl) ?_
                  refine lv_iload_n hx hb dX11_pass_59 rfl (lv_at hl 4 rfl) ?_
                  refine lv_iload_n hx hb dX11_pass_60 rfl (lv_at hl 5 rfl) ?_
                  obtain ⟨_, h108, h⟩ := ob_s h
                  refine fm_cv (nb_runVr (As := [.int x2, .int x3]) (rest := []) hA hx hb hml hown hSW hS hW (m_X11_weather l z ad _ hA A u102 hF x2 x3 h108) mf_X11_weather lk_X11_236 hF.1 rfl rfl ⟨rfl, rfl⟩ ⟨Nat.le_of_ble_eq_true rfl, Nat.le_of_ble_eq_true rfl⟩ hl.1 (Nat.le_of_ble_eq_true rfl) dX11_pass_61 ⟨Nat.le_of_ble_eq_true rfl, Nat.le_of_ble_eq_true rfl⟩) hS (fun H locs G110 hEG110 hW hS => ?_)
                  replace hF := hF.ext0 hEG110
                  refine lv_iconst (v := 0) hx hb dX11_pass_64 (by decide) ?_
                  refine lv_istore (lv' := [(5, .int 0), (4, .int 4), (0, .ref (A 0)), (1, .int x1), (2, .int x2), (3, .int x3)]) hx hb dX11_pass_65 hl (by decide) rfl (fun ls hl => ?_)
                  refine lv_iload hx hb dX11_pass_67 (lv_at hl 0 rfl) ?_
                  refine lv_iconst (v := 4) hx hb dX11_pass_69 (by decide) ?_
                  refine lv_icmp_ge (tgt := 87) hx hb dX11_pass_70 (by decide) (fun hc => absurd hc (by decide)) (fun _ => ?_)
                  refine lv_aload_n hx hb dX11_pass_73 rfl (lv_at hl 2 rfl) ?_
                  refine nb_getr hA hx hb hT hK hown hW fl_X11_37 hF.1 (v := .ref (A 6)) rfl dX11_pass_74 ?_
                  refine lv_iload hx hb dX11_pass_77 (lv_at hl 0 rfl) ?_
                  refine lv_iconst (v := 0) hx hb dX11_pass_79 (by decide) ?_
                  obtain ⟨f112, hf112⟩ := hF.2.2.1
                  refine nb_iastr hA hx hb hK hW hS 0 hf112 rfl (inb_in (by decide)) dX11_pass_80 (fun H locs G111 hEG111 hcG111 hW hS => ?_)
                  replace hF := hF.teach hEG111 hcG111
                  refine lv_iinc (v := 1) (lv' := [(5, .int 1), (4, .int 4), (0, .ref (A 0)), (1, .int x1), (2, .int x2), (3, .int x3)]) hx hb dX11_pass_81 hl (k := 0) rfl (by decide) (by decide) rfl (fun ls hl => ?_)
                  refine lv_goto (tgt := 67) hx hb dX11_pass_84 (by decide) ?_
                  refine lv_iload hx hb dX11_pass_67 (lv_at hl 0 rfl) ?_
                  refine lv_iconst (v := 4) hx hb dX11_pass_69 (by decide) ?_
                  refine lv_icmp_ge (tgt := 87) hx hb dX11_pass_70 (by decide) (fun hc => absurd hc (by decide)) (fun _ => ?_)
                  refine lv_aload_n hx hb dX11_pass_73 rfl (lv_at hl 2 rfl) ?_
                  refine nb_getr hA hx hb hT hK hown hW fl_X11_37 hF.1 (v := .ref (A 6)) rfl dX11_pass_74 ?_
                  refine lv_iload hx hb dX11_pass_77 (lv_at hl 0 rfl) ?_
                  refine lv_iconst (v := 0) hx hb dX11_pass_79 (by decide) ?_
                  obtain ⟨f114, hf114⟩ := hF.2.2.1
                  refine nb_iastr hA hx hb hK hW hS 0 hf114 rfl (inb_in (by decide)) dX11_pass_80 (fun H locs G113 hEG113 hcG113 hW hS => ?_)
                  replace hF := hF.teach hEG113 hcG113
                  refine lv_iinc (v := 2) (lv' := [(5, .int 2), (4, .int 4), (0, .ref (A 0)), (1, .int x1), (2, .int x2), (3, .int x3)]) hx hb dX11_pass_81 hl (k := 0) rfl (by decide) (by decide) rfl (fun ls hl => ?_)
                  refine lv_goto (tgt := 67) hx hb dX11_pass_84 (by decide) ?_
                  refine lv_iload hx hb dX11_pass_67 (lv_at hl 0 rfl) ?_
                  refine lv_iconst (v := 4) hx hb dX11_pass_69 (by decide) ?_
                  refine lv_icmp_ge (tgt := 87) hx hb dX11_pass_70 (by decide) (fun hc => absurd hc (by decide)) (fun _ => ?_)
                  refine lv_aload_n hx hb dX11_pass_73 rfl (lv_at hl 2 rfl) ?_
                  refine nb_getr hA hx hb hT hK hown hW fl_X11_37 hF.1 (v := .ref (A 6)) rfl dX11_pass_74 ?_
                  refine lv_iload hx hb dX11_pass_77 (lv_at hl 0 rfl) ?_
                  refine lv_iconst (v := 0) hx hb dX11_pass_79 (by decide) ?_
                  obtain ⟨f116, hf116⟩ := hF.2.2.1
                  refine nb_iastr hA hx hb hK hW hS 0 hf116 rfl (inb_in (by decide)) dX11_pass_80 (fun H locs G115 hEG115 hcG115 hW hS => ?_)
                  replace hF := hF.teach hEG115 hcG115
                  refine lv_iinc (v := 3) (lv' := [(5, .int 3), (4, .int 4), (0, .ref (A 0)), (1, .int x1), (2, .int x2), (3, .int x3)]) hx hb dX11_pass_81 hl (k := 0) rfl (by decide) (by decide) rfl (fun ls hl => ?_)
                  refine lv_goto (tgt := 67) hx hb dX11_pass_84 (by decide) ?_
                  refine lv_iload hx hb dX11_pass_67 (lv_at hl 0 rfl) ?_
                  refine lv_iconst (v := 4) hx hb dX11_pass_69 (by decide) ?_
                  refine lv_icmp_ge (tgt := 87) hx hb dX11_pass_70 (by decide) (fun hc => absurd hc (by decide)) (fun _ => ?_)
                  refine lv_aload_n hx hb dX11_pass_73 rfl (lv_at hl 2 rfl) ?_
                  refine nb_getr hA hx hb hT hK hown hW fl_X11_37 hF.1 (v := .ref (A 6)) rfl dX11_pass_74 ?_
                  refine lv_iload hx hb dX11_pass_77 (lv_at hl 0 rfl) ?_
                  refine lv_iconst (v := 0) hx hb dX11_pass_79 (by decide) ?_
                  obtain ⟨f118, hf118⟩ := hF.2.2.1
                  refine nb_iastr hA hx hb hK hW hS 0 hf118 rfl (inb_in (by decide)) dX11_pass_80 (fun H locs G117 hEG117 hcG117 hW hS => ?_)
                  replace hF := hF.teach hEG117 hcG117
                  refine lv_iinc (v := 4) (lv' := [(5, .int 4), (4, .int 4), (0, .ref (A 0)), (1, .int x1), (2, .int x2), (3, .int x3)]) hx hb dX11_pass_81 hl (k := 0) rfl (by decide) (by decide) rfl (fun ls hl => ?_)
                  refine lv_goto (tgt := 67) hx hb dX11_pass_84 (by decide) ?_
                  refine lv_iload hx hb dX11_pass_67 (lv_at hl 0 rfl) ?_
                  refine lv_iconst (v := 4) hx hb dX11_pass_69 (by decide) ?_
                  refine lv_icmp_ge (tgt := 87) hx hb dX11_pass_70 (by decide) (fun _ => ?_) (fun hc => absurd (by decide) hc)
                  refine lv_aload_n hx hb dX11_pass_87 rfl (lv_at hl 2 rfl) ?_
                  refine lv_iconst (v := 0) hx hb dX11_pass_88 (by decide) ?_
                  obtain ⟨u119, eu119, h⟩ := nm_s h
                  refine nb_putr hA hx hb hT hK hown hW hS fl_X11_216 tyX11 tyX11_ok nmX11 hF.1 (v := .int 0) rfl rfl rfl (Nat.le_of_ble_eq_true rfl) dX11_pass_89 (fun H locs G120 hEG120 hcG120 hW hS => ?_)
                  replace hF := hF.put (M' := u119) hEG120 hcG120 (by rw [eu119]; rfl) (by rw [eu119]; rfl)
                  replace hw : fmO u119 = fmO M := by rw [eu119]; exact hw
                  refine lv_aload_n hx hb dX11_pass_92 rfl (lv_at hl 2 rfl) ?_
                  refine lv_dup hx hb dX11_pass_93 rfl ?_
                  refine nb_getr hA hx hb hT hK hown hW fl_X11_210 hF.1 (v := .int (u119 11 0 0)) rfl dX11_pass_94 ?_
                  refine lv_iconst (v := 1) hx hb dX11_pass_97 (by decide) ?_
                  refine lv_iadd hx hb dX11_pass_98 ?_
                  obtain ⟨u121, eu121, h⟩ := nm_s h
                  refine nb_putr hA hx hb hT hK hown hW hS fl_X11_210 tyX11 tyX11_ok nmX11 hF.1 (v := .int ((u119 11 0 0) + 1)) rfl rfl rfl (Nat.le_of_ble_eq_true rfl) dX11_pass_99 (fun H locs G122 hEG122 hcG122 hW hS => ?_)
                  replace hF := hF.put (M' := u121) hEG122 hcG122 (by rw [eu121]; rfl) (by rw [eu121]; rfl)
                  replace hw : fmO u121 = fmO M := by rw [eu121]; exact hw
                  refine lv_iinc (v := 5) (lv' := [(4, .int 5), (5, .int 4), (0, .ref (A 0)), (1, .int x1), (2, .int x2), (3, .int x3)]) hx hb dX11_pass_102 hl (k := 1) rfl (by decide) (by decide) rfl (fun ls hl => ?_)
                  refine lv_goto (tgt := 48) hx hb dX11_pass_105 (by decide) ?_
                  refine lv_iload hx hb dX11_pass_48 (lv_at hl 0 rfl) ?_
                  refine lv_iload_n hx hb dX11_pass_50 rfl (lv_at hl 3 rfl) ?_
                  refine lv_icmp_ge (tgt := 108) hx hb dX11_pass_51 (by decide) (fun c123 => ?_) (fun c123 => ?_)
                  · replace h := ite_t h c123
                    refine lv_aload_n hx hb dX11_pass_108 rfl (lv_at hl 2 rfl) ?_
                    refine nb_getr hA hx hb hT hK hown hW fl_X11_210 hF.1 (v := .int (u121 11 0 0)) rfl dX11_pass_109 ?_
                    refine W.widen (k := 60) (n := 240) (Nat.le_of_ble_eq_true rfl) (Nat.le_of_ble_eq_true rfl) ?_
                    exact fm_iw hx hb hr rfl hlocks hW (hF.w hw) hS dX11_pass_112 h
                  · replace h := ite_f h c123
                    refine lv_aload_n hx hb dX11_pass_54 rfl (lv_at hl 2 rfl) ?_
                    obtain ⟨_, h124, h⟩ := ob_s h
                    refine fm_cv (nb_runVr (As := []) (rest := []) hA hx hb hml hown hSW hS hW (m_X11_forget l z ad _ hA A u121 hF h124) mf_X11_forget lk_X11_233 hF.1 rfl rfl ⟨rfl, rfl⟩ ⟨Nat.le_of_ble_eq_true rfl, Nat.le_of_ble_eq_true rfl⟩ hl.1 (Nat.le_of_ble_eq_true rfl) dX11_pass_55 ⟨Nat.le_of_ble_eq_true rfl, Nat.le_of_ble_eq_true rfl⟩) hS (fun H locs G126 hEG126 hW hS => ?_)
                    replace hF := hF.ext0 hEG126
                    refine lv_aload_n hx hb dX11_pass_58 rfl (lv_at hl 2 rfl) ?_
                    refine lv_iload_n hx hb dX11_pass_59 rfl (lv_at hl 4 rfl) ?_
                    refine lv_iload_n hx hb dX11_pass_60 rfl (lv_at hl 5 rfl) ?_
                    obtain ⟨_, h127, h⟩ := ob_s h
                    refine fm_cv (nb_runVr (As := [.int x2, .int x3]) (rest := []) hA hx hb hml hown hSW hS hW (m_X11_weather l z ad _ hA A u121 hF x2 x3 h127) mf_X11_weather lk_X11_236 hF.1 rfl rfl ⟨rfl, rfl⟩ ⟨Nat.le_of_ble_eq_true rfl, Nat.le_of_ble_eq_true rfl⟩ hl.1 (Nat.le_of_ble_eq_true rfl) dX11_pass_61 ⟨Nat.le_of_ble_eq_true rfl, Nat.le_of_ble_eq_true rfl⟩) hS (fun H locs G129 hEG129 hW hS => ?_)
                    replace hF := hF.ext0 hEG129
                    refine lv_iconst (v := 0) hx hb dX11_pass_64 (by decide) ?_
                    refine lv_istore (lv' := [(5, .int 0), (4, .int 5), (0, .ref (A 0)), (1, .int x1), (2, .int x2), (3, .int x3)]) hx hb dX11_pass_65 hl (by decide) rfl (fun ls hl => ?_)
                    refine lv_iload hx hb dX11_pass_67 (lv_at hl 0 rfl) ?_
                    refine lv_iconst (v := 4) hx hb dX11_pass_69 (by decide) ?_
                    refine lv_icmp_ge (tgt := 87) hx hb dX11_pass_70 (by decide) (fun hc => absurd hc (by decide)) (fun _ => ?_)
                    refine lv_aload_n hx hb dX11_pass_73 rfl (lv_at hl 2 rfl) ?_
                    refine nb_getr hA hx hb hT hK hown hW fl_X11_37 hF.1 (v := .ref (A 6)) rfl dX11_pass_74 ?_
                    refine lv_iload hx hb dX11_pass_77 (lv_at hl 0 rfl) ?_
                    refine lv_iconst (v := 0) hx hb dX11_pass_79 (by decide) ?_
                    obtain ⟨f131, hf131⟩ := hF.2.2.1
                    refine nb_iastr hA hx hb hK hW hS 0 hf131 rfl (inb_in (by decide)) dX11_pass_80 (fun H locs G130 hEG130 hcG130 hW hS => ?_)
                    replace hF := hF.teach hEG130 hcG130
                    refine lv_iinc (v := 1) (lv' := [(5, .int 1), (4, .int 5), (0, .ref (A 0)), (1, .int x1), (2, .int x2), (3, .int x3)]) hx hb dX11_pass_81 hl (k := 0) rfl (by decide) (by decide) rfl (fun ls hl => ?_)
                    refine lv_goto (tgt := 67) hx hb dX11_pass_84 (by decide) ?_
                    refine lv_iload hx hb dX11_pass_67 (lv_at hl 0 rfl) ?_
                    refine lv_iconst (v := 4) hx hb dX11_pass_69 (by decide) ?_
                    refine lv_icmp_ge (tgt := 87) hx hb dX11_pass_70 (by decide) (fun hc => absurd hc (by decide)) (fun _ => ?_)
                    refine lv_aload_n hx hb dX11_pass_73 rfl (lv_at hl 2 rfl) ?_
                    refine nb_getr hA hx hb hT hK hown hW fl_X11_37 hF.1 (v := .ref (A 6)) rfl dX11_pass_74 ?_
                    refine lv_iload hx hb dX11_pass_77 (lv_at hl 0 rfl) ?_
                    refine lv_iconst (v := 0) hx hb dX11_pass_79 (by decide) ?_
                    obtain ⟨f133, hf133⟩ := hF.2.2.1
                    refine nb_iastr hA hx hb hK hW hS 0 hf133 rfl (inb_in (by decide)) dX11_pass_80 (fun H locs G132 hEG132 hcG132 hW hS => ?_)
                    replace hF := hF.teach hEG132 hcG132
                    refine lv_iinc (v := 2) (lv' := [(5, .int 2), (4, .int 5), (0, .ref (A 0)), (1, .int x1), (2, .int x2), (3, .int x3)]) hx hb dX11_pass_81 hl (k := 0) rfl (by decide) (by decide) rfl (fun ls hl => ?_)
                    refine lv_goto (tgt := 67) hx hb dX11_pass_84 (by decide) ?_
                    refine lv_iload hx hb dX11_pass_67 (lv_at hl 0 rfl) ?_
                    refine lv_iconst (v := 4) hx hb dX11_pass_69 (by decide) ?_
                    refine lv_icmp_ge (tgt := 87) hx hb dX11_pass_70 (by decide) (fun hc => absurd hc (by decide)) (fun _ => ?_)
                    refine lv_aload_n hx hb dX11_pass_73 rfl (lv_at hl 2 rfl) ?_
                    refine nb_getr hA hx hb hT hK hown hW fl_X11_37 hF.1 (v := .ref (A 6)) rfl dX11_pass_74 ?_
                    refine lv_iload hx hb dX11_pass_77 (lv_at hl 0 rfl) ?_
                    refine lv_iconst (v := 0) hx hb dX11_pass_79 (by decide) ?_
                    obtain ⟨f135, hf135⟩ := hF.2.2.1
                    refine nb_iastr hA hx hb hK hW hS 0 hf135 rfl (inb_in (by decide)) dX11_pass_80 (fun H locs G134 hEG134 hcG134 hW hS => ?_)
                    replace hF := hF.teach hEG134 hcG134
                    refine lv_iinc (v := 3) (lv' := [(5, .int 3), (4, .int 5), (0, .ref (A 0)), (1, .int x1), (2, .int x2), (3, .int x3)]) hx hb dX11_pass_81 hl (k := 0) rfl (by decide) (by decide) rfl (fun ls hl => ?_)
                    refine lv_goto (tgt := 67) hx hb dX11_pass_84 (by decide) ?_
                    refine lv_iload hx hb dX11_pass_67 (lv_at hl 0 rfl) ?_
                    refine lv_iconst (v := 4) hx hb dX11_pass_69 (by decide) ?_
                    refine lv_icmp_ge (tgt := 87) hx hb dX11_pass_70 (by decide) (fun hc => absurd hc (by decide)) (fun _ => ?_)
                    refine lv_aload_n hx hb dX11_pass_73 rfl (lv_at hl 2 rfl) ?_
                    refine nb_getr hA hx hb hT hK hown hW fl_X11_37 hF.1 (v := .ref (A 6)) rfl dX11_pass_74 ?_
                    refine lv_iload hx hb dX11_pass_77 (lv_at hl 0 rfl) ?_
                    refine lv_iconst (v := 0) hx hb dX11_pass_79 (by decide) ?_
                    obtain ⟨f137, hf137⟩ := hF.2.2.1
                    refine nb_iastr hA hx hb hK hW hS 0 hf137 rfl (inb_in (by decide)) dX11_pass_80 (fun H locs G136 hEG136 hcG136 hW hS => ?_)
                    replace hF := hF.teach hEG136 hcG136
                    refine lv_iinc (v := 4) (lv' := [(5, .int 4), (4, .int 5), (0, .ref (A 0)), (1, .int x1), (2, .int x2), (3, .int x3)]) hx hb dX11_pass_81 hl (k := 0) rfl (by decide) (by decide) rfl (fun ls hl => ?_)
                    refine lv_goto (tgt := 67) hx hb dX11_pass_84 (by decide) ?_
                    refine lv_iload hx hb dX11_pass_67 (lv_at hl 0 rfl) ?_
                    refine lv_iconst (v := 4) hx hb dX11_pass_69 (by decide) ?_
                    refine lv_icmp_ge (tgt := 87) hx hb dX11_pass_70 (by decide) (fun _ => ?_) (fun hc => absurd (by decide) hc)
                    refine lv_aload_n hx hb dX11_pass_87 rfl (lv_at hl 2 rfl) ?_
                    refine lv_iconst (v := 0) hx hb dX11_pass_88 (by decide) ?_
                    obtain ⟨u138, eu138, h⟩ := nm_s h
                    refine nb_putr hA hx hb hT hK hown hW hS fl_X11_216 tyX11 tyX11_ok nmX11 hF.1 (v := .int 0) rfl rfl rfl (Nat.le_of_ble_eq_true rfl) dX11_pass_89 (fun H locs G139 hEG139 hcG139 hW hS => ?_)
                    replace hF := hF.put (M' := u138) hEG139 hcG139 (by rw [eu138]; rfl) (by rw [eu138]; rfl)
                    replace hw : fmO u138 = fmO M := by rw [eu138]; exact hw
                    refine lv_aload_n hx hb dX11_pass_92 rfl (lv_at hl 2 rfl) ?_
                    refine lv_dup hx hb dX11_pass_93 rfl ?_
                    refine nb_getr hA hx hb hT hK hown hW fl_X11_210 hF.1 (v := .int (u138 11 0 0)) rfl dX11_pass_94 ?_
                    refine lv_iconst (v := 1) hx hb dX11_pass_97 (by decide) ?_
                    refine lv_iadd hx hb dX11_pass_98 ?_
                    obtain ⟨u140, eu140, h⟩ := nm_s h
                    refine nb_putr hA hx hb hT hK hown hW hS fl_X11_210 tyX11 tyX11_ok nmX11 hF.1 (v := .int ((u138 11 0 0) + 1)) rfl rfl rfl (Nat.le_of_ble_eq_true rfl) dX11_pass_99 (fun H locs G141 hEG141 hcG141 hW hS => ?_)
                    replace hF := hF.put (M' := u140) hEG141 hcG141 (by rw [eu140]; rfl) (by rw [eu140]; rfl)
                    replace hw : fmO u140 = fmO M := by rw [eu140]; exact hw
                    refine lv_iinc (v := 6) (lv' := [(4, .int 6), (5, .int 4), (0, .ref (A 0)), (1, .int x1), (2, .int x2), (3, .int x3)]) hx hb dX11_pass_102 hl (k := 1) rfl (by decide) (by decide) rfl (fun ls hl => ?_)
                    refine lv_goto (tgt := 48) hx hb dX11_pass_105 (by decide) ?_
                    refine lv_iload hx hb dX11_pass_48 (lv_at hl 0 rfl) ?_
                    refine lv_iload_n hx hb dX11_pass_50 rfl (lv_at hl 3 rfl) ?_
                    refine lv_icmp_ge (tgt := 108) hx hb dX11_pass_51 (by decide) (fun c142 => ?_) (fun c142 => ?_)
                    · replace h := ite_t h c142
                      refine lv_aload_n hx hb dX11_pass_108 rfl (lv_at hl 2 rfl) ?_
                      refine nb_getr hA hx hb hT hK hown hW fl_X11_210 hF.1 (v := .int (u140 11 0 0)) rfl dX11_pass_109 ?_
                      refine W.widen (k := 60) (n := 240) (Nat.le_of_ble_eq_true rfl) (Nat.le_of_ble_eq_true rfl) ?_
                      exact fm_iw hx hb hr rfl hlocks hW (hF.w hw) hS dX11_pass_112 h
                    · replace h := ite_f h c142
                      refine lv_aload_n hx hb dX11_pass_54 rfl (lv_at hl 2 rfl) ?_
                      obtain ⟨_, h143, h⟩ := ob_s h
                      refine fm_cv (nb_runVr (As := []) (rest := []) hA hx hb hml hown hSW hS hW (m_X11_forget l z ad _ hA A u140 hF h143) mf_X11_forget lk_X11_233 hF.1 rfl rfl ⟨rfl, rfl⟩ ⟨Nat.le_of_ble_eq_true rfl, Nat.le_of_ble_eq_true rfl⟩ hl.1 (Nat.le_of_ble_eq_true rfl) dX11_pass_55 ⟨Nat.le_of_ble_eq_true rfl, Nat.le_of_ble_eq_true rfl⟩) hS (fun H locs G145 hEG145 hW hS => ?_)
                      replace hF := hF.ext0 hEG145
                      refine lv_aload_n hx hb dX11_pass_58 rfl (lv_at hl 2 rfl) ?_
                      refine lv_iload_n hx hb dX11_pass_59 rfl (lv_at hl 4 rfl) ?_
                      refine lv_iload_n hx hb dX11_pass_60 rfl (lv_at hl 5 rfl) ?_
                      obtain ⟨_, h146, h⟩ := ob_s h
                      refine fm_cv (nb_runVr (As := [.int x2, .int x3]) (rest := []) hA hx hb hml hown hSW hS hW (m_X11_weather l z ad _ hA A u140 hF x2 x3 h146) mf_X11_weather lk_X11_236 hF.1 rfl rfl ⟨rfl, rfl⟩ ⟨Nat.le_of_ble_eq_true rfl, Nat.le_of_ble_eq_true rfl⟩ hl.1 (Nat.le_of_ble_eq_true rfl) dX11_pass_61 ⟨Nat.le_of_ble_eq_true rfl, Nat.le_of_ble_eq_true rfl⟩) hS (fun H locs G148 hEG148 hW hS => ?_)
                      replace hF := hF.ext0 hEG148
                      refine lv_iconst (v := 0) hx hb dX11_pass_64 (by decide) ?_
                      refine lv_istore (lv' := [(5, .int 0), (4, .int 6), (0, .ref (A 0)), (1, .int x1), (2, .int x2), (3, .int x3)]) hx hb dX11_pass_65 hl (by decide) rfl (fun ls hl => ?_)
                      refine lv_iload hx hb dX11_pass_67 (lv_at hl 0 rfl) ?_
                      refine lv_iconst (v := 4) hx hb dX11_pass_69 (by decide) ?_
                      refine lv_icmp_ge (tgt := 87) hx hb dX11_pass_70 (by decide) (fun hc => absurd hc (by decide)) (fun _ => ?_)
                      refine lv_aload_n hx hb dX11_pass_73 rfl (lv_at hl 2 rfl) ?_
                      refine nb_getr hA hx hb hT hK hown hW fl_X11_37 hF.1 (v := .ref (A 6)) rfl dX11_pass_74 ?_
                      refine lv_iload hx hb dX11_pass_77 (lv_at hl 0 rfl) ?_
                      refine lv_iconst (v := 0) hx hb dX11_pass_79 (by decide) ?_
                      obtain ⟨f150, hf150⟩ := hF.2.2.1
                      refine nb_iastr hA hx hb hK hW hS 0 hf150 rfl (inb_in (by decide)) dX11_pass_80 (fun H locs G149 hEG149 hcG149 hW hS => ?_)
                      replace hF := hF.teach hEG149 hcG149
                      refine lv_iinc (v := 1) (lv' := [(5, .int 1), (4, .int 6), (0, .ref (A 0)), (1, .int x1), (2, .int x2), (3, .int x3)]) hx hb dX11_pass_81 hl (k := 0) rfl (by decide) (by decide) rfl (fun ls hl => ?_)
                      refine lv_goto (tgt := 67) hx hb dX11_pass_84 (by decide) ?_
                      refine lv_iload hx hb dX11_pass_67 (lv_at hl 0 rfl) ?_
                      refine lv_iconst (v := 4) hx hb dX11_pass_69 (by decide) ?_
                      refine lv_icmp_ge (tgt := 87) hx hb dX11_pass_70 (by decide) (fun hc => absurd hc (by decide)) (fun _ => ?_)
                      refine lv_aload_n hx hb dX11_pass_73 rfl (lv_at hl 2 rfl) ?_
                      refine nb_getr hA hx hb hT hK hown hW fl_X11_37 hF.1 (v := .ref (A 6)) rfl dX11_pass_74 ?_
                      refine lv_iload hx hb dX11_pass_77 (lv_at hl 0 rfl) ?_
                      refine lv_iconst (v := 0) hx hb dX11_pass_79 (by decide) ?_
                      obtain ⟨f152, hf152⟩ := hF.2.2.1
                      refine nb_iastr hA hx hb hK hW hS 0 hf152 rfl (inb_in (by decide)) dX11_pass_80 (fun H locs G151 hEG151 hcG151 hW hS => ?_)
                      replace hF := hF.teach hEG151 hcG151
                      refine lv_iinc (v := 2) (lv' := [(5, .int 2), (4, .int 6), (0, .ref (A 0)), (1, .int x1), (2, .int x2), (3, .int x3)]) hx hb dX11_pass_81 hl (k := 0) rfl (by decide) (by decide) rfl (fun ls hl => ?_)
                      refine lv_goto (tgt := 67) hx hb dX11_pass_84 (by decide) ?_
                      refine lv_iload hx hb dX11_pass_67 (lv_at hl 0 rfl) ?_
                      refine lv_iconst (v := 4) hx hb dX11_pass_69 (by decide) ?_
                      refine lv_icmp_ge (tgt := 87) hx hb dX11_pass_70 (by decide) (fun hc => absurd hc (by decide)) (fun _ => ?_)
                      refine lv_aload_n hx hb dX11_pass_73 rfl (lv_at hl 2 rfl) ?_
                      refine nb_getr hA hx hb hT hK hown hW fl_X11_37 hF.1 (v := .ref (A 6)) rfl dX11_pass_74 ?_
                      refine lv_iload hx hb dX11_pass_77 (lv_at hl 0 rfl) ?_
                      refine lv_iconst (v := 0) hx hb dX11_pass_79 (by decide) ?_
                      obtain ⟨f154, hf154⟩ := hF.2.2.1
                      refine nb_iastr hA hx hb hK hW hS 0 hf154 rfl (inb_in (by decide)) dX11_pass_80 (fun H locs G153 hEG153 hcG153 hW hS => ?_)
                      replace hF := hF.teach hEG153 hcG153
                      refine lv_iinc (v := 3) (lv' := [(5, .int 3), (4, .int 6), (0, .ref (A 0)), (1, .int x1), (2, .int x2), (3, .int x3)]) hx hb dX11_pass_81 hl (k := 0) rfl (by decide) (by decide) rfl (fun ls hl => ?_)
                      refine lv_goto (tgt := 67) hx hb dX11_pass_84 (by decide) ?_
                      refine lv_iload hx hb dX11_pass_67 (lv_at hl 0 rfl) ?_
                      refine lv_iconst (v := 4) hx hb dX11_pass_69 (by decide) ?_
                      refine lv_icmp_ge (tgt := 87) hx hb dX11_pass_70 (by decide) (fun hc => absurd hc (by decide)) (fun _ => ?_)
                      refine lv_aload_n hx hb dX11_pass_73 rfl (lv_at hl 2 rfl) ?_
                      refine nb_getr hA hx hb hT hK hown hW fl_X11_37 hF.1 (v := .ref (A 6)) rfl dX11_pass_74 ?_
                      refine lv_iload hx hb dX11_pass_77 (lv_at hl 0 rfl) ?_
                      refine lv_iconst (v := 0) hx hb dX11_pass_79 (by decide) ?_
                      obtain ⟨f156, hf156⟩ := hF.2.2.1
                      refine nb_iastr hA hx hb hK hW hS 0 hf156 rfl (inb_in (by decide)) dX11_pass_80 (fun H locs G155 hEG155 hcG155 hW hS => ?_)
                      replace hF := hF.teach hEG155 hcG155
                      refine lv_iinc (v := 4) (lv' := [(5, .int 4), (4, .int 6), (0, .ref (A 0)), (1, .int x1), (2, .int x2), (3, .int x3)]) hx hb dX11_pass_81 hl (k := 0) rfl (by decide) (by decide) rfl (fun ls hl => ?_)
                      refine lv_goto (tgt := 67) hx hb dX11_pass_84 (by decide) ?_
                      refine lv_iload hx hb dX11_pass_67 (lv_at hl 0 rfl) ?_
                      refine lv_iconst (v := 4) hx hb dX11_pass_69 (by decide) ?_
                      refine lv_icmp_ge (tgt := 87) hx hb dX11_pass_70 (by decide) (fun _ => ?_) (fun hc => absurd (by decide) hc)
                      refine lv_aload_n hx hb dX11_pass_87 rfl (lv_at hl 2 rfl) ?_
                      refine lv_iconst (v := 0) hx hb dX11_pass_88 (by decide) ?_
                      obtain ⟨u157, eu157, h⟩ := nm_s h
                      refine nb_putr hA hx hb hT hK hown hW hS fl_X11_216 tyX11 tyX11_ok nmX11 hF.1 (v := .int 0) rfl rfl rfl (Nat.le_of_ble_eq_true rfl) dX11_pass_89 (fun H locs G158 hEG158 hcG158 hW hS => ?_)
                      replace hF := hF.put (M' := u157) hEG158 hcG158 (by rw [eu157]; rfl) (by rw [eu157]; rfl)
                      replace hw : fmO u157 = fmO M := by rw [eu157]; exact hw
                      refine lv_aload_n hx hb dX11_pass_92 rfl (lv_at hl 2 rfl) ?_
                      refine lv_dup hx hb dX11_pass_93 rfl ?_
                      refine nb_getr hA hx hb hT hK hown hW fl_X11_210 hF.1 (v := .int (u157 11 0 0)) rfl dX11_pass_94 ?_
                      refine lv_iconst (v := 1) hx hb dX11_pass_97 (by decide) ?_
                      refine lv_iadd hx hb dX11_pass_98 ?_
                      obtain ⟨u159, eu159, h⟩ := nm_s h
                      refine nb_putr hA hx hb hT hK hown hW hS fl_X11_210 tyX11 tyX11_ok nmX11 hF.1 (v := .int ((u157 11 0 0) + 1)) rfl rfl rfl (Nat.le_of_ble_eq_true rfl) dX11_pass_99 (fun H locs G160 hEG160 hcG160 hW hS => ?_)
                      replace hF := hF.put (M' := u159) hEG160 hcG160 (by rw [eu159]; rfl) (by rw [eu159]; rfl)
                      replace hw : fmO u159 = fmO M := by rw [eu159]; exact hw
                      refine lv_iinc (v := 7) (lv' := [(4, .int 7), (5, .int 4), (0, .ref (A 0)), (1, .int x1), (2, .int x2), (3, .int x3)]) hx hb dX11_pass_102 hl (k := 1) rfl (by decide) (by decide) rfl (fun ls hl => ?_)
                      refine lv_goto (tgt := 48) hx hb dX11_pass_105 (by decide) ?_
                      refine lv_iload hx hb dX11_pass_48 (lv_at hl 0 rfl) ?_
                      refine lv_iload_n hx hb dX11_pass_50 rfl (lv_at hl 3 rfl) ?_
                      refine lv_icmp_ge (tgt := 108) hx hb dX11_pass_51 (by decide) (fun c161 => ?_) (fun c161 => ?_)
                      · replace h := ite_t h c161
                        refine lv_aload_n hx hb dX11_pass_108 rfl (lv_at hl 2 rfl) ?_
                        refine nb_getr hA hx hb hT hK hown hW fl_X11_210 hF.1 (v := .int (u159 11 0 0)) rfl dX11_pass_109 ?_
                        refine W.widen (k := 60) (n := 240) (Nat.le_of_ble_eq_true rfl) (Nat.le_of_ble_eq_true rfl) ?_
                        exact fm_iw hx hb hr rfl hlocks hW (hF.w hw) hS dX11_pass_112 h
                      · replace h := ite_f h c161
                        refine lv_aload_n hx hb dX11_pass_54 rfl (lv_at hl 2 rfl) ?_
                        obtain ⟨_, h162, h⟩ := ob_s h
                        refine fm_cv (nb_runVr (As := []) (rest := []) hA hx hb hml hown hSW hS hW (m_X11_forget l z ad _ hA A u159 hF h162) mf_X11_forget lk_X11_233 hF.1 rfl rfl ⟨rfl, rfl⟩ ⟨Nat.le_of_ble_eq_true rfl, Nat.le_of_ble_eq_true rfl⟩ hl.1 (Nat.le_of_ble_eq_true rfl) dX11_pass_55 ⟨Nat.le_of_ble_eq_true rfl, Nat.le_of_ble_eq_true rfl⟩) hS (fun H locs G164 hEG164 hW hS => ?_)
                        replace hF := hF.ext0 hEG164
                        refine lv_aload_n hx hb dX11_pass_58 rfl (lv_at hl 2 rfl) ?_
                        refine lv_iload_n hx hb dX11_pass_59 rfl (lv_at hl 4 rfl) ?_
                        refine lv_iload_n hx hb dX11_pass_60 rfl (lv_at hl 5 rfl) ?_
                        obtain ⟨_, h165, h⟩ := ob_s h
                        refine fm_cv (nb_runVr (As := [.int x2, .int x3]) (rest := []) hA hx hb hml hown hSW hS hW (m_X11_weather l z ad _ hA A u159 hF x2 x3 h165) mf_X11_weather lk_X11_236 hF.1 rfl rfl ⟨rfl, rfl⟩ ⟨Nat.le_of_ble_eq_true rfl, Nat.le_of_ble_eq_true rfl⟩ hl.1 (Nat.le_of_ble_eq_true rfl) dX11_pass_61 ⟨Nat.le_of_ble_eq_true rfl, Nat.le_of_ble_eq_true rfl⟩) hS (fun H locs G167 hEG167 hW hS => ?_)
                        replace hF := hF.ext0 hEG167
                        refine lv_iconst (v := 0) hx hb dX11_pass_64 (by decide) ?_
                        refine lv_istore (lv' := [(5, .int 0), (4, .int 7), (0, .ref (A 0)), (1, .int x1), (2, .int x2), (3, .int x3)]) hx hb dX11_pass_65 hl (by decide) rfl (fun ls hl => ?_)
                        refine lv_iload hx hb dX11_pass_67 (lv_at hl 0 rfl) ?_
                        refine lv_iconst (v := 4) hx hb dX11_pass_69 (by decide) ?_
                        refine lv_icmp_ge (tgt := 87) hx hb dX11_pass_70 (by decide) (fun hc => absurd hc (by decide)) (fun _ => ?_)
                        refine lv_aload_n hx hb dX11_pass_73 rfl (lv_at hl 2 rfl) ?_
                        refine nb_getr hA hx hb hT hK hown hW fl_X11_37 hF.1 (v := .ref (A 6)) rfl dX11_pass_74 ?_
                        refine lv_iload hx hb dX11_pass_77 (lv_at hl 0 rfl) ?_
                        refine lv_iconst (v := 0) hx hb dX11_pass_79 (by decide) ?_
                        obtain ⟨f169, hf169⟩ := hF.2.2.1
                        refine nb_iastr hA hx hb hK hW hS 0 hf169 rfl (inb_in (by decide)) dX11_pass_80 (fun H locs G168 hEG168 hcG168 hW hS => ?_)
                        replace hF := hF.teach hEG168 hcG168
                        refine lv_iinc (v := 1) (lv' := [(5, .int 1), (4, .int 7), (0, .ref (A 0)), (1, .int x1), (2, .int x2), (3, .int x3)]) hx hb dX11_pass_81 hl (k := 0) rfl (by decide) (by decide) rfl (fun ls hl => ?_)
                        refine lv_goto (tgt := 67) hx hb dX11_pass_84 (by decide) ?_
                        refine lv_iload hx hb dX11_pass_67 (lv_at hl 0 rfl) ?_
                        refine lv_iconst (v := 4) hx hb dX11_pass_69 (by decide) ?_
                        refine lv_icmp_ge (tgt := 87) hx hb dX11_pass_70 (by decide) (fun hc => absurd hc (by decide)) (fun _ => ?_)
                        refine lv_aload_n hx hb dX11_pass_73 rfl (lv_at hl 2 rfl) ?_
                        refine nb_getr hA hx hb hT hK hown hW fl_X11_37 hF.1 (v := .ref (A 6)) rfl dX11_pass_74 ?_
                        refine lv_iload hx hb dX11_pass_77 (lv_at hl 0 rfl) ?_
                        refine lv_iconst (v := 0) hx hb dX11_pass_79 (by decide) ?_
                        obtain ⟨f171, hf171⟩ := hF.2.2.1
                        refine nb_iastr hA hx hb hK hW hS 0 hf171 rfl (inb_in (by decide)) dX11_pass_80 (fun H locs G170 hEG170 hcG170 hW hS => ?_)
                        replace hF := hF.teach hEG170 hcG170
                        refine lv_iinc (v := 2) (lv' := [(5, .int 2), (4, .int 7), (0, .ref (A 0)), (1, .int x1), (2, .int x2), (3, .int x3)]) hx hb dX11_pass_81 hl (k := 0) rfl (by decide) (by decide) rfl (fun ls hl => ?_)
                        refine lv_goto (tgt := 67) hx hb dX11_pass_84 (by decide) ?_
                        refine lv_iload hx hb dX11_pass_67 (lv_at hl 0 rfl) ?_
                        refine lv_iconst (v := 4) hx hb dX11_pass_69 (by decide) ?_
                        refine lv_icmp_ge (tgt := 87) hx hb dX11_pass_70 (by decide) (fun hc => absurd hc (by decide)) (fun _ => ?_)
                        refine lv_aload_n hx hb dX11_pass_73 rfl (lv_at hl 2 rfl) ?_
                        refine nb_getr hA hx hb hT hK hown hW fl_X11_37 hF.1 (v := .ref (A 6)) rfl dX11_pass_74 ?_
                        refine lv_iload hx hb dX11_pass_77 (lv_at hl 0 rfl) ?_
                        refine lv_iconst (v := 0) hx hb dX11_pass_79 (by decide) ?_
                        obtain ⟨f173, hf173⟩ := hF.2.2.1
                        refine nb_iastr hA hx hb hK hW hS 0 hf173 rfl (inb_in (by decide)) dX11_pass_80 (fun H locs G172 hEG172 hcG172 hW hS => ?_)
                        replace hF := hF.teach hEG172 hcG172
                        refine lv_iinc (v := 3) (lv' := [(5, .int 3), (4, .int 7), (0, .ref (A 0)), (1, .int x1), (2, .int x2), (3, .int x3)]) hx hb dX11_pass_81 hl (k := 0) rfl (by decide) (by decide) rfl (fun ls hl => ?_)
                        refine lv_goto (tgt := 67) hx hb dX11_pass_84 (by decide) ?_
                        refine lv_iload hx hb dX11_pass_67 (lv_at hl 0 rfl) ?_
                        refine lv_iconst (v := 4) hx hb dX11_pass_69 (by decide) ?_
                        refine lv_icmp_ge (tgt := 87) hx hb dX11_pass_70 (by decide) (fun hc => absurd hc (by decide)) (fun _ => ?_)
                        refine lv_aload_n hx hb dX11_pass_73 rfl (lv_at hl 2 rfl) ?_
                        refine nb_getr hA hx hb hT hK hown hW fl_X11_37 hF.1 (v := .ref (A 6)) rfl dX11_pass_74 ?_
                        refine lv_iload hx hb dX11_pass_77 (lv_at hl 0 rfl) ?_
                        refine lv_iconst (v := 0) hx hb dX11_pass_79 (by decide) ?_
                        obtain ⟨f175, hf175⟩ := hF.2.2.1
                        refine nb_iastr hA hx hb hK hW hS 0 hf175 rfl (inb_in (by decide)) dX11_pass_80 (fun H locs G174 hEG174 hcG174 hW hS => ?_)
                        replace hF := hF.teach hEG174 hcG174
                        refine lv_iinc (v := 4) (lv' := [(5, .int 4), (4, .int 7), (0, .ref (A 0)), (1, .int x1), (2, .int x2), (3, .int x3)]) hx hb dX11_pass_81 hl (k := 0) rfl (by decide) (by decide) rfl (fun ls hl => ?_)
                        refine lv_goto (tgt := 67) hx hb dX11_pass_84 (by decide) ?_
                        refine lv_iload hx hb dX11_pass_67 (lv_at hl 0 rfl) ?_
                        refine lv_iconst (v := 4) hx hb dX11_pass_69 (by decide) ?_
                        refine lv_icmp_ge (tgt := 87) hx hb dX11_pass_70 (by decide) (fun _ => ?_) (fun hc => absurd (by decide) hc)
                        refine lv_aload_n hx hb dX11_pass_87 rfl (lv_at hl 2 rfl) ?_
                        refine lv_iconst (v := 0) hx hb dX11_pass_88 (by decide) ?_
                        obtain ⟨u176, eu176, h⟩ := nm_s h
                        refine nb_putr hA hx hb hT hK hown hW hS fl_X11_216 tyX11 tyX11_ok nmX11 hF.1 (v := .int 0) rfl rfl rfl (Nat.le_of_ble_eq_true rfl) dX11_pass_89 (fun H locs G177 hEG177 hcG177 hW hS => ?_)
                        replace hF := hF.put (M' := u176) hEG177 hcG177 (by rw [eu176]; rfl) (by rw [eu176]; rfl)
                        replace hw : fmO u176 = fmO M := by rw [eu176]; exact hw
                        refine lv_aload_n hx hb dX11_pass_92 rfl (lv_at hl 2 rfl) ?_
                        refine lv_dup hx hb dX11_pass_93 rfl ?_
                        refine nb_getr hA hx hb hT hK hown hW fl_X11_210 hF.1 (v := .int (u176 11 0 0)) rfl dX11_pass_94 ?_
                        refine lv_iconst (v := 1) hx hb dX11_pass_97 (by decide) ?_
                        refine lv_iadd hx hb dX11_pass_98 ?_
                        obtain ⟨u178, eu178, h⟩ := nm_s h
                        refine nb_putr hA hx hb hT hK hown hW hS fl_X11_210 tyX11 tyX11_ok nmX11 hF.1 (v := .int ((u176 11 0 0) + 1)) rfl rfl rfl (Nat.le_of_ble_eq_true rfl) dX11_pass_99 (fun H locs G179 hEG179 hcG179 hW hS => ?_)
                        replace hF := hF.put (M' := u178) hEG179 hcG179 (by rw [eu178]; rfl) (by rw [eu178]; rfl)
                        replace hw : fmO u178 = fmO M := by rw [eu178]; exact hw
                        refine lv_iinc (v := 8) (lv' := [(4, .int 8), (5, .int 4), (0, .ref (A 0)), (1, .int x1), (2, .int x2), (3, .int x3)]) hx hb dX11_pass_102 hl (k := 1) rfl (by decide) (by decide) rfl (fun ls hl => ?_)
                        refine lv_goto (tgt := 48) hx hb dX11_pass_105 (by decide) ?_
                        refine lv_iload hx hb dX11_pass_48 (lv_at hl 0 rfl) ?_
                        refine lv_iload_n hx hb dX11_pass_50 rfl (lv_at hl 3 rfl) ?_
                        refine lv_icmp_ge (tgt := 108) hx hb dX11_pass_51 (by decide) (fun c180 => ?_) (fun c180 => ?_)
                        · replace h := ite_t h c180
                          refine lv_aload_n hx hb dX11_pass_108 rfl (lv_at hl 2 rfl) ?_
                          refine nb_getr hA hx hb hT hK hown hW fl_X11_210 hF.1 (v := .int (u178 11 0 0)) rfl dX11_pass_109 ?_
                          refine W.widen (k := 60) (n := 240) (Nat.le_of_ble_eq_true rfl) (Nat.le_of_ble_eq_true rfl) ?_
                          exact fm_iw hx hb hr rfl hlocks hW (hF.w hw) hS dX11_pass_112 h
                        · replace h := ite_f h c180
                          refine lv_aload_n hx hb dX11_pass_54 rfl (lv_at hl 2 rfl) ?_
                          obtain ⟨_, h181, h⟩ := ob_s h
                          refine fm_cv (nb_runVr (As := []) (rest := []) hA hx hb hml hown hSW hS hW (m_X11_forget l z ad _ hA A u178 hF h181) mf_X11_forget lk_X11_233 hF.1 rfl rfl ⟨rfl, rfl⟩ ⟨Nat.le_of_ble_eq_true rfl, Nat.le_of_ble_eq_true rfl⟩ hl.1 (Nat.le_of_ble_eq_true rfl) dX11_pass_55 ⟨Nat.le_of_ble_eq_true rfl, Nat.le_of_ble_eq_true rfl⟩) hS (fun H locs G183 hEG183 hW hS => ?_)
                          replace hF := hF.ext0 hEG183
                          refine lv_aload_n hx hb dX11_pass_58 rfl (lv_at hl 2 rfl) ?_
                          refine lv_iload_n hx hb dX11_pass_59 rfl (lv_at hl 4 rfl) ?_
                          refine lv_iload_n hx hb dX11_pass_60 rfl (lv_at hl 5 rfl) ?_
                          obtain ⟨_, h184, h⟩ := ob_s h
                          refine fm_cv (nb_runVr (As := [.int x2, .int x3]) (rest := []) hA hx hb hml hown hSW hS hW (m_X11_weather l z ad _ hA A u178 hF x2 x3 h184) mf_X11_weather lk_X11_236 hF.1 rfl rfl ⟨rfl, rfl⟩ ⟨Nat.le_of_ble_eq_true rfl, Nat.le_of_ble_eq_true rfl⟩ hl.1 (Nat.le_of_ble_eq_true rfl) dX11_pass_61 ⟨Nat.le_of_ble_eq_true rfl, Nat.le_of_ble_eq_true rfl⟩) hS (fun H locs G186 hEG186 hW hS => ?_)
                          replace hF := hF.ext0 hEG186
                          refine lv_iconst (v := 0) hx hb dX11_pass_64 (by decide) ?_
                          refine lv_istore (lv' := [(5, .int 0), (4, .int 8), (0, .ref (A 0)), (1, .int x1), (2, .int x2), (3, .int x3)]) hx hb dX11_pass_65 hl (by decide) rfl (fun ls hl => ?_)
                          refine lv_iload hx hb dX11_pass_67 (lv_at hl 0 rfl) ?_
                          refine lv_iconst (v := 4) hx hb dX11_pass_69 (by decide) ?_
                          refine lv_icmp_ge (tgt := 87) hx hb dX11_pass_70 (by decide) (fun hc => absurd hc (by decide)) (fun _ => ?_)
                          refine lv_aload_n hx hb dX11_pass_73 rfl (lv_at hl 2 rfl) ?_
                          refine nb_getr hA hx hb hT hK hown hW fl_X11_37 hF.1 (v := .ref (A 6)) rfl dX11_pass_74 ?_
                          refine lv_iload hx hb dX11_pass_77 (lv_at hl 0 rfl) ?_
                          refine lv_iconst (v := 0) hx hb dX11_pass_79 (by decide) ?_
                          obtain ⟨f188, hf188⟩ := hF.2.2.1
                          refine nb_iastr hA hx hb hK hW hS 0 hf188 rfl (inb_in (by decide)) dX11_pass_80 (fun H locs G187 hEG187 hcG187 hW hS => ?_)
                          replace hF := hF.teach hEG187 hcG187
                          refine lv_iinc (v := 1) (lv' := [(5, .int 1), (4, .int 8), (0, .ref (A 0)), (1, .int x1), (2, .int x2), (3, .int x3)]) hx hb dX11_pass_81 hl (k := 0) rfl (by decide) (by decide) rfl (fun ls hl => ?_)
                          refine lv_goto (tgt := 67) hx hb dX11_pass_84 (by decide) ?_
                          refine lv_iload hx hb dX11_pass_67 (lv_at hl 0 rfl) ?_
                          refine lv_iconst (v := 4) hx hb dX11_pass_69 (by decide) ?_
                          refine lv_icmp_ge (tgt := 87) hx hb dX11_pass_70 (by decide) (fun hc => absurd hc (by decide)) (fun _ => ?_)
                          refine lv_aload_n hx hb dX11_pass_73 rfl (lv_at hl 2 rfl) ?_
                          refine nb_getr hA hx hb hT hK hown hW fl_X11_37 hF.1 (v := .ref (A 6)) rfl dX11_pass_74 ?_
                          refine lv_iload hx hb dX11_pass_77 (lv_at hl 0 rfl) ?_
                          refine lv_iconst (v := 0) hx hb dX11_pass_79 (by decide) ?_
                          obtain ⟨f190, hf190⟩ := hF.2.2.1
                          refine nb_iastr hA hx hb hK hW hS 0 hf190 rfl (inb_in (by decide)) dX11_pass_80 (fun H locs G189 hEG189 hcG189 hW hS => ?_)
                          replace hF := hF.teach hEG189 hcG189
                          refine lv_iinc (v := 2) (lv' := [(5, .int 2), (4, .int 8), (0, .ref (A 0)), (1, .int x1), (2, .int x2), (3, .int x3)]) hx hb dX11_pass_81 hl (k := 0) rfl (by decide) (by decide) rfl (fun ls hl => ?_)
                          refine lv_goto (tgt := 67) hx hb dX11_pass_84 (by decide) ?_
                          refine lv_iload hx hb dX11_pass_67 (lv_at hl 0 rfl) ?_
                          refine lv_iconst (v := 4) hx hb dX11_pass_69 (by decide) ?_
                          refine lv_icmp_ge (tgt := 87) hx hb dX11_pass_70 (by decide) (fun hc => absurd hc (by decide)) (fun _ => ?_)
                          refine lv_aload_n hx hb dX11_pass_73 rfl (lv_at hl 2 rfl) ?_
                          refine nb_getr hA hx hb hT hK hown hW fl_X11_37 hF.1 (v := .ref (A 6)) rfl dX11_pass_74 ?_
                          refine lv_iload hx hb dX11_pass_77 (lv_at hl 0 rfl) ?_
                          refine lv_iconst (v := 0) hx hb dX11_pass_79 (by decide) ?_
                          obtain ⟨f192, hf192⟩ := hF.2.2.1
                          refine nb_iastr hA hx hb hK hW hS 0 hf192 rfl (inb_in (by decide)) dX11_pass_80 (fun H locs G191 hEG191 hcG191 hW hS => ?_)
                          replace hF := hF.teach hEG191 hcG191
                          refine lv_iinc (v := 3) (lv' := [(5, .int 3), (4, .int 8), (0, .ref (A 0)), (1, .int x1), (2, .int x2), (3, .int x3)]) hx hb dX11_pass_81 hl (k := 0) rfl (by decide) (by decide) rfl (fun ls hl => ?_)
                          refine lv_goto (tgt := 67) hx hb dX11_pass_84 (by decide) ?_
                          refine lv_iload hx hb dX11_pass_67 (lv_at hl 0 rfl) ?_
                          refine lv_iconst (v := 4) hx hb dX11_pass_69 (by decide) ?_
                          refine lv_icmp_ge (tgt := 87) hx hb dX11_pass_70 (by decide) (fun hc => absurd hc (by decide)) (fun _ => ?_)
                          refine lv_aload_n hx hb dX11_pass_73 rfl (lv_at hl 2 rfl) ?_
                          refine nb_getr hA hx hb hT hK hown hW fl_X11_37 hF.1 (v := .ref (A 6)) rfl dX11_pass_74 ?_
                          refine lv_iload hx hb dX11_pass_77 (lv_at hl 0 rfl) ?_
                          refine lv_iconst (v := 0) hx hb dX11_pass_79 (by decide) ?_
                          obtain ⟨f194, hf194⟩ := hF.2.2.1
                          refine nb_iastr hA hx hb hK hW hS 0 hf194 rfl (inb_in (by decide)) dX11_pass_80 (fun H locs G193 hEG193 hcG193 hW hS => ?_)
                          replace hF := hF.teach hEG193 hcG193
                          refine lv_iinc (v := 4) (lv' := [(5, .int 4), (4, .int 8), (0, .ref (A 0)), (1, .int x1), (2, .int x2), (3, .int x3)]) hx hb dX11_pass_81 hl (k := 0) rfl (by decide) (by decide) rfl (fun ls hl => ?_)
                          refine lv_goto (tgt := 67) hx hb dX11_pass_84 (by decide) ?_
                          refine lv_iload hx hb dX11_pass_67 (lv_at hl 0 rfl) ?_
                          refine lv_iconst (v := 4) hx hb dX11_pass_69 (by decide) ?_
                          refine lv_icmp_ge (tgt := 87) hx hb dX11_pass_70 (by decide) (fun _ => ?_) (fun hc => absurd (by decide) hc)
                          refine lv_aload_n hx hb dX11_pass_87 rfl (lv_at hl 2 rfl) ?_
                          refine lv_iconst (v := 0) hx hb dX11_pass_88 (by decide) ?_
                          obtain ⟨u195, eu195, h⟩ := nm_s h
                          refine nb_putr hA hx hb hT hK hown hW hS fl_X11_216 tyX11 tyX11_ok nmX11 hF.1 (v := .int 0) rfl rfl rfl (Nat.le_of_ble_eq_true rfl) dX11_pass_89 (fun H locs G196 hEG196 hcG196 hW hS => ?_)
                          replace hF := hF.put (M' := u195) hEG196 hcG196 (by rw [eu195]; rfl) (by rw [eu195]; rfl)
                          replace hw : fmO u195 = fmO M := by rw [eu195]; exact hw
                          refine lv_aload_n hx hb dX11_pass_92 rfl (lv_at hl 2 rfl) ?_
                          refine lv_dup hx hb dX11_pass_93 rfl ?_
                          refine nb_getr hA hx hb hT hK hown hW fl_X11_210 hF.1 (v := .int (u195 11 0 0)) rfl dX11_pass_94 ?_
                          refine lv_iconst (v := 1) hx hb dX11_pass_97 (by decide) ?_
                          refine lv_iadd hx hb dX11_pass_98 ?_
                          obtain ⟨u197, eu197, h⟩ := nm_s h
                          refine nb_putr hA hx hb hT hK hown hW hS fl_X11_210 tyX11 tyX11_ok nmX11 hF.1 (v := .int ((u195 11 0 0) + 1)) rfl rfl rfl (Nat.le_of_ble_eq_true rfl) dX11_pass_99 (fun H locs G198 hEG198 hcG198 hW hS => ?_)
                          replace hF := hF.put (M' := u197) hEG198 hcG198 (by rw [eu197]; rfl) (by rw [eu197]; rfl)
                          replace hw : fmO u197 = fmO M := by rw [eu197]; exact hw
                          refine lv_iinc (v := 9) (lv' := [(4, .int 9), (5, .int 4), (0, .ref (A 0)), (1, .int x1), (2, .int x2), (3, .int x3)]) hx hb dX11_pass_102 hl (k := 1) rfl (by decide) (by decide) rfl (fun ls hl => ?_)
                          refine lv_goto (tgt := 48) hx hb dX11_pass_105 (by decide) ?_
                          refine lv_iload hx hb dX11_pass_48 (lv_at hl 0 rfl) ?_
                          refine lv_iload_n hx hb dX11_pass_50 rfl (lv_at hl 3 rfl) ?_
                          refine lv_icmp_ge (tgt := 108) hx hb dX11_pass_51 (by decide) (fun c199 => ?_) (fun c199 => ?_)
                          · replace h := ite_t h c199
                            refine lv_aload_n hx hb dX11_pass_108 rfl (lv_at hl 2 rfl) ?_
                            refine nb_getr hA hx hb hT hK hown hW fl_X11_210 hF.1 (v := .int (u197 11 0 0)) rfl dX11_pass_109 ?_
                            refine W.widen (k := 60) (n := 240) (Nat.le_of_ble_eq_true rfl) (Nat.le_of_ble_eq_true rfl) ?_
                            exact fm_iw hx hb hr rfl hlocks hW (hF.w hw) hS dX11_pass_112 h
                          · replace h := ite_f h c199
                            refine lv_aload_n hx hb dX11_pass_54 rfl (lv_at hl 2 rfl) ?_
                            obtain ⟨_, h200, h⟩ := ob_s h
                            refine fm_cv (nb_runVr (As := []) (rest := []) hA hx hb hml hown hSW hS hW (m_X11_forget l z ad _ hA A u197 hF h200) mf_X11_forget lk_X11_233 hF.1 rfl rfl ⟨rfl, rfl⟩ ⟨Nat.le_of_ble_eq_true rfl, Nat.le_of_ble_eq_true rfl⟩ hl.1 (Nat.le_of_ble_eq_true rfl) dX11_pass_55 ⟨Nat.le_of_ble_eq_true rfl, Nat.le_of_ble_eq_true rfl⟩) hS (fun H locs G202 hEG202 hW hS => ?_)
                            replace hF := hF.ext0 hEG202
                            refine lv_aload_n hx hb dX11_pass_58 rfl (lv_at hl 2 rfl) ?_
                            refine lv_iload_n hx hb dX11_pass_59 rfl (lv_at hl 4 rfl) ?_
                            refine lv_iload_n hx hb dX11_pass_60 rfl (lv_at hl 5 rfl) ?_
                            obtain ⟨_, h203, h⟩ := ob_s h
                            refine fm_cv (nb_runVr (As := [.int x2, .int x3]) (rest := []) hA hx hb hml hown hSW hS hW (m_X11_weather l z ad _ hA A u197 hF x2 x3 h203) mf_X11_weather lk_X11_236 hF.1 rfl rfl ⟨rfl, rfl⟩ ⟨Nat.le_of_ble_eq_true rfl, Nat.le_of_ble_eq_true rfl⟩ hl.1 (Nat.le_of_ble_eq_true rfl) dX11_pass_61 ⟨Nat.le_of_ble_eq_true rfl, Nat.le_of_ble_eq_true rfl⟩) hS (fun H locs G205 hEG205 hW hS => ?_)
                            replace hF := hF.ext0 hEG205
                            refine lv_iconst (v := 0) hx hb dX11_pass_64 (by decide) ?_
                            refine lv_istore (lv' := [(5, .int 0), (4, .int 9), (0, .ref (A 0)), (1, .int x1), (2, .int x2), (3, .int x3)]) hx hb dX11_pass_65 hl (by decide) rfl (fun ls hl => ?_)
                            refine lv_iload hx hb dX11_pass_67 (lv_at hl 0 rfl) ?_
                            refine lv_iconst (v := 4) hx hb dX11_pass_69 (by decide) ?_
                            refine lv_icmp_ge (tgt := 87) hx hb dX11_pass_70 (by decide) (fun hc => absurd hc (by decide)) (fun _ => ?_)
                            refine lv_aload_n hx hb dX11_pass_73 rfl (lv_at hl 2 rfl) ?_
                            refine nb_getr hA hx hb hT hK hown hW fl_X11_37 hF.1 (v := .ref (A 6)) rfl dX11_pass_74 ?_
                            refine lv_iload hx hb dX11_pass_77 (lv_at hl 0 rfl) ?_
                            refine lv_iconst (v := 0) hx hb dX11_pass_79 (by decide) ?_
                            obtain ⟨f207, hf207⟩ := hF.2.2.1
                            refine nb_iastr hA hx hb hK hW hS 0 hf207 rfl (inb_in (by decide)) dX11_pass_80 (fun H locs G206 hEG206 hcG206 hW hS => ?_)
                            replace hF := hF.teach hEG206 hcG206
                            refine lv_iinc (v := 1) (lv' := [(5, .int 1), (4, .int 9), (0, .ref (A 0)), (1, .int x1), (2, .int x2), (3, .int x3)]) hx hb dX11_pass_81 hl (k := 0) rfl (by decide) (by decide) rfl (fun ls hl => ?_)
                            refine lv_goto (tgt := 67) hx hb dX11_pass_84 (by decide) ?_
                            refine lv_iload hx hb dX11_pass_67 (lv_at hl 0 rfl) ?_
                            refine lv_iconst (v := 4) hx hb dX11_pass_69 (by decide) ?_
                            refine lv_icmp_ge (tgt := 87) hx hb dX11_pass_70 (by decide) (fun hc => absurd hc (by decide)) (fun _ => ?_)
                            refine lv_aload_n hx hb dX11_pass_73 rfl (lv_at hl 2 rfl) ?_
                            refine nb_getr hA hx hb hT hK hown hW fl_X11_37 hF.1 (v := .ref (A 6)) rfl dX11_pass_74 ?_
                            refine lv_iload hx hb dX11_pass_77 (lv_at hl 0 rfl) ?_
                            refine lv_iconst (v := 0) hx hb dX11_pass_79 (by decide) ?_
                            obtain ⟨f209, hf209⟩ := hF.2.2.1
                            refine nb_iastr hA hx hb hK hW hS 0 hf209 rfl (inb_in (by decide)) dX11_pass_80 (fun H locs G208 hEG208 hcG208 hW hS => ?_)
                            replace hF := hF.teach hEG208 hcG208
                            refine lv_iinc (v := 2) (lv' := [(5, .int 2), (4, .int 9), (0, .ref (A 0)), (1, .int x1), (2, .int x2), (3, .int x3)]) hx hb dX11_pass_81 hl (k := 0) rfl (by decide) (by decide) rfl (fun ls hl => ?_)
                            refine lv_goto (tgt := 67) hx hb dX11_pass_84 (by decide) ?_
                            refine lv_iload hx hb dX11_pass_67 (lv_at hl 0 rfl) ?_
                            refine lv_iconst (v := 4) hx hb dX11_pass_69 (by decide) ?_
                            refine lv_icmp_ge (tgt := 87) hx hb dX11_pass_70 (by decide) (fun hc => absurd hc (by decide)) (fun _ => ?_)
                            refine lv_aload_n hx hb dX11_pass_73 rfl (lv_at hl 2 rfl) ?_
                            refine nb_getr hA hx hb hT hK hown hW fl_X11_37 hF.1 (v := .ref (A 6)) rfl dX11_pass_74 ?_
                            refine lv_iload hx hb dX11_pass_77 (lv_at hl 0 rfl) ?_
                            refine lv_iconst (v := 0) hx hb dX11_pass_79 (by decide) ?_
                            obtain ⟨f211, hf211⟩ := hF.2.2.1
                            refine nb_iastr hA hx hb hK hW hS 0 hf211 rfl (inb_in (by decide)) dX11_pass_80 (fun H locs G210 hEG210 hcG210 hW hS => ?_)
                            replace hF := hF.teach hEG210 hcG210
                            refine lv_iinc (v := 3) (lv' := [(5, .int 3), (4, .int 9), (0, .ref (A 0)), (1, .int x1), (2, .int x2), (3, .int x3)]) hx hb dX11_pass_81 hl (k := 0) rfl (by decide) (by decide) rfl (fun ls hl => ?_)
                            refine lv_goto (tgt := 67) hx hb dX11_pass_84 (by decide) ?_
                            refine lv_iload hx hb dX11_pass_67 (lv_at hl 0 rfl) ?_
                            refine lv_iconst (v := 4) hx hb dX11_pass_69 (by decide) ?_
                            refine lv_icmp_ge (tgt := 87) hx hb dX11_pass_70 (by decide) (fun hc => absurd hc (by decide)) (fun _ => ?_)
                            refine lv_aload_n hx hb dX11_pass_73 rfl (lv_at hl 2 rfl) ?_
                            refine nb_getr hA hx hb hT hK hown hW fl_X11_37 hF.1 (v := .ref (A 6)) rfl dX11_pass_74 ?_
                            refine lv_iload hx hb dX11_pass_77 (lv_at hl 0 rfl) ?_
                            refine lv_iconst (v := 0) hx hb dX11_pass_79 (by decide) ?_
                            obtain ⟨f213, hf213⟩ := hF.2.2.1
                            refine nb_iastr hA hx hb hK hW hS 0 hf213 rfl (inb_in (by decide)) dX11_pass_80 (fun H locs G212 hEG212 hcG212 hW hS => ?_)
                            replace hF := hF.teach hEG212 hcG212
                            refine lv_iinc (v := 4) (lv' := [(5, .int 4), (4, .int 9), (0, .ref (A 0)), (1, .int x1), (2, .int x2), (3, .int x3)]) hx hb dX11_pass_81 hl (k := 0) rfl (by decide) (by decide) rfl (fun ls hl => ?_)
                            refine lv_goto (tgt := 67) hx hb dX11_pass_84 (by decide) ?_
                            refine lv_iload hx hb dX11_pass_67 (lv_at hl 0 rfl) ?_
                            refine lv_iconst (v := 4) hx hb dX11_pass_69 (by decide) ?_
                            refine lv_icmp_ge (tgt := 87) hx hb dX11_pass_70 (by decide) (fun _ => ?_) (fun hc => absurd (by decide) hc)
                            refine lv_aload_n hx hb dX11_pass_87 rfl (lv_at hl 2 rfl) ?_
                            refine lv_iconst (v := 0) hx hb dX11_pass_88 (by decide) ?_
                            obtain ⟨u214, eu214, h⟩ := nm_s h
                            refine nb_putr hA hx hb hT hK hown hW hS fl_X11_216 tyX11 tyX11_ok nmX11 hF.1 (v := .int 0) rfl rfl rfl (Nat.le_of_ble_eq_true rfl) dX11_pass_89 (fun H locs G215 hEG215 hcG215 hW hS => ?_)
                            replace hF := hF.put (M' := u214) hEG215 hcG215 (by rw [eu214]; rfl) (by rw [eu214]; rfl)
                            replace hw : fmO u214 = fmO M := by rw [eu214]; exact hw
                            refine lv_aload_n hx hb dX11_pass_92 rfl (lv_at hl 2 rfl) ?_
                            refine lv_dup hx hb dX11_pass_93 rfl ?_
                            refine nb_getr hA hx hb hT hK hown hW fl_X11_210 hF.1 (v := .int (u214 11 0 0)) rfl dX11_pass_94 ?_
                            refine lv_iconst (v := 1) hx hb dX11_pass_97 (by decide) ?_
                            refine lv_iadd hx hb dX11_pass_98 ?_
                            obtain ⟨u216, eu216, h⟩ := nm_s h
                            refine nb_putr hA hx hb hT hK hown hW hS fl_X11_210 tyX11 tyX11_ok nmX11 hF.1 (v := .int ((u214 11 0 0) + 1)) rfl rfl rfl (Nat.le_of_ble_eq_true rfl) dX11_pass_99 (fun H locs G217 hEG217 hcG217 hW hS => ?_)
                            replace hF := hF.put (M' := u216) hEG217 hcG217 (by rw [eu216]; rfl) (by rw [eu216]; rfl)
                            replace hw : fmO u216 = fmO M := by rw [eu216]; exact hw
                            refine lv_iinc (v := 10) (lv' := [(4, .int 10), (5, .int 4), (0, .ref (A 0)), (1, .int x1), (2, .int x2), (3, .int x3)]) hx hb dX11_pass_102 hl (k := 1) rfl (by decide) (by decide) rfl (fun ls hl => ?_)
                            refine lv_goto (tgt := 48) hx hb dX11_pass_105 (by decide) ?_
                            refine lv_iload hx hb dX11_pass_48 (lv_at hl 0 rfl) ?_
                            refine lv_iload_n hx hb dX11_pass_50 rfl (lv_at hl 3 rfl) ?_
                            refine lv_icmp_ge (tgt := 108) hx hb dX11_pass_51 (by decide) (fun c218 => ?_) (fun c218 => ?_)
                            · replace h := ite_t h c218
                              refine lv_aload_n hx hb dX11_pass_108 rfl (lv_at hl 2 rfl) ?_
                              refine nb_getr hA hx hb hT hK hown hW fl_X11_210 hF.1 (v := .int (u216 11 0 0)) rfl dX11_pass_109 ?_
                              refine W.widen (k := 60) (n := 240) (Nat.le_of_ble_eq_true rfl) (Nat.le_of_ble_eq_true rfl) ?_
                              exact fm_iw hx hb hr rfl hlocks hW (hF.w hw) hS dX11_pass_112 h
                            · replace h := ite_f h c218
                              refine lv_aload_n hx hb dX11_pass_54 rfl (lv_at hl 2 rfl) ?_
                              obtain ⟨_, h219, h⟩ := ob_s h
                              refine fm_cv (nb_runVr (As := []) (rest := []) hA hx hb hml hown hSW hS hW (m_X11_forget l z ad _ hA A u216 hF h219) mf_X11_forget lk_X11_233 hF.1 rfl rfl ⟨rfl, rfl⟩ ⟨Nat.le_of_ble_eq_true rfl, Nat.le_of_ble_eq_true rfl⟩ hl.1 (Nat.le_of_ble_eq_true rfl) dX11_pass_55 ⟨Nat.le_of_ble_eq_true rfl, Nat.le_of_ble_eq_true rfl⟩) hS (fun H locs G221 hEG221 hW hS => ?_)
                              replace hF := hF.ext0 hEG221
                              refine lv_aload_n hx hb dX11_pass_58 rfl (lv_at hl 2 rfl) ?_
                              refine lv_iload_n hx hb dX11_pass_59 rfl (lv_at hl 4 rfl) ?_
                              refine lv_iload_n hx hb dX11_pass_60 rfl (lv_at hl 5 rfl) ?_
                              obtain ⟨_, h222, h⟩ := ob_s h
                              refine fm_cv (nb_runVr (As := [.int x2, .int x3]) (rest := []) hA hx hb hml hown hSW hS hW (m_X11_weather l z ad _ hA A u216 hF x2 x3 h222) mf_X11_weather lk_X11_236 hF.1 rfl rfl ⟨rfl, rfl⟩ ⟨Nat.le_of_ble_eq_true rfl, Nat.le_of_ble_eq_true rfl⟩ hl.1 (Nat.le_of_ble_eq_true rfl) dX11_pass_61 ⟨Nat.le_of_ble_eq_true rfl, Nat.le_of_ble_eq_true rfl⟩) hS (fun H locs G224 hEG224 hW hS => ?_)
                              replace hF := hF.ext0 hEG224
                              refine lv_iconst (v := 0) hx hb dX11_pass_64 (by decide) ?_
                              refine lv_istore (lv' := [(5, .int 0), (4, .int 10), (0, .ref (A 0)), (1, .int x1), (2, .int x2), (3, .int x3)]) hx hb dX11_pass_65 hl (by decide) rfl (fun ls hl => ?_)
                              refine lv_iload hx hb dX11_pass_67 (lv_at hl 0 rfl) ?_
                              refine lv_iconst (v := 4) hx hb dX11_pass_69 (by decide) ?_
                              refine lv_icmp_ge (tgt := 87) hx hb dX11_pass_70 (by decide) (fun hc => absurd hc (by decide)) (fun _ => ?_)
                              refine lv_aload_n hx hb dX11_pass_73 rfl (lv_at hl 2 rfl) ?_
                              refine nb_getr hA hx hb hT hK hown hW fl_X11_37 hF.1 (v := .ref (A 6)) rfl dX11_pass_74 ?_
                              refine lv_iload hx hb dX11_pass_77 (lv_at hl 0 rfl) ?_
                              refine lv_iconst (v := 0) hx hb dX11_pass_79 (by decide) ?_
                              obtain ⟨f226, hf226⟩ := hF.2.2.1
                              refine nb_iastr hA hx hb hK hW hS 0 hf226 rfl (inb_in (by decide)) dX11_pass_80 (fun H locs G225 hEG225 hcG225 hW hS => ?_)
                              replace hF := hF.teach hEG225 hcG225
                              refine lv_iinc (v := 1) (lv' := [(5, .int 1), (4, .int 10), (0, .ref (A 0)), (1, .int x1), (2, .int x2), (3, .int x3)]) hx hb dX11_pass_81 hl (k := 0) rfl (by decide) (by decide) rfl (fun ls hl => ?_)
                              refine lv_goto (tgt := 67) hx hb dX11_pass_84 (by decide) ?_
                              refine lv_iload hx hb dX11_pass_67 (lv_at hl 0 rfl) ?_
                              refine lv_iconst (v := 4) hx hb dX11_pass_69 (by decide) ?_
                              refine lv_icmp_ge (tgt := 87) hx hb dX11_pass_70 (by decide) (fun hc => absurd hc (by decide)) (fun _ => ?_)
                              refine lv_aload_n hx hb dX11_pass_73 rfl (lv_at hl 2 rfl) ?_
                              refine nb_getr hA hx hb hT hK hown hW fl_X11_37 hF.1 (v := .ref (A 6)) rfl dX11_pass_74 ?_
                              refine lv_iload hx hb dX11_pass_77 (lv_at hl 0 rfl) ?_
                              refine lv_iconst (v := 0) hx hb dX11_pass_79 (by decide) ?_
                              obtain ⟨f228, hf228⟩ := hF.2.2.1
                              refine nb_iastr hA hx hb hK hW hS 0 hf228 rfl (inb_in (by decide)) dX11_pass_80 (fun H locs G227 hEG227 hcG227 hW hS => ?_)
                              replace hF := hF.teach hEG227 hcG227
                              refine lv_iinc (v := 2) (lv' := [(5, .int 2), (4, .int 10), (0, .ref (A 0)), (1, .int x1), (2, .int x2), (3, .int x3)]) hx hb dX11_pass_81 hl (k := 0) rfl (by decide) (by decide) rfl (fun ls hl => ?_)
                              refine lv_goto (tgt := 67) hx hb dX11_pass_84 (by decide) ?_
                              refine lv_iload hx hb dX11_pass_67 (lv_at hl 0 rfl) ?_
                              refine lv_iconst (v := 4) hx hb dX11_pass_69 (by decide) ?_
                              refine lv_icmp_ge (tgt := 87) hx hb dX11_pass_70 (by decide) (fun hc => absurd hc (by decide)) (fun _ => ?_)
                              refine lv_aload_n hx hb dX11_pass_73 rfl (lv_at hl 2 rfl) ?_
                              refine nb_getr hA hx hb hT hK hown hW fl_X11_37 hF.1 (v := .ref (A 6)) rfl dX11_pass_74 ?_
                              refine lv_iload hx hb dX11_pass_77 (lv_at hl 0 rfl) ?_
                              refine lv_iconst (v := 0) hx hb dX11_pass_79 (by decide) ?_
                              obtain ⟨f230, hf230⟩ := hF.2.2.1
                              refine nb_iastr hA hx hb hK hW hS 0 hf230 rfl (inb_in (by decide)) dX11_pass_80 (fun H locs G229 hEG229 hcG229 hW hS => ?_)
                              replace hF := hF.teach hEG229 hcG229
                              refine lv_iinc (v := 3) (lv' := [(5, .int 3), (4, .int 10), (0, .ref (A 0)), (1, .int x1), (2, .int x2), (3, .int x3)]) hx hb dX11_pass_81 hl (k := 0) rfl (by decide) (by decide) rfl (fun ls hl => ?_)
                              refine lv_goto (tgt := 67) hx hb dX11_pass_84 (by decide) ?_
                              refine lv_iload hx hb dX11_pass_67 (lv_at hl 0 rfl) ?_
                              refine lv_iconst (v := 4) hx hb dX11_pass_69 (by decide) ?_
                              refine lv_icmp_ge (tgt := 87) hx hb dX11_pass_70 (by decide) (fun hc => absurd hc (by decide)) (fun _ => ?_)
                              refine lv_aload_n hx hb dX11_pass_73 rfl (lv_at hl 2 rfl) ?_
                              refine nb_getr hA hx hb hT hK hown hW fl_X11_37 hF.1 (v := .ref (A 6)) rfl dX11_pass_74 ?_
                              refine lv_iload hx hb dX11_pass_77 (lv_at hl 0 rfl) ?_
                              refine lv_iconst (v := 0) hx hb dX11_pass_79 (by decide) ?_
                              obtain ⟨f232, hf232⟩ := hF.2.2.1
                              refine nb_iastr hA hx hb hK hW hS 0 hf232 rfl (inb_in (by decide)) dX11_pass_80 (fun H locs G231 hEG231 hcG231 hW hS => ?_)
                              replace hF := hF.teach hEG231 hcG231
                              refine lv_iinc (v := 4) (lv' := [(5, .int 4), (4, .int 10), (0, .ref (A 0)), (1, .int x1), (2, .int x2), (3, .int x3)]) hx hb dX11_pass_81 hl (k := 0) rfl (by decide) (by decide) rfl (fun ls hl => ?_)
                              refine lv_goto (tgt := 67) hx hb dX11_pass_84 (by decide) ?_
                              refine lv_iload hx hb dX11_pass_67 (lv_at hl 0 rfl) ?_
                              refine lv_iconst (v := 4) hx hb dX11_pass_69 (by decide) ?_
                              refine lv_icmp_ge (tgt := 87) hx hb dX11_pass_70 (by decide) (fun _ => ?_) (fun hc => absurd (by decide) hc)
                              refine lv_aload_n hx hb dX11_pass_87 rfl (lv_at hl 2 rfl) ?_
                              refine lv_iconst (v := 0) hx hb dX11_pass_88 (by decide) ?_
                              obtain ⟨u233, eu233, h⟩ := nm_s h
                              refine nb_putr hA hx hb hT hK hown hW hS fl_X11_216 tyX11 tyX11_ok nmX11 hF.1 (v := .int 0) rfl rfl rfl (Nat.le_of_ble_eq_true rfl) dX11_pass_89 (fun H locs G234 hEG234 hcG234 hW hS => ?_)
                              replace hF := hF.put (M' := u233) hEG234 hcG234 (by rw [eu233]; rfl) (by rw [eu233]; rfl)
                              replace hw : fmO u233 = fmO M := by rw [eu233]; exact hw
                              refine lv_aload_n hx hb dX11_pass_92 rfl (lv_at hl 2 rfl) ?_
                              refine lv_dup hx hb dX11_pass_93 rfl ?_
                              refine nb_getr hA hx hb hT hK hown hW fl_X11_210 hF.1 (v := .int (u233 11 0 0)) rfl dX11_pass_94 ?_
                              refine lv_iconst (v := 1) hx hb dX11_pass_97 (by decide) ?_
                              refine lv_iadd hx hb dX11_pass_98 ?_
                              obtain ⟨u235, eu235, h⟩ := nm_s h
                              refine nb_putr hA hx hb hT hK hown hW hS fl_X11_210 tyX11 tyX11_ok nmX11 hF.1 (v := .int ((u233 11 0 0) + 1)) rfl rfl rfl (Nat.le_of_ble_eq_true rfl) dX11_pass_99 (fun H locs G236 hEG236 hcG236 hW hS => ?_)
                              replace hF := hF.put (M' := u235) hEG236 hcG236 (by rw [eu235]; rfl) (by rw [eu235]; rfl)
                              replace hw : fmO u235 = fmO M := by rw [eu235]; exact hw
                              refine lv_iinc (v := 11) (lv' := [(4, .int 11), (5, .int 4), (0, .ref (A 0)), (1, .int x1), (2, .int x2), (3, .int x3)]) hx hb dX11_pass_102 hl (k := 1) rfl (by decide) (by decide) rfl (fun ls hl => ?_)
                              refine lv_goto (tgt := 48) hx hb dX11_pass_105 (by decide) ?_
                              refine lv_iload hx hb dX11_pass_48 (lv_at hl 0 rfl) ?_
                              refine lv_iload_n hx hb dX11_pass_50 rfl (lv_at hl 3 rfl) ?_
                              refine lv_icmp_ge (tgt := 108) hx hb dX11_pass_51 (by decide) (fun c237 => ?_) (fun c237 => ?_)
                              · replace h := ite_t h c237
                                refine lv_aload_n hx hb dX11_pass_108 rfl (lv_at hl 2 rfl) ?_
                                refine nb_getr hA hx hb hT hK hown hW fl_X11_210 hF.1 (v := .int (u235 11 0 0)) rfl dX11_pass_109 ?_
                                refine W.widen (k := 60) (n := 240) (Nat.le_of_ble_eq_true rfl) (Nat.le_of_ble_eq_true rfl) ?_
                                exact fm_iw hx hb hr rfl hlocks hW (hF.w hw) hS dX11_pass_112 h
                              · replace h := ite_f h c237
                                refine lv_aload_n hx hb dX11_pass_54 rfl (lv_at hl 2 rfl) ?_
                                obtain ⟨_, h238, h⟩ := ob_s h
                                refine fm_cv (nb_runVr (As := []) (rest := []) hA hx hb hml hown hSW hS hW (m_X11_forget l z ad _ hA A u235 hF h238) mf_X11_forget lk_X11_233 hF.1 rfl rfl ⟨rfl, rfl⟩ ⟨Nat.le_of_ble_eq_true rfl, Nat.le_of_ble_eq_true rfl⟩ hl.1 (Nat.le_of_ble_eq_true rfl) dX11_pass_55 ⟨Nat.le_of_ble_eq_true rfl, Nat.le_of_ble_eq_true rfl⟩) hS (fun H locs G240 hEG240 hW hS => ?_)
                                replace hF := hF.ext0 hEG240
                                refine lv_aload_n hx hb dX11_pass_58 rfl (lv_at hl 2 rfl) ?_
                                refine lv_iload_n hx hb dX11_pass_59 rfl (lv_at hl 4 rfl) ?_
                                refine lv_iload_n hx hb dX11_pass_60 rfl (lv_at hl 5 rfl) ?_
                                obtain ⟨_, h241, h⟩ := ob_s h
                                refine fm_cv (nb_runVr (As := [.int x2, .int x3]) (rest := []) hA hx hb hml hown hSW hS hW (m_X11_weather l z ad _ hA A u235 hF x2 x3 h241) mf_X11_weather lk_X11_236 hF.1 rfl rfl ⟨rfl, rfl⟩ ⟨Nat.le_of_ble_eq_true rfl, Nat.le_of_ble_eq_true rfl⟩ hl.1 (Nat.le_of_ble_eq_true rfl) dX11_pass_61 ⟨Nat.le_of_ble_eq_true rfl, Nat.le_of_ble_eq_true rfl⟩) hS (fun H locs G243 hEG243 hW hS => ?_)
                                replace hF := hF.ext0 hEG243
                                refine lv_iconst (v := 0) hx hb dX11_pass_64 (by decide) ?_
                                refine lv_istore (lv' := [(5, .int 0), (4, .int 11), (0, .ref (A 0)), (1, .int x1), (2, .int x2), (3, .int x3)]) hx hb dX11_pass_65 hl (by decide) rfl (fun ls hl => ?_)
                                refine lv_iload hx hb dX11_pass_67 (lv_at hl 0 rfl) ?_
                                refine lv_iconst (v := 4) hx hb dX11_pass_69 (by decide) ?_
                                refine lv_icmp_ge (tgt := 87) hx hb dX11_pass_70 (by decide) (fun hc => absurd hc (by decide)) (fun _ => ?_)
                                refine lv_aload_n hx hb dX11_pass_73 rfl (lv_at hl 2 rfl) ?_
                                refine nb_getr hA hx hb hT hK hown hW fl_X11_37 hF.1 (v := .ref (A 6)) rfl dX11_pass_74 ?_
                                refine lv_iload hx hb dX11_pass_77 (lv_at hl 0 rfl) ?_
                                refine lv_iconst (v := 0) hx hb dX11_pass_79 (by decide) ?_
                                obtain ⟨f245, hf245⟩ := hF.2.2.1
                                refine nb_iastr hA hx hb hK hW hS 0 hf245 rfl (inb_in (by decide)) dX11_pass_80 (fun H locs G244 hEG244 hcG244 hW hS => ?_)
                                replace hF := hF.teach hEG244 hcG244
                                refine lv_iinc (v := 1) (lv' := [(5, .int 1), (4, .int 11), (0, .ref (A 0)), (1, .int x1), (2, .int x2), (3, .int x3)]) hx hb dX11_pass_81 hl (k := 0) rfl (by decide) (by decide) rfl (fun ls hl => ?_)
                                refine lv_goto (tgt := 67) hx hb dX11_pass_84 (by decide) ?_
                                refine lv_iload hx hb dX11_pass_67 (lv_at hl 0 rfl) ?_
                                refine lv_iconst (v := 4) hx hb dX11_pass_69 (by decide) ?_
                                refine lv_icmp_ge (tgt := 87) hx hb dX11_pass_70 (by decide) (fun hc => absurd hc (by decide)) (fun _ => ?_)
                                refine lv_aload_n hx hb dX11_pass_73 rfl (lv_at hl 2 rfl) ?_
                                refine nb_getr hA hx hb hT hK hown hW fl_X11_37 hF.1 (v := .ref (A 6)) rfl dX11_pass_74 ?_
                                refine lv_iload hx hb dX11_pass_77 (lv_at hl 0 rfl) ?_
                                refine lv_iconst (v := 0) hx hb dX11_pass_79 (by decide) ?_
                                obtain ⟨f247, hf247⟩ := hF.2.2.1
                                refine nb_iastr hA hx hb hK hW hS 0 hf247 rfl (inb_in (by decide)) dX11_pass_80 (fun H locs G246 hEG246 hcG246 hW hS => ?_)
                                replace hF := hF.teach hEG246 hcG246
                                refine lv_iinc (v := 2) (lv' := [(5, .int 2), (4, .int 11), (0, .ref (A 0)), (1, .int x1), (2, .int x2), (3, .int x3)]) hx hb dX11_pass_81 hl (k := 0) rfl (by decide) (by decide) rfl (fun ls hl => ?_)
                                refine lv_goto (tgt := 67) hx hb dX11_pass_84 (by decide) ?_
                                refine lv_iload hx hb dX11_pass_67 (lv_at hl 0 rfl) ?_
                                refine lv_iconst (v := 4) hx hb dX11_pass_69 (by decide) ?_
                                refine lv_icmp_ge (tgt := 87) hx hb dX11_pass_70 (by decide) (fun hc => absurd hc (by decide)) (fun _ => ?_)
                                refine lv_aload_n hx hb dX11_pass_73 rfl (lv_at hl 2 rfl) ?_
                                refine nb_getr hA hx hb hT hK hown hW fl_X11_37 hF.1 (v := .ref (A 6)) rfl dX11_pass_74 ?_
                                refine lv_iload hx hb dX11_pass_77 (lv_at hl 0 rfl) ?_
                                refine lv_iconst (v := 0) hx hb dX11_pass_79 (by decide) ?_
                                obtain ⟨f249, hf249⟩ := hF.2.2.1
                                refine nb_iastr hA hx hb hK hW hS 0 hf249 rfl (inb_in (by decide)) dX11_pass_80 (fun H locs G248 hEG248 hcG248 hW hS => ?_)
                                replace hF := hF.teach hEG248 hcG248
                                refine lv_iinc (v := 3) (lv' := [(5, .int 3), (4, .int 11), (0, .ref (A 0)), (1, .int x1), (2, .int x2), (3, .int x3)]) hx hb dX11_pass_81 hl (k := 0) rfl (by decide) (by decide) rfl (fun ls hl => ?_)
                                refine lv_goto (tgt := 67) hx hb dX11_pass_84 (by decide) ?_
                                refine lv_iload hx hb dX11_pass_67 (lv_at hl 0 rfl) ?_
                                refine lv_iconst (v := 4) hx hb dX11_pass_69 (by decide) ?_
                                refine lv_icmp_ge (tgt := 87) hx hb dX11_pass_70 (by decide) (fun hc => absurd hc (by decide)) (fun _ => ?_)
                                refine lv_aload_n hx hb dX11_pass_73 rfl (lv_at hl 2 rfl) ?_
                                refine nb_getr hA hx hb hT hK hown hW fl_X11_37 hF.1 (v := .ref (A 6)) rfl dX11_pass_74 ?_
                                refine lv_iload hx hb dX11_pass_77 (lv_at hl 0 rfl) ?_
                                refine lv_iconst (v := 0) hx hb dX11_pass_79 (by decide) ?_
                                obtain ⟨f251, hf251⟩ := hF.2.2.1
                                refine nb_iastr hA hx hb hK hW hS 0 hf251 rfl (inb_in (by decide)) dX11_pass_80 (fun H locs G250 hEG250 hcG250 hW hS => ?_)
                                replace hF := hF.teach hEG250 hcG250
                                refine lv_iinc (v := 4) (lv' := [(5, .int 4), (4, .int 11), (0, .ref (A 0)), (1, .int x1), (2, .int x2), (3, .int x3)]) hx hb dX11_pass_81 hl (k := 0) rfl (by decide) (by decide) rfl (fun ls hl => ?_)
                                refine lv_goto (tgt := 67) hx hb dX11_pass_84 (by decide) ?_
                                refine lv_iload hx hb dX11_pass_67 (lv_at hl 0 rfl) ?_
                                refine lv_iconst (v := 4) hx hb dX11_pass_69 (by decide) ?_
                                refine lv_icmp_ge (tgt := 87) hx hb dX11_pass_70 (by decide) (fun _ => ?_) (fun hc => absurd (by decide) hc)
                                refine lv_aload_n hx hb dX11_pass_87 rfl (lv_at hl 2 rfl) ?_
                                refine lv_iconst (v := 0) hx hb dX11_pass_88 (by decide) ?_
                                obtain ⟨u252, eu252, h⟩ := nm_s h
                                refine nb_putr hA hx hb hT hK hown hW hS fl_X11_216 tyX11 tyX11_ok nmX11 hF.1 (v := .int 0) rfl rfl rfl (Nat.le_of_ble_eq_true rfl) dX11_pass_89 (fun H locs G253 hEG253 hcG253 hW hS => ?_)
                                replace hF := hF.put (M' := u252) hEG253 hcG253 (by rw [eu252]; rfl) (by rw [eu252]; rfl)
                                replace hw : fmO u252 = fmO M := by rw [eu252]; exact hw
                                refine lv_aload_n hx hb dX11_pass_92 rfl (lv_at hl 2 rfl) ?_
                                refine lv_dup hx hb dX11_pass_93 rfl ?_
                                refine nb_getr hA hx hb hT hK hown hW fl_X11_210 hF.1 (v := .int (u252 11 0 0)) rfl dX11_pass_94 ?_
                                refine lv_iconst (v := 1) hx hb dX11_pass_97 (by decide) ?_
                                refine lv_iadd hx hb dX11_pass_98 ?_
                                obtain ⟨u254, eu254, h⟩ := nm_s h
                                refine nb_putr hA hx hb hT hK hown hW hS fl_X11_210 tyX11 tyX11_ok nmX11 hF.1 (v := .int ((u252 11 0 0) + 1)) rfl rfl rfl (Nat.le_of_ble_eq_true rfl) dX11_pass_99 (fun H locs G255 hEG255 hcG255 hW hS => ?_)
                                replace hF := hF.put (M' := u254) hEG255 hcG255 (by rw [eu254]; rfl) (by rw [eu254]; rfl)
                                replace hw : fmO u254 = fmO M := by rw [eu254]; exact hw
                                refine lv_iinc (v := 12) (lv' := [(4, .int 12), (5, .int 4), (0, .ref (A 0)), (1, .int x1), (2, .int x2), (3, .int x3)]) hx hb dX11_pass_102 hl (k := 1) rfl (by decide) (by decide) rfl (fun ls hl => ?_)
                                refine lv_goto (tgt := 48) hx hb dX11_pass_105 (by decide) ?_
                                refine lv_iload hx hb dX11_pass_48 (lv_at hl 0 rfl) ?_
                                refine lv_iload_n hx hb dX11_pass_50 rfl (lv_at hl 3 rfl) ?_
                                refine lv_icmp_ge (tgt := 108) hx hb dX11_pass_51 (by decide) (fun c256 => ?_) (fun c256 => ?_)
                                · replace h := ite_t h c256
                                  refine lv_aload_n hx hb dX11_pass_108 rfl (lv_at hl 2 rfl) ?_
                                  refine nb_getr hA hx hb hT hK hown hW fl_X11_210 hF.1 (v := .int (u254 11 0 0)) rfl dX11_pass_109 ?_
                                  refine W.widen (k := 60) (n := 240) (Nat.le_of_ble_eq_true rfl) (Nat.le_of_ble_eq_true rfl) ?_
                                  exact fm_iw hx hb hr rfl hlocks hW (hF.w hw) hS dX11_pass_112 h
                                · replace h := ite_f h c256
                                  refine lv_aload_n hx hb dX11_pass_54 rfl (lv_at hl 2 rfl) ?_
                                  obtain ⟨_, h257, h⟩ := ob_s h
                                  refine fm_cv (nb_runVr (As := []) (rest := []) hA hx hb hml hown hSW hS hW (m_X11_forget l z ad _ hA A u254 hF h257) mf_X11_forget lk_X11_233 hF.1 rfl rfl ⟨rfl, rfl⟩ ⟨Nat.le_of_ble_eq_true rfl, Nat.le_of_ble_eq_true rfl⟩ hl.1 (Nat.le_of_ble_eq_true rfl) dX11_pass_55 ⟨Nat.le_of_ble_eq_true rfl, Nat.le_of_ble_eq_true rfl⟩) hS (fun H locs G259 hEG259 hW hS => ?_)
                                  replace hF := hF.ext0 hEG259
                                  refine lv_aload_n hx hb dX11_pass_58 rfl (lv_at hl 2 rfl) ?_
                                  refine lv_iload_n hx hb dX11_pass_59 rfl (lv_at hl 4 rfl) ?_
                                  refine lv_iload_n hx hb dX11_pass_60 rfl (lv_at hl 5 rfl) ?_
                                  obtain ⟨_, h260, h⟩ := ob_s h
                                  refine fm_cv (nb_runVr (As := [.int x2, .int x3]) (rest := []) hA hx hb hml hown hSW hS hW (m_X11_weather l z ad _ hA A u254 hF x2 x3 h260) mf_X11_weather lk_X11_236 hF.1 rfl rfl ⟨rfl, rfl⟩ ⟨Nat.le_of_ble_eq_true rfl, Nat.le_of_ble_eq_true rfl⟩ hl.1 (Nat.le_of_ble_eq_true rfl) dX11_pass_61 ⟨Nat.le_of_ble_eq_true rfl, Nat.le_of_ble_eq_true rfl⟩) hS (fun H locs G262 hEG262 hW hS => ?_)
                                  replace hF := hF.ext0 hEG262
                                  refine lv_iconst (v := 0) hx hb dX11_pass_64 (by decide) ?_
                                  refine lv_istore (lv' := [(5, .int 0), (4, .int 12), (0, .ref (A 0)), (1, .int x1), (2, .int x2), (3, .int x3)]) hx hb dX11_pass_65 hl (by decide) rfl (fun ls hl => ?_)
                                  refine lv_iload hx hb dX11_pass_67 (lv_at hl 0 rfl) ?_
                                  refine lv_iconst (v := 4) hx hb dX11_pass_69 (by decide) ?_
                                  refine lv_icmp_ge (tgt := 87) hx hb dX11_pass_70 (by decide) (fun hc => absurd hc (by decide)) (fun _ => ?_)
                                  refine lv_aload_n hx hb dX11_pass_73 rfl (lv_at hl 2 rfl) ?_
                                  refine nb_getr hA hx hb hT hK hown hW fl_X11_37 hF.1 (v := .ref (A 6)) rfl dX11_pass_74 ?_
                                  refine lv_iload hx hb dX11_pass_77 (lv_at hl 0 rfl) ?_
                                  refine lv_iconst (v := 0) hx hb dX11_pass_79 (by decide) ?_
                                  obtain ⟨f264, hf264⟩ := hF.2.2.1
                                  refine nb_iastr hA hx hb hK hW hS 0 hf264 rfl (inb_in (by decide)) dX11_pass_80 (fun H locs G263 hEG263 hcG263 hW hS => ?_)
                                  replace hF := hF.teach hEG263 hcG263
                                  refine lv_iinc (v := 1) (lv' := [(5, .int 1), (4, .int 12), (0, .ref (A 0)), (1, .int x1), (2, .int x2), (3, .int x3)]) hx hb dX11_pass_81 hl (k := 0) rfl (by decide) (by decide) rfl (fun ls hl => ?_)
                                  refine lv_goto (tgt := 67) hx hb dX11_pass_84 (by decide) ?_
                                  refine lv_iload hx hb dX11_pass_67 (lv_at hl 0 rfl) ?_
                                  refine lv_iconst (v := 4) hx hb dX11_pass_69 (by decide) ?_
                                  refine lv_icmp_ge (tgt := 87) hx hb dX11_pass_70 (by decide) (fun hc => absurd hc (by decide)) (fun _ => ?_)
                                  refine lv_aload_n hx hb dX11_pass_73 rfl (lv_at hl 2 rfl) ?_
                                  refine nb_getr hA hx hb hT hK hown hW fl_X11_37 hF.1 (v := .ref (A 6)) rfl dX11_pass_74 ?_
                                  refine lv_iload hx hb dX11_pass_77 (lv_at hl 0 rfl) ?_
                                  refine lv_iconst (v := 0) hx hb dX11_pass_79 (by decide) ?_
                                  obtain ⟨f266, hf266⟩ := hF.2.2.1
                                  refine nb_iastr hA hx hb hK hW hS 0 hf266 rfl (inb_in (by decide)) dX11_pass_80 (fun H locs G265 hEG265 hcG265 hW hS => ?_)
                                  replace hF := hF.teach hEG265 hcG265
                                  refine lv_iinc (v := 2) (lv' := [(5, .int 2), (4, .int 12), (0, .ref (A 0)), (1, .int x1), (2, .int x2), (3, .int x3)]) hx hb dX11_pass_81 hl (k := 0) rfl (by decide) (by decide) rfl (fun ls hl => ?_)
                                  refine lv_goto (tgt := 67) hx hb dX11_pass_84 (by decide) ?_
                                  refine lv_iload hx hb dX11_pass_67 (lv_at hl 0 rfl) ?_
                                  refine lv_iconst (v := 4) hx hb dX11_pass_69 (by decide) ?_
                                  refine lv_icmp_ge (tgt := 87) hx hb dX11_pass_70 (by decide) (fun hc => absurd hc (by decide)) (fun _ => ?_)
                                  refine lv_aload_n hx hb dX11_pass_73 rfl (lv_at hl 2 rfl) ?_
                                  refine nb_getr hA hx hb hT hK hown hW fl_X11_37 hF.1 (v := .ref (A 6)) rfl dX11_pass_74 ?_
                                  refine lv_iload hx hb dX11_pass_77 (lv_at hl 0 rfl) ?_
                                  refine lv_iconst (v := 0) hx hb dX11_pass_79 (by decide) ?_
                                  obtain ⟨f268, hf268⟩ := hF.2.2.1
                                  refine nb_iastr hA hx hb hK hW hS 0 hf268 rfl (inb_in (by decide)) dX11_pass_80 (fun H locs G267 hEG267 hcG267 hW hS => ?_)
                                  replace hF := hF.teach hEG267 hcG267
                                  refine lv_iinc (v := 3) (lv' := [(5, .int 3), (4, .int 12), (0, .ref (A 0)), (1, .int x1), (2, .int x2), (3, .int x3)]) hx hb dX11_pass_81 hl (k := 0) rfl (by decide) (by decide) rfl (fun ls hl => ?_)
                                  refine lv_goto (tgt := 67) hx hb dX11_pass_84 (by decide) ?_
                                  refine lv_iload hx hb dX11_pass_67 (lv_at hl 0 rfl) ?_
                                  refine lv_iconst (v := 4) hx hb dX11_pass_69 (by decide) ?_
                                  refine lv_icmp_ge (tgt := 87) hx hb dX11_pass_70 (by decide) (fun hc => absurd hc (by decide)) (fun _ => ?_)
                                  refine lv_aload_n hx hb dX11_pass_73 rfl (lv_at hl 2 rfl) ?_
                                  refine nb_getr hA hx hb hT hK hown hW fl_X11_37 hF.1 (v := .ref (A 6)) rfl dX11_pass_74 ?_
                                  refine lv_iload hx hb dX11_pass_77 (lv_at hl 0 rfl) ?_
                                  refine lv_iconst (v := 0) hx hb dX11_pass_79 (by decide) ?_
                                  obtain ⟨f270, hf270⟩ := hF.2.2.1
                                  refine nb_iastr hA hx hb hK hW hS 0 hf270 rfl (inb_in (by decide)) dX11_pass_80 (fun H locs G269 hEG269 hcG269 hW hS => ?_)
                                  replace hF := hF.teach hEG269 hcG269
                                  refine lv_iinc (v := 4) (lv' := [(5, .int 4), (4, .int 12), (0, .ref (A 0)), (1, .int x1), (2, .int x2), (3, .int x3)]) hx hb dX11_pass_81 hl (k := 0) rfl (by decide) (by decide) rfl (fun ls hl => ?_)
                                  refine lv_goto (tgt := 67) hx hb dX11_pass_84 (by decide) ?_
                                  refine lv_iload hx hb dX11_pass_67 (lv_at hl 0 rfl) ?_
                                  refine lv_iconst (v := 4) hx hb dX11_pass_69 (by decide) ?_
                                  refine lv_icmp_ge (tgt := 87) hx hb dX11_pass_70 (by decide) (fun _ => ?_) (fun hc => absurd (by decide) hc)
                                  refine lv_aload_n hx hb dX11_pass_87 rfl (lv_at hl 2 rfl) ?_
                                  refine lv_iconst (v := 0) hx hb dX11_pass_88 (by decide) ?_
                                  obtain ⟨u271, eu271, h⟩ := nm_s h
                                  refine nb_putr hA hx hb hT hK hown hW hS fl_X11_216 tyX11 tyX11_ok nmX11 hF.1 (v := .int 0) rfl rfl rfl (Nat.le_of_ble_eq_true rfl) dX11_pass_89 (fun H locs G272 hEG272 hcG272 hW hS => ?_)
                                  replace hF := hF.put (M' := u271) hEG272 hcG272 (by rw [eu271]; rfl) (by rw [eu271]; rfl)
                                  replace hw : fmO u271 = fmO M := by rw [eu271]; exact hw
                                  refine lv_aload_n hx hb dX11_pass_92 rfl (lv_at hl 2 rfl) ?_
                                  refine lv_dup hx hb dX11_pass_93 rfl ?_
                                  refine nb_getr hA hx hb hT hK hown hW fl_X11_210 hF.1 (v := .int (u271 11 0 0)) rfl dX11_pass_94 ?_
                                  refine lv_iconst (v := 1) hx hb dX11_pass_97 (by decide) ?_
                                  refine lv_iadd hx hb dX11_pass_98 ?_
                                  obtain ⟨u273, eu273, h⟩ := nm_s h
                                  refine nb_putr hA hx hb hT hK hown hW hS fl_X11_210 tyX11 tyX11_ok nmX11 hF.1 (v := .int ((u271 11 0 0) + 1)) rfl rfl rfl (Nat.le_of_ble_eq_true rfl) dX11_pass_99 (fun H locs G274 hEG274 hcG274 hW hS => ?_)
                                  replace hF := hF.put (M' := u273) hEG274 hcG274 (by rw [eu273]; rfl) (by rw [eu273]; rfl)
                                  replace hw : fmO u273 = fmO M := by rw [eu273]; exact hw
                                  refine lv_iinc (v := 13) (lv' := [(4, .int 13), (5, .int 4), (0, .ref (A 0)), (1, .int x1), (2, .int x2), (3, .int x3)]) hx hb dX11_pass_102 hl (k := 1) rfl (by decide) (by decide) rfl (fun ls hl => ?_)
                                  refine lv_goto (tgt := 48) hx hb dX11_pass_105 (by decide) ?_
                                  refine lv_iload hx hb dX11_pass_48 (lv_at hl 0 rfl) ?_
                                  refine lv_iload_n hx hb dX11_pass_50 rfl (lv_at hl 3 rfl) ?_
                                  refine lv_icmp_ge (tgt := 108) hx hb dX11_pass_51 (by decide) (fun c275 => ?_) (fun c275 => ?_)
                                  · replace h := ite_t h c275
                                    refine lv_aload_n hx hb dX11_pass_108 rfl (lv_at hl 2 rfl) ?_
                                    refine nb_getr hA hx hb hT hK hown hW fl_X11_210 hF.1 (v := .int (u273 11 0 0)) rfl dX11_pass_109 ?_
                                    refine W.widen (k := 60) (n := 240) (Nat.le_of_ble_eq_true rfl) (Nat.le_of_ble_eq_true rfl) ?_
                                    exact fm_iw hx hb hr rfl hlocks hW (hF.w hw) hS dX11_pass_112 h
                                  · replace h := ite_f h c275
                                    refine lv_aload_n hx hb dX11_pass_54 rfl (lv_at hl 2 rfl) ?_
                                    obtain ⟨_, h276, h⟩ := ob_s h
                                    refine fm_cv (nb_runVr (As := []) (rest := []) hA hx hb hml hown hSW hS hW (m_X11_forget l z ad _ hA A u273 hF h276) mf_X11_forget lk_X11_233 hF.1 rfl rfl ⟨rfl, rfl⟩ ⟨Nat.le_of_ble_eq_true rfl, Nat.le_of_ble_eq_true rfl⟩ hl.1 (Nat.le_of_ble_eq_true rfl) dX11_pass_55 ⟨Nat.le_of_ble_eq_true rfl, Nat.le_of_ble_eq_true rfl⟩) hS (fun H locs G278 hEG278 hW hS => ?_)
                                    replace hF := hF.ext0 hEG278
                                    refine lv_aload_n hx hb dX11_pass_58 rfl (lv_at hl 2 rfl) ?_
                                    refine lv_iload_n hx hb dX11_pass_59 rfl (lv_at hl 4 rfl) ?_
                                    refine lv_iload_n hx hb dX11_pass_60 rfl (lv_at hl 5 rfl) ?_
                                    obtain ⟨_, h279, h⟩ := ob_s h
                                    refine fm_cv (nb_runVr (As := [.int x2, .int x3]) (rest := []) hA hx hb hml hown hSW hS hW (m_X11_weather l z ad _ hA A u273 hF x2 x3 h279) mf_X11_weather lk_X11_236 hF.1 rfl rfl ⟨rfl, rfl⟩ ⟨Nat.le_of_ble_eq_true rfl, Nat.le_of_ble_eq_true rfl⟩ hl.1 (Nat.le_of_ble_eq_true rfl) dX11_pass_61 ⟨Nat.le_of_ble_eq_true rfl, Nat.le_of_ble_eq_true rfl⟩) hS (fun H locs G281 hEG281 hW hS => ?_)
                                    replace hF := hF.ext0 hEG281
                                    refine lv_iconst (v := 0) hx hb dX11_pass_64 (by decide) ?_
                                    refine lv_istore (lv' := [(5, .int 0), (4, .int 13), (0, .ref (A 0)), (1, .int x1), (2, .int x2), (3, .int x3)]) hx hb dX11_pass_65 hl (by decide) rfl (fun ls hl => ?_)
                                    refine lv_iload hx hb dX11_pass_67 (lv_at hl 0 rfl) ?_
                                    refine lv_iconst (v := 4) hx hb dX11_pass_69 (by decide) ?_
                                    refine lv_icmp_ge (tgt := 87) hx hb dX11_pass_70 (by decide) (fun hc => absurd hc (by decide)) (fun _ => ?_)
                                    refine lv_aload_n hx hb dX11_pass_73 rfl (lv_at hl 2 rfl) ?_
                                    refine nb_getr hA hx hb hT hK hown hW fl_X11_37 hF.1 (v := .ref (A 6)) rfl dX11_pass_74 ?_
                                    refine lv_iload hx hb dX11_pass_77 (lv_at hl 0 rfl) ?_
                                    refine lv_iconst (v := 0) hx hb dX11_pass_79 (by decide) ?_
                                    obtain ⟨f283, hf283⟩ := hF.2.2.1
                                    refine nb_iastr hA hx hb hK hW hS 0 hf283 rfl (inb_in (by decide)) dX11_pass_80 (fun H locs G282 hEG282 hcG282 hW hS => ?_)
                                    replace hF := hF.teach hEG282 hcG282
                                    refine lv_iinc (v := 1) (lv' := [(5, .int 1), (4, .int 13), (0, .ref (A 0)), (1, .int x1), (2, .int x2), (3, .int x3)]) hx hb dX11_pass_81 hl (k := 0) rfl (by decide) (by decide) rfl (fun ls hl => ?_)
                                    refine lv_goto (tgt := 67) hx hb dX11_pass_84 (by decide) ?_
                                    refine lv_iload hx hb dX11_pass_67 (lv_at hl 0 rfl) ?_
                                    refine lv_iconst (v := 4) hx hb dX11_pass_69 (by decide) ?_
                                    refine lv_icmp_ge (tgt := 87) hx hb dX11_pass_70 (by decide) (fun hc => absurd hc (by decide)) (fun _ => ?_)
                                    refine lv_aload_n hx hb dX11_pass_73 rfl (lv_at hl 2 rfl) ?_
                                    refine nb_getr hA hx hb hT hK hown hW fl_X11_37 hF.1 (v := .ref (A 6)) rfl dX11_pass_74 ?_
                                    refine lv_iload hx hb dX11_pass_77 (lv_at hl 0 rfl) ?_
                                    refine lv_iconst (v := 0) hx hb dX11_pass_79 (by decide) ?_
                                    obtain ⟨f285, hf285⟩ := hF.2.2.1
                                    refine nb_iastr hA hx hb hK hW hS 0 hf285 rfl (inb_in (by decide)) dX11_pass_80 (fun H locs G284 hEG284 hcG284 hW hS => ?_)
                                    replace hF := hF.teach hEG284 hcG284
                                    refine lv_iinc (v := 2) (lv' := [(5, .int 2), (4, .int 13), (0, .ref (A 0)), (1, .int x1), (2, .int x2), (3, .int x3)]) hx hb dX11_pass_81 hl (k := 0) rfl (by decide) (by decide) rfl (fun ls hl => ?_)
                                    refine lv_goto (tgt := 67) hx hb dX11_pass_84 (by decide) ?_
                                    refine lv_iload hx hb dX11_pass_67 (lv_at hl 0 rfl) ?_
                                    refine lv_iconst (v := 4) hx hb dX11_pass_69 (by decide) ?_
                                    refine lv_icmp_ge (tgt := 87) hx hb dX11_pass_70 (by decide) (fun hc => absurd hc (by decide)) (fun _ => ?_)
                                    refine lv_aload_n hx hb dX11_pass_73 rfl (lv_at hl 2 rfl) ?_
                                    refine nb_getr hA hx hb hT hK hown hW fl_X11_37 hF.1 (v := .ref (A 6)) rfl dX11_pass_74 ?_
                                    refine lv_iload hx hb dX11_pass_77 (lv_at hl 0 rfl) ?_
                                    refine lv_iconst (v := 0) hx hb dX11_pass_79 (by decide) ?_
                                    obtain ⟨f287, hf287⟩ := hF.2.2.1
                                    refine nb_iastr hA hx hb hK hW hS 0 hf287 rfl (inb_in (by decide)) dX11_pass_80 (fun H locs G286 hEG286 hcG286 hW hS => ?_)
                                    replace hF := hF.teach hEG286 hcG286
                                    refine lv_iinc (v := 3) (lv' := [(5, .int 3), (4, .int 13), (0, .ref (A 0)), (1, .int x1), (2, .int x2), (3, .int x3)]) hx hb dX11_pass_81 hl (k := 0) rfl (by decide) (by decide) rfl (fun ls hl => ?_)
                                    refine lv_goto (tgt := 67) hx hb dX11_pass_84 (by decide) ?_
                                    refine lv_iload hx hb dX11_pass_67 (lv_at hl 0 rfl) ?_
                                    refine lv_iconst (v := 4) hx hb dX11_pass_69 (by decide) ?_
                                    refine lv_icmp_ge (tgt := 87) hx hb dX11_pass_70 (by decide) (fun hc => absurd hc (by decide)) (fun _ => ?_)
                                    refine lv_aload_n hx hb dX11_pass_73 rfl (lv_at hl 2 rfl) ?_
                                    refine nb_getr hA hx hb hT hK hown hW fl_X11_37 hF.1 (v := .ref (A 6)) rfl dX11_pass_74 ?_
                                    refine lv_iload hx hb dX11_pass_77 (lv_at hl 0 rfl) ?_
                                    refine lv_iconst (v := 0) hx hb dX11_pass_79 (by decide) ?_
                                    obtain ⟨f289, hf289⟩ := hF.2.2.1
                                    refine nb_iastr hA hx hb hK hW hS 0 hf289 rfl (inb_in (by decide)) dX11_pass_80 (fun H locs G288 hEG288 hcG288 hW hS => ?_)
                                    replace hF := hF.teach hEG288 hcG288
                                    refine lv_iinc (v := 4) (lv' := [(5, .int 4), (4, .int 13), (0, .ref (A 0)), (1, .int x1), (2, .int x2), (3, .int x3)]) hx hb dX11_pass_81 hl (k := 0) rfl (by decide) (by decide) rfl (fun ls hl => ?_)
                                    refine lv_goto (tgt := 67) hx hb dX11_pass_84 (by decide) ?_
                                    refine lv_iload hx hb dX11_pass_67 (lv_at hl 0 rfl) ?_
                                    refine lv_iconst (v := 4) hx hb dX11_pass_69 (by decide) ?_
                                    refine lv_icmp_ge (tgt := 87) hx hb dX11_pass_70 (by decide) (fun _ => ?_) (fun hc => absurd (by decide) hc)
                                    refine lv_aload_n hx hb dX11_pass_87 rfl (lv_at hl 2 rfl) ?_
                                    refine lv_iconst (v := 0) hx hb dX11_pass_88 (by decide) ?_
                                    obtain ⟨u290, eu290, h⟩ := nm_s h
                                    refine nb_putr hA hx hb hT hK hown hW hS fl_X11_216 tyX11 tyX11_ok nmX11 hF.1 (v := .int 0) rfl rfl rfl (Nat.le_of_ble_eq_true rfl) dX11_pass_89 (fun H locs G291 hEG291 hcG291 hW hS => ?_)
                                    replace hF := hF.put (M' := u290) hEG291 hcG291 (by rw [eu290]; rfl) (by rw [eu290]; rfl)
                                    replace hw : fmO u290 = fmO M := by rw [eu290]; exact hw
                                    refine lv_aload_n hx hb dX11_pass_92 rfl (lv_at hl 2 rfl) ?_
                                    refine lv_dup hx hb dX11_pass_93 rfl ?_
                                    refine nb_getr hA hx hb hT hK hown hW fl_X11_210 hF.1 (v := .int (u290 11 0 0)) rfl dX11_pass_94 ?_
                                    refine lv_iconst (v := 1) hx hb dX11_pass_97 (by decide) ?_
                                    refine lv_iadd hx hb dX11_pass_98 ?_
                                    obtain ⟨u292, eu292, h⟩ := nm_s h
                                    refine nb_putr hA hx hb hT hK hown hW hS fl_X11_210 tyX11 tyX11_ok nmX11 hF.1 (v := .int ((u290 11 0 0) + 1)) rfl rfl rfl (Nat.le_of_ble_eq_true rfl) dX11_pass_99 (fun H locs G293 hEG293 hcG293 hW hS => ?_)
                                    replace hF := hF.put (M' := u292) hEG293 hcG293 (by rw [eu292]; rfl) (by rw [eu292]; rfl)
                                    replace hw : fmO u292 = fmO M := by rw [eu292]; exact hw
                                    refine lv_iinc (v := 14) (lv' := [(4, .int 14), (5, .int 4), (0, .ref (A 0)), (1, .int x1), (2, .int x2), (3, .int x3)]) hx hb dX11_pass_102 hl (k := 1) rfl (by decide) (by decide) rfl (fun ls hl => ?_)
                                    refine lv_goto (tgt := 48) hx hb dX11_pass_105 (by decide) ?_
                                    refine lv_iload hx hb dX11_pass_48 (lv_at hl 0 rfl) ?_
                                    refine lv_iload_n hx hb dX11_pass_50 rfl (lv_at hl 3 rfl) ?_
                                    refine lv_icmp_ge (tgt := 108) hx hb dX11_pass_51 (by decide) (fun c294 => ?_) (fun c294 => ?_)
                                    · replace h := ite_t h c294
                                      refine lv_aload_n hx hb dX11_pass_108 rfl (lv_at hl 2 rfl) ?_
                                      refine nb_getr hA hx hb hT hK hown hW fl_X11_210 hF.1 (v := .int (u292 11 0 0)) rfl dX11_pass_109 ?_
                                      refine W.widen (k := 60) (n := 240) (Nat.le_of_ble_eq_true rfl) (Nat.le_of_ble_eq_true rfl) ?_
                                      exact fm_iw hx hb hr rfl hlocks hW (hF.w hw) hS dX11_pass_112 h
                                    · replace h := ite_f h c294
                                      refine lv_aload_n hx hb dX11_pass_54 rfl (lv_at hl 2 rfl) ?_
                                      obtain ⟨_, h295, h⟩ := ob_s h
                                      refine fm_cv (nb_runVr (As := []) (rest := []) hA hx hb hml hown hSW hS hW (m_X11_forget l z ad _ hA A u292 hF h295) mf_X11_forget lk_X11_233 hF.1 rfl rfl ⟨rfl, rfl⟩ ⟨Nat.le_of_ble_eq_true rfl, Nat.le_of_ble_eq_true rfl⟩ hl.1 (Nat.le_of_ble_eq_true rfl) dX11_pass_55 ⟨Nat.le_of_ble_eq_true rfl, Nat.le_of_ble_eq_true rfl⟩) hS (fun H locs G297 hEG297 hW hS => ?_)
                                      replace hF := hF.ext0 hEG297
                                      refine lv_aload_n hx hb dX11_pass_58 rfl (lv_at hl 2 rfl) ?_
                                      refine lv_iload_n hx hb dX11_pass_59 rfl (lv_at hl 4 rfl) ?_
                                      refine lv_iload_n hx hb dX11_pass_60 rfl (lv_at hl 5 rfl) ?_
                                      obtain ⟨_, h298, h⟩ := ob_s h
                                      refine fm_cv (nb_runVr (As := [.int x2, .int x3]) (rest := []) hA hx hb hml hown hSW hS hW (m_X11_weather l z ad _ hA A u292 hF x2 x3 h298) mf_X11_weather lk_X11_236 hF.1 rfl rfl ⟨rfl, rfl⟩ ⟨Nat.le_of_ble_eq_true rfl, Nat.le_of_ble_eq_true rfl⟩ hl.1 (Nat.le_of_ble_eq_true rfl) dX11_pass_61 ⟨Nat.le_of_ble_eq_true rfl, Nat.le_of_ble_eq_true rfl⟩) hS (fun H locs G300 hEG300 hW hS => ?_)
                                      replace hF := hF.ext0 hEG300
                                      refine lv_iconst (v := 0) hx hb dX11_pass_64 (by decide) ?_
                                      refine lv_istore (lv' := [(5, .int 0), (4, .int 14), (0, .ref (A 0)), (1, .int x1), (2, .int x2), (3, .int x3)]) hx hb dX11_pass_65 hl (by decide) rfl (fun ls hl => ?_)
                                      refine lv_iload hx hb dX11_pass_67 (lv_at hl 0 rfl) ?_
                                      refine lv_iconst (v := 4) hx hb dX11_pass_69 (by decide) ?_
                                      refine lv_icmp_ge (tgt := 87) hx hb dX11_pass_70 (by decide) (fun hc => absurd hc (by decide)) (fun _ => ?_)
                                      refine lv_aload_n hx hb dX11_pass_73 rfl (lv_at hl 2 rfl) ?_
                                      refine nb_getr hA hx hb hT hK hown hW fl_X11_37 hF.1 (v := .ref (A 6)) rfl dX11_pass_74 ?_
                                      refine lv_iload hx hb dX11_pass_77 (lv_at hl 0 rfl) ?_
                                      refine lv_iconst (v := 0) hx hb dX11_pass_79 (by decide) ?_
                                      obtain ⟨f302, hf302⟩ := hF.2.2.1
                                      refine nb_iastr hA hx hb hK hW hS 0 hf302 rfl (inb_in (by decide)) dX11_pass_80 (fun H locs G301 hEG301 hcG301 hW hS => ?_)
                                      replace hF := hF.teach hEG301 hcG301
                                      refine lv_iinc (v := 1) (lv' := [(5, .int 1), (4, .int 14), (0, .ref (A 0)), (1, .int x1), (2, .int x2), (3, .int x3)]) hx hb dX11_pass_81 hl (k := 0) rfl (by decide) (by decide) rfl (fun ls hl => ?_)
                                      refine lv_goto (tgt := 67) hx hb dX11_pass_84 (by decide) ?_
                                      refine lv_iload hx hb dX11_pass_67 (lv_at hl 0 rfl) ?_
                                      refine lv_iconst (v := 4) hx hb dX11_pass_69 (by decide) ?_
                                      refine lv_icmp_ge (tgt := 87) hx hb dX11_pass_70 (by decide) (fun hc => absurd hc (by decide)) (fun _ => ?_)
                                      refine lv_aload_n hx hb dX11_pass_73 rfl (lv_at hl 2 rfl) ?_
                                      refine nb_getr hA hx hb hT hK hown hW fl_X11_37 hF.1 (v := .ref (A 6)) rfl dX11_pass_74 ?_
                                      refine lv_iload hx hb dX11_pass_77 (lv_at hl 0 rfl) ?_
                                      refine lv_iconst (v := 0) hx hb dX11_pass_79 (by decide) ?_
                                      obtain ⟨f304, hf304⟩ := hF.2.2.1
                                      refine nb_iastr hA hx hb hK hW hS 0 hf304 rfl (inb_in (by decide)) dX11_pass_80 (fun H locs G303 hEG303 hcG303 hW hS => ?_)
                                      replace hF := hF.teach hEG303 hcG303
                                      refine lv_iinc (v := 2) (lv' := [(5, .int 2), (4, .int 14), (0, .ref (A 0)), (1, .int x1), (2, .int x2), (3, .int x3)]) hx hb dX11_pass_81 hl (k := 0) rfl (by decide) (by decide) rfl (fun ls hl => ?_)
                                      refine lv_goto (tgt := 67) hx hb dX11_pass_84 (by decide) ?_
                                      refine lv_iload hx hb dX11_pass_67 (lv_at hl 0 rfl) ?_
                                      refine lv_iconst (v := 4) hx hb dX11_pass_69 (by decide) ?_
                                      refine lv_icmp_ge (tgt := 87) hx hb dX11_pass_70 (by decide) (fun hc => absurd hc (by decide)) (fun _ => ?_)
                                      refine lv_aload_n hx hb dX11_pass_73 rfl (lv_at hl 2 rfl) ?_
                                      refine nb_getr hA hx hb hT hK hown hW fl_X11_37 hF.1 (v := .ref (A 6)) rfl dX11_pass_74 ?_
                                      refine lv_iload hx hb dX11_pass_77 (lv_at hl 0 rfl) ?_
                                      refine lv_iconst (v := 0) hx hb dX11_pass_79 (by decide) ?_
                                      obtain ⟨f306, hf306⟩ := hF.2.2.1
                                      refine nb_iastr hA hx hb hK hW hS 0 hf306 rfl (inb_in (by decide)) dX11_pass_80 (fun H locs G305 hEG305 hcG305 hW hS => ?_)
                                      replace hF := hF.teach hEG305 hcG305
                                      refine lv_iinc (v := 3) (lv' := [(5, .int 3), (4, .int 14), (0, .ref (A 0)), (1, .int x1), (2, .int x2), (3, .int x3)]) hx hb dX11_pass_81 hl (k := 0) rfl (by decide) (by decide) rfl (fun ls hl => ?_)
                                      refine lv_goto (tgt := 67) hx hb dX11_pass_84 (by decide) ?_
                                      refine lv_iload hx hb dX11_pass_67 (lv_at hl 0 rfl) ?_
                                      refine lv_iconst (v := 4) hx hb dX11_pass_69 (by decide) ?_
                                      refine lv_icmp_ge (tgt := 87) hx hb dX11_pass_70 (by decide) (fun hc => absurd hc (by decide)) (fun _ => ?_)
                                      refine lv_aload_n hx hb dX11_pass_73 rfl (lv_at hl 2 rfl) ?_
                                      refine nb_getr hA hx hb hT hK hown hW fl_X11_37 hF.1 (v := .ref (A 6)) rfl dX11_pass_74 ?_
                                      refine lv_iload hx hb dX11_pass_77 (lv_at hl 0 rfl) ?_
                                      refine lv_iconst (v := 0) hx hb dX11_pass_79 (by decide) ?_
                                      obtain ⟨f308, hf308⟩ := hF.2.2.1
                                      refine nb_iastr hA hx hb hK hW hS 0 hf308 rfl (inb_in (by decide)) dX11_pass_80 (fun H locs G307 hEG307 hcG307 hW hS => ?_)
                                      replace hF := hF.teach hEG307 hcG307
                                      refine lv_iinc (v := 4) (lv' := [(5, .int 4), (4, .int 14), (0, .ref (A 0)), (1, .int x1), (2, .int x2), (3, .int x3)]) hx hb dX11_pass_81 hl (k := 0) rfl (by decide) (by decide) rfl (fun ls hl => ?_)
                                      refine lv_goto (tgt := 67) hx hb dX11_pass_84 (by decide) ?_
                                      refine lv_iload hx hb dX11_pass_67 (lv_at hl 0 rfl) ?_
                                      refine lv_iconst (v := 4) hx hb dX11_pass_69 (by decide) ?_
                                      refine lv_icmp_ge (tgt := 87) hx hb dX11_pass_70 (by decide) (fun _ => ?_) (fun hc => absurd (by decide) hc)
                                      refine lv_aload_n hx hb dX11_pass_87 rfl (lv_at hl 2 rfl) ?_
                                      refine lv_iconst (v := 0) hx hb dX11_pass_88 (by decide) ?_
                                      obtain ⟨u309, eu309, h⟩ := nm_s h
                                      refine nb_putr hA hx hb hT hK hown hW hS fl_X11_216 tyX11 tyX11_ok nmX11 hF.1 (v := .int 0) rfl rfl rfl (Nat.le_of_ble_eq_true rfl) dX11_pass_89 (fun H locs G310 hEG310 hcG310 hW hS => ?_)
                                      replace hF := hF.put (M' := u309) hEG310 hcG310 (by rw [eu309]; rfl) (by rw [eu309]; rfl)
                                      replace hw : fmO u309 = fmO M := by rw [eu309]; exact hw
                                      refine lv_aload_n hx hb dX11_pass_92 rfl (lv_at hl 2 rfl) ?_
                                      refine lv_dup hx hb dX11_pass_93 rfl ?_
                                      refine nb_getr hA hx hb hT hK hown hW fl_X11_210 hF.1 (v := .int (u309 11 0 0)) rfl dX11_pass_94 ?_
                                      refine lv_iconst (v := 1) hx hb dX11_pass_97 (by decide) ?_
                                      refine lv_iadd hx hb dX11_pass_98 ?_
                                      obtain ⟨u311, eu311, h⟩ := nm_s h
                                      refine nb_putr hA hx hb hT hK hown hW hS fl_X11_210 tyX11 tyX11_ok nmX11 hF.1 (v := .int ((u309 11 0 0) + 1)) rfl rfl rfl (Nat.le_of_ble_eq_true rfl) dX11_pass_99 (fun H locs G312 hEG312 hcG312 hW hS => ?_)
                                      replace hF := hF.put (M' := u311) hEG312 hcG312 (by rw [eu311]; rfl) (by rw [eu311]; rfl)
                                      replace hw : fmO u311 = fmO M := by rw [eu311]; exact hw
                                      refine lv_iinc (v := 15) (lv' := [(4, .int 15), (5, .int 4), (0, .ref (A 0)), (1, .int x1), (2, .int x2), (3, .int x3)]) hx hb dX11_pass_102 hl (k := 1) rfl (by decide) (by decide) rfl (fun ls hl => ?_)
                                      refine lv_goto (tgt := 48) hx hb dX11_pass_105 (by decide) ?_
                                      refine lv_iload hx hb dX11_pass_48 (lv_at hl 0 rfl) ?_
                                      refine lv_iload_n hx hb dX11_pass_50 rfl (lv_at hl 3 rfl) ?_
                                      refine lv_icmp_ge (tgt := 108) hx hb dX11_pass_51 (by decide) (fun c313 => ?_) (fun c313 => ?_)
                                      · replace h := ite_t h c313
                                        refine lv_aload_n hx hb dX11_pass_108 rfl (lv_at hl 2 rfl) ?_
                                        refine nb_getr hA hx hb hT hK hown hW fl_X11_210 hF.1 (v := .int (u311 11 0 0)) rfl dX11_pass_109 ?_
                                        refine W.widen (k := 60) (n := 240) (Nat.le_of_ble_eq_true rfl) (Nat.le_of_ble_eq_true rfl) ?_
                                        exact fm_iw hx hb hr rfl hlocks hW (hF.w hw) hS dX11_pass_112 h
                                      · replace h := ite_f h c313
                                        refine lv_aload_n hx hb dX11_pass_54 rfl (lv_at hl 2 rfl) ?_
                                        obtain ⟨_, h314, h⟩ := ob_s h
                                        refine fm_cv (nb_runVr (As := []) (rest := []) hA hx hb hml hown hSW hS hW (m_X11_forget l z ad _ hA A u311 hF h314) mf_X11_forget lk_X11_233 hF.1 rfl rfl ⟨rfl, rfl⟩ ⟨Nat.le_of_ble_eq_true rfl, Nat.le_of_ble_eq_true rfl⟩ hl.1 (Nat.le_of_ble_eq_true rfl) dX11_pass_55 ⟨Nat.le_of_ble_eq_true rfl, Nat.le_of_ble_eq_true rfl⟩) hS (fun H locs G316 hEG316 hW hS => ?_)
                                        replace hF := hF.ext0 hEG316
                                        refine lv_aload_n hx hb dX11_pass_58 rfl (lv_at hl 2 rfl) ?_
                                        refine lv_iload_n hx hb dX11_pass_59 rfl (lv_at hl 4 rfl) ?_
                                        refine lv_iload_n hx hb dX11_pass_60 rfl (lv_at hl 5 rfl) ?_
                                        obtain ⟨_, h317, h⟩ := ob_s h
                                        refine fm_cv (nb_runVr (As := [.int x2, .int x3]) (rest := []) hA hx hb hml hown hSW hS hW (m_X11_weather l z ad _ hA A u311 hF x2 x3 h317) mf_X11_weather lk_X11_236 hF.1 rfl rfl ⟨rfl, rfl⟩ ⟨Nat.le_of_ble_eq_true rfl, Nat.le_of_ble_eq_true rfl⟩ hl.1 (Nat.le_of_ble_eq_true rfl) dX11_pass_61 ⟨Nat.le_of_ble_eq_true rfl, Nat.le_of_ble_eq_true rfl⟩) hS (fun H locs G319 hEG319 hW hS => ?_)
                                        replace hF := hF.ext0 hEG319
                                        refine lv_iconst (v := 0) hx hb dX11_pass_64 (by decide) ?_
                                        refine lv_istore (lv' := [(5, .int 0), (4, .int 15), (0, .ref (A 0)), (1, .int x1), (2, .int x2), (3, .int x3)]) hx hb dX11_pass_65 hl (by decide) rfl (fun ls hl => ?_)
                                        refine lv_iload hx hb dX11_pass_67 (lv_at hl 0 rfl) ?_
                                        refine lv_iconst (v := 4) hx hb dX11_pass_69 (by decide) ?_
                                        refine lv_icmp_ge (tgt := 87) hx hb dX11_pass_70 (by decide) (fun hc => absurd hc (by decide)) (fun _ => ?_)
                                        refine lv_aload_n hx hb dX11_pass_73 rfl (lv_at hl 2 rfl) ?_
                                        refine nb_getr hA hx hb hT hK hown hW fl_X11_37 hF.1 (v := .ref (A 6)) rfl dX11_pass_74 ?_
                                        refine lv_iload hx hb dX11_pass_77 (lv_at hl 0 rfl) ?_
                                        refine lv_iconst (v := 0) hx hb dX11_pass_79 (by decide) ?_
                                        obtain ⟨f321, hf321⟩ := hF.2.2.1
                                        refine nb_iastr hA hx hb hK hW hS 0 hf321 rfl (inb_in (by decide)) dX11_pass_80 (fun H locs G320 hEG320 hcG320 hW hS => ?_)
                                        replace hF := hF.teach hEG320 hcG320
                                        refine lv_iinc (v := 1) (lv' := [(5, .int 1), (4, .int 15), (0, .ref (A 0)), (1, .int x1), (2, .int x2), (3, .int x3)]) hx hb dX11_pass_81 hl (k := 0) rfl (by decide) (by decide) rfl (fun ls hl => ?_)
                                        refine lv_goto (tgt := 67) hx hb dX11_pass_84 (by decide) ?_
                                        refine lv_iload hx hb dX11_pass_67 (lv_at hl 0 rfl) ?_
                                        refine lv_iconst (v := 4) hx hb dX11_pass_69 (by decide) ?_
                                        refine lv_icmp_ge (tgt := 87) hx hb dX11_pass_70 (by decide) (fun hc => absurd hc (by decide)) (fun _ => ?_)
                                        refine lv_aload_n hx hb dX11_pass_73 rfl (lv_at hl 2 rfl) ?_
                                        refine nb_getr hA hx hb hT hK hown hW fl_X11_37 hF.1 (v := .ref (A 6)) rfl dX11_pass_74 ?_
                                        refine lv_iload hx hb dX11_pass_77 (lv_at hl 0 rfl) ?_
                                        refine lv_iconst (v := 0) hx hb dX11_pass_79 (by decide) ?_
                                        obtain ⟨f323, hf323⟩ := hF.2.2.1
                                        refine nb_iastr hA hx hb hK hW hS 0 hf323 rfl (inb_in (by decide)) dX11_pass_80 (fun H locs G322 hEG322 hcG322 hW hS => ?_)
                                        replace hF := hF.teach hEG322 hcG322
                                        refine lv_iinc (v := 2) (lv' := [(5, .int 2), (4, .int 15), (0, .ref (A 0)), (1, .int x1), (2, .int x2), (3, .int x3)]) hx hb dX11_pass_81 hl (k := 0) rfl (by decide) (by decide) rfl (fun ls hl => ?_)
                                        refine lv_goto (tgt := 67) hx hb dX11_pass_84 (by decide) ?_
                                        refine lv_iload hx hb dX11_pass_67 (lv_at hl 0 rfl) ?_
                                        refine lv_iconst (v := 4) hx hb dX11_pass_69 (by decide) ?_
                                        refine lv_icmp_ge (tgt := 87) hx hb dX11_pass_70 (by decide) (fun hc => absurd hc (by decide)) (fun _ => ?_)
                                        refine lv_aload_n hx hb dX11_pass_73 rfl (lv_at hl 2 rfl) ?_
                                        refine nb_getr hA hx hb hT hK hown hW fl_X11_37 hF.1 (v := .ref (A 6)) rfl dX11_pass_74 ?_
                                        refine lv_iload hx hb dX11_pass_77 (lv_at hl 0 rfl) ?_
                                        refine lv_iconst (v := 0) hx hb dX11_pass_79 (by decide) ?_
                                        obtain ⟨f325, hf325⟩ := hF.2.2.1
                                        refine nb_iastr hA hx hb hK hW hS 0 hf325 rfl (inb_in (by decide)) dX11_pass_80 (fun H locs G324 hEG324 hcG324 hW hS => ?_)
                                        replace hF := hF.teach hEG324 hcG324
                                        refine lv_iinc (v := 3) (lv' := [(5, .int 3), (4, .int 15), (0, .ref (A 0)), (1, .int x1), (2, .int x2), (3, .int x3)]) hx hb dX11_pass_81 hl (k := 0) rfl (by decide) (by decide) rfl (fun ls hl => ?_)
                                        refine lv_goto (tgt := 67) hx hb dX11_pass_84 (by decide) ?_
                                        refine lv_iload hx hb dX11_pass_67 (lv_at hl 0 rfl) ?_
                                        refine lv_iconst (v := 4) hx hb dX11_pass_69 (by decide) ?_
                                        refine lv_icmp_ge (tgt := 87) hx hb dX11_pass_70 (by decide) (fun hc => absurd hc (by decide)) (fun _ => ?_)
                                        refine lv_aload_n hx hb dX11_pass_73 rfl (lv_at hl 2 rfl) ?_
                                        refine nb_getr hA hx hb hT hK hown hW fl_X11_37 hF.1 (v := .ref (A 6)) rfl dX11_pass_74 ?_
                                        refine lv_iload hx hb dX11_pass_77 (lv_at hl 0 rfl) ?_
                                        refine lv_iconst (v := 0) hx hb dX11_pass_79 (by decide) ?_
                                        obtain ⟨f327, hf327⟩ := hF.2.2.1
                                        refine nb_iastr hA hx hb hK hW hS 0 hf327 rfl (inb_in (by decide)) dX11_pass_80 (fun H locs G326 hEG326 hcG326 hW hS => ?_)
                                        replace hF := hF.teach hEG326 hcG326
                                        refine lv_iinc (v := 4) (lv' := [(5, .int 4), (4, .int 15), (0, .ref (A 0)), (1, .int x1), (2, .int x2), (3, .int x3)]) hx hb dX11_pass_81 hl (k := 0) rfl (by decide) (by decide) rfl (fun ls hl => ?_)
                                        refine lv_goto (tgt := 67) hx hb dX11_pass_84 (by decide) ?_
                                        refine lv_iload hx hb dX11_pass_67 (lv_at hl 0 rfl) ?_
                                        refine lv_iconst (v := 4) hx hb dX11_pass_69 (by decide) ?_
                                        refine lv_icmp_ge (tgt := 87) hx hb dX11_pass_70 (by decide) (fun _ => ?_) (fun hc => absurd (by decide) hc)
                                        refine lv_aload_n hx hb dX11_pass_87 rfl (lv_at hl 2 rfl) ?_
                                        refine lv_iconst (v := 0) hx hb dX11_pass_88 (by decide) ?_
                                        obtain ⟨u328, eu328, h⟩ := nm_s h
                                        refine nb_putr hA hx hb hT hK hown hW hS fl_X11_216 tyX11 tyX11_ok nmX11 hF.1 (v := .int 0) rfl rfl rfl (Nat.le_of_ble_eq_true rfl) dX11_pass_89 (fun H locs G329 hEG329 hcG329 hW hS => ?_)
                                        replace hF := hF.put (M' := u328) hEG329 hcG329 (by rw [eu328]; rfl) (by rw [eu328]; rfl)
                                        replace hw : fmO u328 = fmO M := by rw [eu328]; exact hw
                                        refine lv_aload_n hx hb dX11_pass_92 rfl (lv_at hl 2 rfl) ?_
                                        refine lv_dup hx hb dX11_pass_93 rfl ?_
                                        refine nb_getr hA hx hb hT hK hown hW fl_X11_210 hF.1 (v := .int (u328 11 0 0)) rfl dX11_pass_94 ?_
                                        refine lv_iconst (v := 1) hx hb dX11_pass_97 (by decide) ?_
                                        refine lv_iadd hx hb dX11_pass_98 ?_
                                        obtain ⟨u330, eu330, h⟩ := nm_s h
                                        refine nb_putr hA hx hb hT hK hown hW hS fl_X11_210 tyX11 tyX11_ok nmX11 hF.1 (v := .int ((u328 11 0 0) + 1)) rfl rfl rfl (Nat.le_of_ble_eq_true rfl) dX11_pass_99 (fun H locs G331 hEG331 hcG331 hW hS => ?_)
                                        replace hF := hF.put (M' := u330) hEG331 hcG331 (by rw [eu330]; rfl) (by rw [eu330]; rfl)
                                        replace hw : fmO u330 = fmO M := by rw [eu330]; exact hw
                                        refine lv_iinc (v := 16) (lv' := [(4, .int 16), (5, .int 4), (0, .ref (A 0)), (1, .int x1), (2, .int x2), (3, .int x3)]) hx hb dX11_pass_102 hl (k := 1) rfl (by decide) (by decide) rfl (fun ls hl => ?_)
                                        refine lv_goto (tgt := 48) hx hb dX11_pass_105 (by decide) ?_
                                        refine lv_iload hx hb dX11_pass_48 (lv_at hl 0 rfl) ?_
                                        refine lv_iload_n hx hb dX11_pass_50 rfl (lv_at hl 3 rfl) ?_
                                        refine lv_icmp_ge (tgt := 108) hx hb dX11_pass_51 (by decide) (fun c332 => ?_) (fun c332 => ?_)
                                        · replace h := ite_t h c332
                                          refine lv_aload_n hx hb dX11_pass_108 rfl (lv_at hl 2 rfl) ?_
                                          refine nb_getr hA hx hb hT hK hown hW fl_X11_210 hF.1 (v := .int (u330 11 0 0)) rfl dX11_pass_109 ?_
                                          refine W.widen (k := 60) (n := 240) (Nat.le_of_ble_eq_true rfl) (Nat.le_of_ble_eq_true rfl) ?_
                                          exact fm_iw hx hb hr rfl hlocks hW (hF.w hw) hS dX11_pass_112 h
                                        · replace h := ite_f h c332
                                          refine lv_aload_n hx hb dX11_pass_54 rfl (lv_at hl 2 rfl) ?_
                                          obtain ⟨_, h333, h⟩ := ob_s h
                                          refine fm_cv (nb_runVr (As := []) (rest := []) hA hx hb hml hown hSW hS hW (m_X11_forget l z ad _ hA A u330 hF h333) mf_X11_forget lk_X11_233 hF.1 rfl rfl ⟨rfl, rfl⟩ ⟨Nat.le_of_ble_eq_true rfl, Nat.le_of_ble_eq_true rfl⟩ hl.1 (Nat.le_of_ble_eq_true rfl) dX11_pass_55 ⟨Nat.le_of_ble_eq_true rfl, Nat.le_of_ble_eq_true rfl⟩) hS (fun H locs G335 hEG335 hW hS => ?_)
                                          replace hF := hF.ext0 hEG335
                                          refine lv_aload_n hx hb dX11_pass_58 rfl (lv_at hl 2 rfl) ?_
                                          refine lv_iload_n hx hb dX11_pass_59 rfl (lv_at hl 4 rfl) ?_
                                          refine lv_iload_n hx hb dX11_pass_60 rfl (lv_at hl 5 rfl) ?_
                                          obtain ⟨_, h336, h⟩ := ob_s h
                                          refine fm_cv (nb_runVr (As := [.int x2, .int x3]) (rest := []) hA hx hb hml hown hSW hS hW (m_X11_weather l z ad _ hA A u330 hF x2 x3 h336) mf_X11_weather lk_X11_236 hF.1 rfl rfl ⟨rfl, rfl⟩ ⟨Nat.le_of_ble_eq_true rfl, Nat.le_of_ble_eq_true rfl⟩ hl.1 (Nat.le_of_ble_eq_true rfl) dX11_pass_61 ⟨Nat.le_of_ble_eq_true rfl, Nat.le_of_ble_eq_true rfl⟩) hS (fun H locs G338 hEG338 hW hS => ?_)
                                          replace hF := hF.ext0 hEG338
                                          refine lv_iconst (v := 0) hx hb dX11_pass_64 (by decide) ?_
                                          refine lv_istore (lv' := [(5, .int 0), (4, .int 16), (0, .ref (A 0)), (1, .int x1), (2, .int x2), (3, .int x3)]) hx hb dX11_pass_65 hl (by decide) rfl (fun ls hl => ?_)
                                          refine lv_iload hx hb dX11_pass_67 (lv_at hl 0 rfl) ?_
                                          refine lv_iconst (v := 4) hx hb dX11_pass_69 (by decide) ?_
                                          refine lv_icmp_ge (tgt := 87) hx hb dX11_pass_70 (by decide) (fun hc => absurd hc (by decide)) (fun _ => ?_)
                                          refine lv_aload_n hx hb dX11_pass_73 rfl (lv_at hl 2 rfl) ?_
                                          refine nb_getr hA hx hb hT hK hown hW fl_X11_37 hF.1 (v := .ref (A 6)) rfl dX11_pass_74 ?_
                                          refine lv_iload hx hb dX11_pass_77 (lv_at hl 0 rfl) ?_
                                          refine lv_iconst (v := 0) hx hb dX11_pass_79 (by decide) ?_
                                          obtain ⟨f340, hf340⟩ := hF.2.2.1
                                          refine nb_iastr hA hx hb hK hW hS 0 hf340 rfl (inb_in (by decide)) dX11_pass_80 (fun H locs G339 hEG339 hcG339 hW hS => ?_)
                                          replace hF := hF.teach hEG339 hcG339
                                          refine lv_iinc (v := 1) (lv' := [(5, .int 1), (4, .int 16), (0, .ref (A 0)), (1, .int x1), (2, .int x2), (3, .int x3)]) hx hb dX11_pass_81 hl (k := 0) rfl (by decide) (by decide) rfl (fun ls hl => ?_)
                                          refine lv_goto (tgt := 67) hx hb dX11_pass_84 (by decide) ?_
                                          refine lv_iload hx hb dX11_pass_67 (lv_at hl 0 rfl) ?_
                                          refine lv_iconst (v := 4) hx hb dX11_pass_69 (by decide) ?_
                                          refine lv_icmp_ge (tgt := 87) hx hb dX11_pass_70 (by decide) (fun hc => absurd hc (by decide)) (fun _ => ?_)
                                          refine lv_aload_n hx hb dX11_pass_73 rfl (lv_at hl 2 rfl) ?_
                                          refine nb_getr hA hx hb hT hK hown hW fl_X11_37 hF.1 (v := .ref (A 6)) rfl dX11_pass_74 ?_
                                          refine lv_iload hx hb dX11_pass_77 (lv_at hl 0 rfl) ?_
                                          refine lv_iconst (v := 0) hx hb dX11_pass_79 (by decide) ?_
                                          obtain ⟨f342, hf342⟩ := hF.2.2.1
                                          refine nb_iastr hA hx hb hK hW hS 0 hf342 rfl (inb_in (by decide)) dX11_pass_80 (fun H locs G341 hEG341 hcG341 hW hS => ?_)
                                          replace hF := hF.teach hEG341 hcG341
                                          refine lv_iinc (v := 2) (lv' := [(5, .int 2), (4, .int 16), (0, .ref (A 0)), (1, .int x1), (2, .int x2), (3, .int x3)]) hx hb dX11_pass_81 hl (k := 0) rfl (by decide) (by decide) rfl (fun ls hl => ?_)
                                          refine lv_goto (tgt := 67) hx hb dX11_pass_84 (by decide) ?_
                                          refine lv_iload hx hb dX11_pass_67 (lv_at hl 0 rfl) ?_
                                          refine lv_iconst (v := 4) hx hb dX11_pass_69 (by decide) ?_
                                          refine lv_icmp_ge (tgt := 87) hx hb dX11_pass_70 (by decide) (fun hc => absurd hc (by decide)) (fun _ => ?_)
                                          refine lv_aload_n hx hb dX11_pass_73 rfl (lv_at hl 2 rfl) ?_
                                          refine nb_getr hA hx hb hT hK hown hW fl_X11_37 hF.1 (v := .ref (A 6)) rfl dX11_pass_74 ?_
                                          refine lv_iload hx hb dX11_pass_77 (lv_at hl 0 rfl) ?_
                                          refine lv_iconst (v := 0) hx hb dX11_pass_79 (by decide) ?_
                                          obtain ⟨f344, hf344⟩ := hF.2.2.1
                                          refine nb_iastr hA hx hb hK hW hS 0 hf344 rfl (inb_in (by decide)) dX11_pass_80 (fun H locs G343 hEG343 hcG343 hW hS => ?_)
                                          replace hF := hF.teach hEG343 hcG343
                                          refine lv_iinc (v := 3) (lv' := [(5, .int 3), (4, .int 16), (0, .ref (A 0)), (1, .int x1), (2, .int x2), (3, .int x3)]) hx hb dX11_pass_81 hl (k := 0) rfl (by decide) (by decide) rfl (fun ls hl => ?_)
                                          refine lv_goto (tgt := 67) hx hb dX11_pass_84 (by decide) ?_
                                          refine lv_iload hx hb dX11_pass_67 (lv_at hl 0 rfl) ?_
                                          refine lv_iconst (v := 4) hx hb dX11_pass_69 (by decide) ?_
                                          refine lv_icmp_ge (tgt := 87) hx hb dX11_pass_70 (by decide) (fun hc => absurd hc (by decide)) (fun _ => ?_)
                                          refine lv_aload_n hx hb dX11_pass_73 rfl (lv_at hl 2 rfl) ?_
                                          refine nb_getr hA hx hb hT hK hown hW fl_X11_37 hF.1 (v := .ref (A 6)) rfl dX11_pass_74 ?_
                                          refine lv_iload hx hb dX11_pass_77 (lv_at hl 0 rfl) ?_
                                          refine lv_iconst (v := 0) hx hb dX11_pass_79 (by decide) ?_
                                          obtain ⟨f346, hf346⟩ := hF.2.2.1
                                          refine nb_iastr hA hx hb hK hW hS 0 hf346 rfl (inb_in (by decide)) dX11_pass_80 (fun H locs G345 hEG345 hcG345 hW hS => ?_)
                                          replace hF := hF.teach hEG345 hcG345
                                          refine lv_iinc (v := 4) (lv' := [(5, .int 4), (4, .int 16), (0, .ref (A 0)), (1, .int x1), (2, .int x2), (3, .int x3)]) hx hb dX11_pass_81 hl (k := 0) rfl (by decide) (by decide) rfl (fun ls hl => ?_)
                                          refine lv_goto (tgt := 67) hx hb dX11_pass_84 (by decide) ?_
                                          refine lv_iload hx hb dX11_pass_67 (lv_at hl 0 rfl) ?_
                                          refine lv_iconst (v := 4) hx hb dX11_pass_69 (by decide) ?_
                                          refine lv_icmp_ge (tgt := 87) hx hb dX11_pass_70 (by decide) (fun _ => ?_) (fun hc => absurd (by decide) hc)
                                          refine lv_aload_n hx hb dX11_pass_87 rfl (lv_at hl 2 rfl) ?_
                                          refine lv_iconst (v := 0) hx hb dX11_pass_88 (by decide) ?_
                                          obtain ⟨u347, eu347, h⟩ := nm_s h
                                          refine nb_putr hA hx hb hT hK hown hW hS fl_X11_216 tyX11 tyX11_ok nmX11 hF.1 (v := .int 0) rfl rfl rfl (Nat.le_of_ble_eq_true rfl) dX11_pass_89 (fun H locs G348 hEG348 hcG348 hW hS => ?_)
                                          replace hF := hF.put (M' := u347) hEG348 hcG348 (by rw [eu347]; rfl) (by rw [eu347]; rfl)
                                          replace hw : fmO u347 = fmO M := by rw [eu347]; exact hw
                                          refine lv_aload_n hx hb dX11_pass_92 rfl (lv_at hl 2 rfl) ?_
                                          refine lv_dup hx hb dX11_pass_93 rfl ?_
                                          refine nb_getr hA hx hb hT hK hown hW fl_X11_210 hF.1 (v := .int (u347 11 0 0)) rfl dX11_pass_94 ?_
                                          refine lv_iconst (v := 1) hx hb dX11_pass_97 (by decide) ?_
                                          refine lv_iadd hx hb dX11_pass_98 ?_
                                          obtain ⟨u349, eu349, h⟩ := nm_s h
                                          refine nb_putr hA hx hb hT hK hown hW hS fl_X11_210 tyX11 tyX11_ok nmX11 hF.1 (v := .int ((u347 11 0 0) + 1)) rfl rfl rfl (Nat.le_of_ble_eq_true rfl) dX11_pass_99 (fun H locs G350 hEG350 hcG350 hW hS => ?_)
                                          replace hF := hF.put (M' := u349) hEG350 hcG350 (by rw [eu349]; rfl) (by rw [eu349]; rfl)
                                          replace hw : fmO u349 = fmO M := by rw [eu349]; exact hw
                                          refine lv_iinc (v := 17) (lv' := [(4, .int 17), (5, .int 4), (0, .ref (A 0)), (1, .int x1), (2, .int x2), (3, .int x3)]) hx hb dX11_pass_102 hl (k := 1) rfl (by decide) (by decide) rfl (fun ls hl => ?_)
                                          refine lv_goto (tgt := 48) hx hb dX11_pass_105 (by decide) ?_
                                          refine lv_iload hx hb dX11_pass_48 (lv_at hl 0 rfl) ?_
                                          refine lv_iload_n hx hb dX11_pass_50 rfl (lv_at hl 3 rfl) ?_
                                          refine lv_icmp_ge (tgt := 108) hx hb dX11_pass_51 (by decide) (fun c351 => ?_) (fun c351 => ?_)
                                          · replace h := ite_t h c351
                                            refine lv_aload_n hx hb dX11_pass_108 rfl (lv_at hl 2 rfl) ?_
                                            refine nb_getr hA hx hb hT hK hown hW fl_X11_210 hF.1 (v := .int (u349 11 0 0)) rfl dX11_pass_109 ?_
                                            refine W.widen (k := 60) (n := 240) (Nat.le_of_ble_eq_true rfl) (Nat.le_of_ble_eq_true rfl) ?_
                                            exact fm_iw hx hb hr rfl hlocks hW (hF.w hw) hS dX11_pass_112 h
                                          · replace h := ite_f h c351
                                            refine lv_aload_n hx hb dX11_pass_54 rfl (lv_at hl 2 rfl) ?_
                                            obtain ⟨_, h352, h⟩ := ob_s h
                                            refine fm_cv (nb_runVr (As := []) (rest := []) hA hx hb hml hown hSW hS hW (m_X11_forget l z ad _ hA A u349 hF h352) mf_X11_forget lk_X11_233 hF.1 rfl rfl ⟨rfl, rfl⟩ ⟨Nat.le_of_ble_eq_true rfl, Nat.le_of_ble_eq_true rfl⟩ hl.1 (Nat.le_of_ble_eq_true rfl) dX11_pass_55 ⟨Nat.le_of_ble_eq_true rfl, Nat.le_of_ble_eq_true rfl⟩) hS (fun H locs G354 hEG354 hW hS => ?_)
                                            replace hF := hF.ext0 hEG354
                                            refine lv_aload_n hx hb dX11_pass_58 rfl (lv_at hl 2 rfl) ?_
                                            refine lv_iload_n hx hb dX11_pass_59 rfl (lv_at hl 4 rfl) ?_
                                            refine lv_iload_n hx hb dX11_pass_60 rfl (lv_at hl 5 rfl) ?_
                                            obtain ⟨_, h355, h⟩ := ob_s h
                                            refine fm_cv (nb_runVr (As := [.int x2, .int x3]) (rest := []) hA hx hb hml hown hSW hS hW (m_X11_weather l z ad _ hA A u349 hF x2 x3 h355) mf_X11_weather lk_X11_236 hF.1 rfl rfl ⟨rfl, rfl⟩ ⟨Nat.le_of_ble_eq_true rfl, Nat.le_of_ble_eq_true rfl⟩ hl.1 (Nat.le_of_ble_eq_true rfl) dX11_pass_61 ⟨Nat.le_of_ble_eq_true rfl, Nat.le_of_ble_eq_true rfl⟩) hS (fun H locs G357 hEG357 hW hS => ?_)
                                            replace hF := hF.ext0 hEG357
                                            refine lv_iconst (v := 0) hx hb dX11_pass_64 (by decide) ?_
                                            refine lv_istore (lv' := [(5, .int 0), (4, .int 17), (0, .ref (A 0)), (1, .int x1), (2, .int x2), (3, .int x3)]) hx hb dX11_pass_65 hl (by decide) rfl (fun ls hl => ?_)
                                            refine lv_iload hx hb dX11_pass_67 (lv_at hl 0 rfl) ?_
                                            refine lv_iconst (v := 4) hx hb dX11_pass_69 (by decide) ?_
                                            refine lv_icmp_ge (tgt := 87) hx hb dX11_pass_70 (by decide) (fun hc => absurd hc (by decide)) (fun _ => ?_)
                                            refine lv_aload_n hx hb dX11_pass_73 rfl (lv_at hl 2 rfl) ?_
                                            refine nb_getr hA hx hb hT hK hown hW fl_X11_37 hF.1 (v := .ref (A 6)) rfl dX11_pass_74 ?_
                                            refine lv_iload hx hb dX11_pass_77 (lv_at hl 0 rfl) ?_
                                            refine lv_iconst (v := 0) hx hb dX11_pass_79 (by decide) ?_
                                            obtain ⟨f359, hf359⟩ := hF.2.2.1
                                            refine nb_iastr hA hx hb hK hW hS 0 hf359 rfl (inb_in (by decide)) dX11_pass_80 (fun H locs G358 hEG358 hcG358 hW hS => ?_)
                                            replace hF := hF.teach hEG358 hcG358
                                            refine lv_iinc (v := 1) (lv' := [(5, .int 1), (4, .int 17), (0, .ref (A 0)), (1, .int x1), (2, .int x2), (3, .int x3)]) hx hb dX11_pass_81 hl (k := 0) rfl (by decide) (by decide) rfl (fun ls hl => ?_)
                                            refine lv_goto (tgt := 67) hx hb dX11_pass_84 (by decide) ?_
                                            refine lv_iload hx hb dX11_pass_67 (lv_at hl 0 rfl) ?_
                                            refine lv_iconst (v := 4) hx hb dX11_pass_69 (by decide) ?_
                                            refine lv_icmp_ge (tgt := 87) hx hb dX11_pass_70 (by decide) (fun hc => absurd hc (by decide)) (fun _ => ?_)
                                            refine lv_aload_n hx hb dX11_pass_73 rfl (lv_at hl 2 rfl) ?_
                                            refine nb_getr hA hx hb hT hK hown hW fl_X11_37 hF.1 (v := .ref (A 6)) rfl dX11_pass_74 ?_
                                            refine lv_iload hx hb dX11_pass_77 (lv_at hl 0 rfl) ?_
                                            refine lv_iconst (v := 0) hx hb dX11_pass_79 (by decide) ?_
                                            obtain ⟨f361, hf361⟩ := hF.2.2.1
                                            refine nb_iastr hA hx hb hK hW hS 0 hf361 rfl (inb_in (by decide)) dX11_pass_80 (fun H locs G360 hEG360 hcG360 hW hS => ?_)
                                            replace hF := hF.teach hEG360 hcG360
                                            refine lv_iinc (v := 2) (lv' := [(5, .int 2), (4, .int 17), (0, .ref (A 0)), (1, .int x1), (2, .int x2), (3, .int x3)]) hx hb dX11_pass_81 hl (k := 0) rfl (by decide) (by decide) rfl (fun ls hl => ?_)
                                            refine lv_goto (tgt := 67) hx hb dX11_pass_84 (by decide) ?_
                                            refine lv_iload hx hb dX11_pass_67 (lv_at hl 0 rfl) ?_
                                            refine lv_iconst (v := 4) hx hb dX11_pass_69 (by decide) ?_
                                            refine lv_icmp_ge (tgt := 87) hx hb dX11_pass_70 (by decide) (fun hc => absurd hc (by decide)) (fun _ => ?_)
                                            refine lv_aload_n hx hb dX11_pass_73 rfl (lv_at hl 2 rfl) ?_
                                            refine nb_getr hA hx hb hT hK hown hW fl_X11_37 hF.1 (v := .ref (A 6)) rfl dX11_pass_74 ?_
                                            refine lv_iload hx hb dX11_pass_77 (lv_at hl 0 rfl) ?_
                                            refine lv_iconst (v := 0) hx hb dX11_pass_79 (by decide) ?_
                                            obtain ⟨f363, hf363⟩ := hF.2.2.1
                                            refine nb_iastr hA hx hb hK hW hS 0 hf363 rfl (inb_in (by decide)) dX11_pass_80 (fun H locs G362 hEG362 hcG362 hW hS => ?_)
                                            replace hF := hF.teach hEG362 hcG362
                                            refine lv_iinc (v := 3) (lv' := [(5, .int 3), (4, .int 17), (0, .ref (A 0)), (1, .int x1), (2, .int x2), (3, .int x3)]) hx hb dX11_pass_81 hl (k := 0) rfl (by decide) (by decide) rfl (fun ls hl => ?_)
                                            refine lv_goto (tgt := 67) hx hb dX11_pass_84 (by decide) ?_
                                            refine lv_iload hx hb dX11_pass_67 (lv_at hl 0 rfl) ?_
                                            refine lv_iconst (v := 4) hx hb dX11_pass_69 (by decide) ?_
                                            refine lv_icmp_ge (tgt := 87) hx hb dX11_pass_70 (by decide) (fun hc => absurd hc (by decide)) (fun _ => ?_)
                                            refine lv_aload_n hx hb dX11_pass_73 rfl (lv_at hl 2 rfl) ?_
                                            refine nb_getr hA hx hb hT hK hown hW fl_X11_37 hF.1 (v := .ref (A 6)) rfl dX11_pass_74 ?_
                                            refine lv_iload hx hb dX11_pass_77 (lv_at hl 0 rfl) ?_
                                            refine lv_iconst (v := 0) hx hb dX11_pass_79 (by decide) ?_
                                            obtain ⟨f365, hf365⟩ := hF.2.2.1
                                            refine nb_iastr hA hx hb hK hW hS 0 hf365 rfl (inb_in (by decide)) dX11_pass_80 (fun H locs G364 hEG364 hcG364 hW hS => ?_)
                                            replace hF := hF.teach hEG364 hcG364
                                            refine lv_iinc (v := 4) (lv' := [(5, .int 4), (4, .int 17), (0, .ref (A 0)), (1, .int x1), (2, .int x2), (3, .int x3)]) hx hb dX11_pass_81 hl (k := 0) rfl (by decide) (by decide) rfl (fun ls hl => ?_)
                                            refine lv_goto (tgt := 67) hx hb dX11_pass_84 (by decide) ?_
                                            refine lv_iload hx hb dX11_pass_67 (lv_at hl 0 rfl) ?_
                                            refine lv_iconst (v := 4) hx hb dX11_pass_69 (by decide) ?_
                                            refine lv_icmp_ge (tgt := 87) hx hb dX11_pass_70 (by decide) (fun _ => ?_) (fun hc => absurd (by decide) hc)
                                            refine lv_aload_n hx hb dX11_pass_87 rfl (lv_at hl 2 rfl) ?_
                                            refine lv_iconst (v := 0) hx hb dX11_pass_88 (by decide) ?_
                                            obtain ⟨u366, eu366, h⟩ := nm_s h
                                            refine nb_putr hA hx hb hT hK hown hW hS fl_X11_216 tyX11 tyX11_ok nmX11 hF.1 (v := .int 0) rfl rfl rfl (Nat.le_of_ble_eq_true rfl) dX11_pass_89 (fun H locs G367 hEG367 hcG367 hW hS => ?_)
                                            replace hF := hF.put (M' := u366) hEG367 hcG367 (by rw [eu366]; rfl) (by rw [eu366]; rfl)
                                            replace hw : fmO u366 = fmO M := by rw [eu366]; exact hw
                                            refine lv_aload_n hx hb dX11_pass_92 rfl (lv_at hl 2 rfl) ?_
                                            refine lv_dup hx hb dX11_pass_93 rfl ?_
                                            refine nb_getr hA hx hb hT hK hown hW fl_X11_210 hF.1 (v := .int (u366 11 0 0)) rfl dX11_pass_94 ?_
                                            refine lv_iconst (v := 1) hx hb dX11_pass_97 (by decide) ?_
                                            refine lv_iadd hx hb dX11_pass_98 ?_
                                            obtain ⟨u368, eu368, h⟩ := nm_s h
                                            refine nb_putr hA hx hb hT hK hown hW hS fl_X11_210 tyX11 tyX11_ok nmX11 hF.1 (v := .int ((u366 11 0 0) + 1)) rfl rfl rfl (Nat.le_of_ble_eq_true rfl) dX11_pass_99 (fun H locs G369 hEG369 hcG369 hW hS => ?_)
                                            replace hF := hF.put (M' := u368) hEG369 hcG369 (by rw [eu368]; rfl) (by rw [eu368]; rfl)
                                            replace hw : fmO u368 = fmO M := by rw [eu368]; exact hw
                                            refine lv_iinc (v := 18) (lv' := [(4, .int 18), (5, .int 4), (0, .ref (A 0)), (1, .int x1), (2, .int x2), (3, .int x3)]) hx hb dX11_pass_102 hl (k := 1) rfl (by decide) (by decide) rfl (fun ls hl => ?_)
                                            refine lv_goto (tgt := 48) hx hb dX11_pass_105 (by decide) ?_
                                            refine lv_iload hx hb dX11_pass_48 (lv_at hl 0 rfl) ?_
                                            refine lv_iload_n hx hb dX11_pass_50 rfl (lv_at hl 3 rfl) ?_
                                            refine lv_icmp_ge (tgt := 108) hx hb dX11_pass_51 (by decide) (fun c370 => ?_) (fun c370 => ?_)
                                            · replace h := ite_t h c370
                                              refine lv_aload_n hx hb dX11_pass_108 rfl (lv_at hl 2 rfl) ?_
                                              refine nb_getr hA hx hb hT hK hown hW fl_X11_210 hF.1 (v := .int (u368 11 0 0)) rfl dX11_pass_109 ?_
                                              refine W.widen (k := 60) (n := 240) (Nat.le_of_ble_eq_true rfl) (Nat.le_of_ble_eq_true rfl) ?_
                                              exact fm_iw hx hb hr rfl hlocks hW (hF.w hw) hS dX11_pass_112 h
                                            · replace h := ite_f h c370
                                              refine lv_aload_n hx hb dX11_pass_54 rfl (lv_at hl 2 rfl) ?_
                                              obtain ⟨_, h371, h⟩ := ob_s h
                                              refine fm_cv (nb_runVr (As := []) (rest := []) hA hx hb hml hown hSW hS hW (m_X11_forget l z ad _ hA A u368 hF h371) mf_X11_forget lk_X11_233 hF.1 rfl rfl ⟨rfl, rfl⟩ ⟨Nat.le_of_ble_eq_true rfl, Nat.le_of_ble_eq_true rfl⟩ hl.1 (Nat.le_of_ble_eq_true rfl) dX11_pass_55 ⟨Nat.le_of_ble_eq_true rfl, Nat.le_of_ble_eq_true rfl⟩) hS (fun H locs G373 hEG373 hW hS => ?_)
                                              replace hF := hF.ext0 hEG373
                                              refine lv_aload_n hx hb dX11_pass_58 rfl (lv_at hl 2 rfl) ?_
                                              refine lv_iload_n hx hb dX11_pass_59 rfl (lv_at hl 4 rfl) ?_
                                              refine lv_iload_n hx hb dX11_pass_60 rfl (lv_at hl 5 rfl) ?_
                                              obtain ⟨_, h374, h⟩ := ob_s h
                                              refine fm_cv (nb_runVr (As := [.int x2, .int x3]) (rest := []) hA hx hb hml hown hSW hS hW (m_X11_weather l z ad _ hA A u368 hF x2 x3 h374) mf_X11_weather lk_X11_236 hF.1 rfl rfl ⟨rfl, rfl⟩ ⟨Nat.le_of_ble_eq_true rfl, Nat.le_of_ble_eq_true rfl⟩ hl.1 (Nat.le_of_ble_eq_true rfl) dX11_pass_61 ⟨Nat.le_of_ble_eq_true rfl, Nat.le_of_ble_eq_true rfl⟩) hS (fun H locs G376 hEG376 hW hS => ?_)
                                              replace hF := hF.ext0 hEG376
                                              refine lv_iconst (v := 0) hx hb dX11_pass_64 (by decide) ?_
                                              refine lv_istore (lv' := [(5, .int 0), (4, .int 18), (0, .ref (A 0)), (1, .int x1), (2, .int x2), (3, .int x3)]) hx hb dX11_pass_65 hl (by decide) rfl (fun ls hl => ?_)
                                              refine lv_iload hx hb dX11_pass_67 (lv_at hl 0 rfl) ?_
                                              refine lv_iconst (v := 4) hx hb dX11_pass_69 (by decide) ?_
                                              refine lv_icmp_ge (tgt := 87) hx hb dX11_pass_70 (by decide) (fun hc => absurd hc (by decide)) (fun _ => ?_)
                                              refine lv_aload_n hx hb dX11_pass_73 rfl (lv_at hl 2 rfl) ?_
                                              refine nb_getr hA hx hb hT hK hown hW fl_X11_37 hF.1 (v := .ref (A 6)) rfl dX11_pass_74 ?_
                                              refine lv_iload hx hb dX11_pass_77 (lv_at hl 0 rfl) ?_
                                              refine lv_iconst (v := 0) hx hb dX11_pass_79 (by decide) ?_
                                              obtain ⟨f378, hf378⟩ := hF.2.2.1
                                              refine nb_iastr hA hx hb hK hW hS 0 hf378 rfl (inb_in (by decide)) dX11_pass_80 (fun H locs G377 hEG377 hcG377 hW hS => ?_)
                                              replace hF := hF.teach hEG377 hcG377
                                              refine lv_iinc (v := 1) (lv' := [(5, .int 1), (4, .int 18), (0, .ref (A 0)), (1, .int x1), (2, .int x2), (3, .int x3)]) hx hb dX11_pass_81 hl (k := 0) rfl (by decide) (by decide) rfl (fun ls hl => ?_)
                                              refine lv_goto (tgt := 67) hx hb dX11_pass_84 (by decide) ?_
                                              refine lv_iload hx hb dX11_pass_67 (lv_at hl 0 rfl) ?_
                                              refine lv_iconst (v := 4) hx hb dX11_pass_69 (by decide) ?_
                                              refine lv_icmp_ge (tgt := 87) hx hb dX11_pass_70 (by decide) (fun hc => absurd hc (by decide)) (fun _ => ?_)
                                              refine lv_aload_n hx hb dX11_pass_73 rfl (lv_at hl 2 rfl) ?_
                                              refine nb_getr hA hx hb hT hK hown hW fl_X11_37 hF.1 (v := .ref (A 6)) rfl dX11_pass_74 ?_
                                              refine lv_iload hx hb dX11_pass_77 (lv_at hl 0 rfl) ?_
                                              refine lv_iconst (v := 0) hx hb dX11_pass_79 (by decide) ?_
                                              obtain ⟨f380, hf380⟩ := hF.2.2.1
                                              refine nb_iastr hA hx hb hK hW hS 0 hf380 rfl (inb_in (by decide)) dX11_pass_80 (fun H locs G379 hEG379 hcG379 hW hS => ?_)
                                              replace hF := hF.teach hEG379 hcG379
                                              refine lv_iinc (v := 2) (lv' := [(5, .int 2), (4, .int 18), (0, .ref (A 0)), (1, .int x1), (2, .int x2), (3, .int x3)]) hx hb dX11_pass_81 hl (k := 0) rfl (by decide) (by decide) rfl (fun ls hl => ?_)
                                              refine lv_goto (tgt := 67) hx hb dX11_pass_84 (by decide) ?_
                                              refine lv_iload hx hb dX11_pass_67 (lv_at hl 0 rfl) ?_
                                              refine lv_iconst (v := 4) hx hb dX11_pass_69 (by decide) ?_
                                              refine lv_icmp_ge (tgt := 87) hx hb dX11_pass_70 (by decide) (fun hc => absurd hc (by decide)) (fun _ => ?_)
                                              refine lv_aload_n hx hb dX11_pass_73 rfl (lv_at hl 2 rfl) ?_
                                              refine nb_getr hA hx hb hT hK hown hW fl_X11_37 hF.1 (v := .ref (A 6)) rfl dX11_pass_74 ?_
                                              refine lv_iload hx hb dX11_pass_77 (lv_at hl 0 rfl) ?_
                                              refine lv_iconst (v := 0) hx hb dX11_pass_79 (by decide) ?_
                                              obtain ⟨f382, hf382⟩ := hF.2.2.1
                                              refine nb_iastr hA hx hb hK hW hS 0 hf382 rfl (inb_in (by decide)) dX11_pass_80 (fun H locs G381 hEG381 hcG381 hW hS => ?_)
                                              replace hF := hF.teach hEG381 hcG381
                                              refine lv_iinc (v := 3) (lv' := [(5, .int 3), (4, .int 18), (0, .ref (A 0)), (1, .int x1), (2, .int x2), (3, .int x3)]) hx hb dX11_pass_81 hl (k := 0) rfl (by decide) (by decide) rfl (fun ls hl => ?_)
                                              refine lv_goto (tgt := 67) hx hb dX11_pass_84 (by decide) ?_
                                              refine lv_iload hx hb dX11_pass_67 (lv_at hl 0 rfl) ?_
                                              refine lv_iconst (v := 4) hx hb dX11_pass_69 (by decide) ?_
                                              refine lv_icmp_ge (tgt := 87) hx hb dX11_pass_70 (by decide) (fun hc => absurd hc (by decide)) (fun _ => ?_)
                                              refine lv_aload_n hx hb dX11_pass_73 rfl (lv_at hl 2 rfl) ?_
                                              refine nb_getr hA hx hb hT hK hown hW fl_X11_37 hF.1 (v := .ref (A 6)) rfl dX11_pass_74 ?_
                                              refine lv_iload hx hb dX11_pass_77 (lv_at hl 0 rfl) ?_
                                              refine lv_iconst (v := 0) hx hb dX11_pass_79 (by decide) ?_
                                              obtain ⟨f384, hf384⟩ := hF.2.2.1
                                              refine nb_iastr hA hx hb hK hW hS 0 hf384 rfl (inb_in (by decide)) dX11_pass_80 (fun H locs G383 hEG383 hcG383 hW hS => ?_)
                                              replace hF := hF.teach hEG383 hcG383
                                              refine lv_iinc (v := 4) (lv' := [(5, .int 4), (4, .int 18), (0, .ref (A 0)), (1, .int x1), (2, .int x2), (3, .int x3)]) hx hb dX11_pass_81 hl (k := 0) rfl (by decide) (by decide) rfl (fun ls hl => ?_)
                                              refine lv_goto (tgt := 67) hx hb dX11_pass_84 (by decide) ?_
                                              refine lv_iload hx hb dX11_pass_67 (lv_at hl 0 rfl) ?_
                                              refine lv_iconst (v := 4) hx hb dX11_pass_69 (by decide) ?_
                                              refine lv_icmp_ge (tgt := 87) hx hb dX11_pass_70 (by decide) (fun _ => ?_) (fun hc => absurd (by decide) hc)
                                              refine lv_aload_n hx hb dX11_pass_87 rfl (lv_at hl 2 rfl) ?_
                                              refine lv_iconst (v := 0) hx hb dX11_pass_88 (by decide) ?_
                                              obtain ⟨u385, eu385, h⟩ := nm_s h
                                              refine nb_putr hA hx hb hT hK hown hW hS fl_X11_216 tyX11 tyX11_ok nmX11 hF.1 (v := .int 0) rfl rfl rfl (Nat.le_of_ble_eq_true rfl) dX11_pass_89 (fun H locs G386 hEG386 hcG386 hW hS => ?_)
                                              replace hF := hF.put (M' := u385) hEG386 hcG386 (by rw [eu385]; rfl) (by rw [eu385]; rfl)
                                              replace hw : fmO u385 = fmO M := by rw [eu385]; exact hw
                                              refine lv_aload_n hx hb dX11_pass_92 rfl (lv_at hl 2 rfl) ?_
                                              refine lv_dup hx hb dX11_pass_93 rfl ?_
                                              refine nb_getr hA hx hb hT hK hown hW fl_X11_210 hF.1 (v := .int (u385 11 0 0)) rfl dX11_pass_94 ?_
                                              refine lv_iconst (v := 1) hx hb dX11_pass_97 (by decide) ?_
                                              refine lv_iadd hx hb dX11_pass_98 ?_
                                              obtain ⟨u387, eu387, h⟩ := nm_s h
                                              refine nb_putr hA hx hb hT hK hown hW hS fl_X11_210 tyX11 tyX11_ok nmX11 hF.1 (v := .int ((u385 11 0 0) + 1)) rfl rfl rfl (Nat.le_of_ble_eq_true rfl) dX11_pass_99 (fun H locs G388 hEG388 hcG388 hW hS => ?_)
                                              replace hF := hF.put (M' := u387) hEG388 hcG388 (by rw [eu387]; rfl) (by rw [eu387]; rfl)
                                              replace hw : fmO u387 = fmO M := by rw [eu387]; exact hw
                                              refine lv_iinc (v := 19) (lv' := [(4, .int 19), (5, .int 4), (0, .ref (A 0)), (1, .int x1), (2, .int x2), (3, .int x3)]) hx hb dX11_pass_102 hl (k := 1) rfl (by decide) (by decide) rfl (fun ls hl => ?_)
                                              refine lv_goto (tgt := 48) hx hb dX11_pass_105 (by decide) ?_
                                              refine lv_iload hx hb dX11_pass_48 (lv_at hl 0 rfl) ?_
                                              refine lv_iload_n hx hb dX11_pass_50 rfl (lv_at hl 3 rfl) ?_
                                              refine lv_icmp_ge (tgt := 108) hx hb dX11_pass_51 (by decide) (fun c389 => ?_) (fun c389 => ?_)
                                              · replace h := ite_t h c389
                                                refine lv_aload_n hx hb dX11_pass_108 rfl (lv_at hl 2 rfl) ?_
                                                refine nb_getr hA hx hb hT hK hown hW fl_X11_210 hF.1 (v := .int (u387 11 0 0)) rfl dX11_pass_109 ?_
                                                refine W.widen (k := 60) (n := 240) (Nat.le_of_ble_eq_true rfl) (Nat.le_of_ble_eq_true rfl) ?_
                                                exact fm_iw hx hb hr rfl hlocks hW (hF.w hw) hS dX11_pass_112 h
                                              · replace h := ite_f h c389
                                                refine lv_aload_n hx hb dX11_pass_54 rfl (lv_at hl 2 rfl) ?_
                                                obtain ⟨_, h390, h⟩ := ob_s h
                                                refine fm_cv (nb_runVr (As := []) (rest := []) hA hx hb hml hown hSW hS hW (m_X11_forget l z ad _ hA A u387 hF h390) mf_X11_forget lk_X11_233 hF.1 rfl rfl ⟨rfl, rfl⟩ ⟨Nat.le_of_ble_eq_true rfl, Nat.le_of_ble_eq_true rfl⟩ hl.1 (Nat.le_of_ble_eq_true rfl) dX11_pass_55 ⟨Nat.le_of_ble_eq_true rfl, Nat.le_of_ble_eq_true rfl⟩) hS (fun H locs G392 hEG392 hW hS => ?_)
                                                replace hF := hF.ext0 hEG392
                                                refine lv_aload_n hx hb dX11_pass_58 rfl (lv_at hl 2 rfl) ?_
                                                refine lv_iload_n hx hb dX11_pass_59 rfl (lv_at hl 4 rfl) ?_
                                                refine lv_iload_n hx hb dX11_pass_60 rfl (lv_at hl 5 rfl) ?_
                                                obtain ⟨_, h393, h⟩ := ob_s h
                                                refine fm_cv (nb_runVr (As := [.int x2, .int x3]) (rest := []) hA hx hb hml hown hSW hS hW (m_X11_weather l z ad _ hA A u387 hF x2 x3 h393) mf_X11_weather lk_X11_236 hF.1 rfl rfl ⟨rfl, rfl⟩ ⟨Nat.le_of_ble_eq_true rfl, Nat.le_of_ble_eq_true rfl⟩ hl.1 (Nat.le_of_ble_eq_true rfl) dX11_pass_61 ⟨Nat.le_of_ble_eq_true rfl, Nat.le_of_ble_eq_true rfl⟩) hS (fun H locs G395 hEG395 hW hS => ?_)
                                                replace hF := hF.ext0 hEG395
                                                refine lv_iconst (v := 0) hx hb dX11_pass_64 (by decide) ?_
                                                refine lv_istore (lv' := [(5, .int 0), (4, .int 19), (0, .ref (A 0)), (1, .int x1), (2, .int x2), (3, .int x3)]) hx hb dX11_pass_65 hl (by decide) rfl (fun ls hl => ?_)
                                                refine lv_iload hx hb dX11_pass_67 (lv_at hl 0 rfl) ?_
                                                refine lv_iconst (v := 4) hx hb dX11_pass_69 (by decide) ?_
                                                refine lv_icmp_ge (tgt := 87) hx hb dX11_pass_70 (by decide) (fun hc => absurd hc (by decide)) (fun _ => ?_)
                                                refine lv_aload_n hx hb dX11_pass_73 rfl (lv_at hl 2 rfl) ?_
                                                refine nb_getr hA hx hb hT hK hown hW fl_X11_37 hF.1 (v := .ref (A 6)) rfl dX11_pass_74 ?_
                                                refine lv_iload hx hb dX11_pass_77 (lv_at hl 0 rfl) ?_
                                                refine lv_iconst (v := 0) hx hb dX11_pass_79 (by decide) ?_
                                                obtain ⟨f397, hf397⟩ := hF.2.2.1
                                                refine nb_iastr hA hx hb hK hW hS 0 hf397 rfl (inb_in (by decide)) dX11_pass_80 (fun H locs G396 hEG396 hcG396 hW hS => ?_)
                                                replace hF := hF.teach hEG396 hcG396
                                                refine lv_iinc (v := 1) (lv' := [(5, .int 1), (4, .int 19), (0, .ref (A 0)), (1, .int x1), (2, .int x2), (3, .int x3)]) hx hb dX11_pass_81 hl (k := 0) rfl (by decide) (by decide) rfl (fun ls hl => ?_)
                                                refine lv_goto (tgt := 67) hx hb dX11_pass_84 (by decide) ?_
                                                refine lv_iload hx hb dX11_pass_67 (lv_at hl 0 rfl) ?_
                                                refine lv_iconst (v := 4) hx hb dX11_pass_69 (by decide) ?_
                                                refine lv_icmp_ge (tgt := 87) hx hb dX11_pass_70 (by decide) (fun hc => absurd hc (by decide)) (fun _ => ?_)
                                                refine lv_aload_n hx hb dX11_pass_73 rfl (lv_at hl 2 rfl) ?_
                                                refine nb_getr hA hx hb hT hK hown hW fl_X11_37 hF.1 (v := .ref (A 6)) rfl dX11_pass_74 ?_
                                                refine lv_iload hx hb dX11_pass_77 (lv_at hl 0 rfl) ?_
                                                refine lv_iconst (v := 0) hx hb dX11_pass_79 (by decide) ?_
                                                obtain ⟨f399, hf399⟩ := hF.2.2.1
                                                refine nb_iastr hA hx hb hK hW hS 0 hf399 rfl (inb_in (by decide)) dX11_pass_80 (fun H locs G398 hEG398 hcG398 hW hS => ?_)
                                                replace hF := hF.teach hEG398 hcG398
                                                refine lv_iinc (v := 2) (lv' := [(5, .int 2), (4, .int 19), (0, .ref (A 0)), (1, .int x1), (2, .int x2), (3, .int x3)]) hx hb dX11_pass_81 hl (k := 0) rfl (by decide) (by decide) rfl (fun ls hl => ?_)
                                                refine lv_goto (tgt := 67) hx hb dX11_pass_84 (by decide) ?_
                                                refine lv_iload hx hb dX11_pass_67 (lv_at hl 0 rfl) ?_
                                                refine lv_iconst (v := 4) hx hb dX11_pass_69 (by decide) ?_
                                                refine lv_icmp_ge (tgt := 87) hx hb dX11_pass_70 (by decide) (fun hc => absurd hc (by decide)) (fun _ => ?_)
                                                refine lv_aload_n hx hb dX11_pass_73 rfl (lv_at hl 2 rfl) ?_
                                                refine nb_getr hA hx hb hT hK hown hW fl_X11_37 hF.1 (v := .ref (A 6)) rfl dX11_pass_74 ?_
                                                refine lv_iload hx hb dX11_pass_77 (lv_at hl 0 rfl) ?_
                                                refine lv_iconst (v := 0) hx hb dX11_pass_79 (by decide) ?_
                                                obtain ⟨f401, hf401⟩ := hF.2.2.1
                                                refine nb_iastr hA hx hb hK hW hS 0 hf401 rfl (inb_in (by decide)) dX11_pass_80 (fun H locs G400 hEG400 hcG400 hW hS => ?_)
                                                replace hF := hF.teach hEG400 hcG400
                                                refine lv_iinc (v := 3) (lv' := [(5, .int 3), (4, .int 19), (0, .ref (A 0)), (1, .int x1), (2, .int x2), (3, .int x3)]) hx hb dX11_pass_81 hl (k := 0) rfl (by decide) (by decide) rfl (fun ls hl => ?_)
                                                refine lv_goto (tgt := 67) hx hb dX11_pass_84 (by decide) ?_
                                                refine lv_iload hx hb dX11_pass_67 (lv_at hl 0 rfl) ?_
                                                refine lv_iconst (v := 4) hx hb dX11_pass_69 (by decide) ?_
                                                refine lv_icmp_ge (tgt := 87) hx hb dX11_pass_70 (by decide) (fun hc => absurd hc (by decide)) (fun _ => ?_)
                                                refine lv_aload_n hx hb dX11_pass_73 rfl (lv_at hl 2 rfl) ?_
                                                refine nb_getr hA hx hb hT hK hown hW fl_X11_37 hF.1 (v := .ref (A 6)) rfl dX11_pass_74 ?_
                                                refine lv_iload hx hb dX11_pass_77 (lv_at hl 0 rfl) ?_
                                                refine lv_iconst (v := 0) hx hb dX11_pass_79 (by decide) ?_
                                                obtain ⟨f403, hf403⟩ := hF.2.2.1
                                                refine nb_iastr hA hx hb hK hW hS 0 hf403 rfl (inb_in (by decide)) dX11_pass_80 (fun H locs G402 hEG402 hcG402 hW hS => ?_)
                                                replace hF := hF.teach hEG402 hcG402
                                                refine lv_iinc (v := 4) (lv' := [(5, .int 4), (4, .int 19), (0, .ref (A 0)), (1, .int x1), (2, .int x2), (3, .int x3)]) hx hb dX11_pass_81 hl (k := 0) rfl (by decide) (by decide) rfl (fun ls hl => ?_)
                                                refine lv_goto (tgt := 67) hx hb dX11_pass_84 (by decide) ?_
                                                refine lv_iload hx hb dX11_pass_67 (lv_at hl 0 rfl) ?_
                                                refine lv_iconst (v := 4) hx hb dX11_pass_69 (by decide) ?_
                                                refine lv_icmp_ge (tgt := 87) hx hb dX11_pass_70 (by decide) (fun _ => ?_) (fun hc => absurd (by decide) hc)
                                                refine lv_aload_n hx hb dX11_pass_87 rfl (lv_at hl 2 rfl) ?_
                                                refine lv_iconst (v := 0) hx hb dX11_pass_88 (by decide) ?_
                                                obtain ⟨u404, eu404, h⟩ := nm_s h
                                                refine nb_putr hA hx hb hT hK hown hW hS fl_X11_216 tyX11 tyX11_ok nmX11 hF.1 (v := .int 0) rfl rfl rfl (Nat.le_of_ble_eq_true rfl) dX11_pass_89 (fun H locs G405 hEG405 hcG405 hW hS => ?_)
                                                replace hF := hF.put (M' := u404) hEG405 hcG405 (by rw [eu404]; rfl) (by rw [eu404]; rfl)
                                                replace hw : fmO u404 = fmO M := by rw [eu404]; exact hw
                                                refine lv_aload_n hx hb dX11_pass_92 rfl (lv_at hl 2 rfl) ?_
                                                refine lv_dup hx hb dX11_pass_93 rfl ?_
                                                refine nb_getr hA hx hb hT hK hown hW fl_X11_210 hF.1 (v := .int (u404 11 0 0)) rfl dX11_pass_94 ?_
                                                refine lv_iconst (v := 1) hx hb dX11_pass_97 (by decide) ?_
                                                refine lv_iadd hx hb dX11_pass_98 ?_
                                                obtain ⟨u406, eu406, h⟩ := nm_s h
                                                refine nb_putr hA hx hb hT hK hown hW hS fl_X11_210 tyX11 tyX11_ok nmX11 hF.1 (v := .int ((u404 11 0 0) + 1)) rfl rfl rfl (Nat.le_of_ble_eq_true rfl) dX11_pass_99 (fun H locs G407 hEG407 hcG407 hW hS => ?_)
                                                replace hF := hF.put (M' := u406) hEG407 hcG407 (by rw [eu406]; rfl) (by rw [eu406]; rfl)
                                                replace hw : fmO u406 = fmO M := by rw [eu406]; exact hw
                                                refine lv_iinc (v := 20) (lv' := [(4, .int 20), (5, .int 4), (0, .ref (A 0)), (1, .int x1), (2, .int x2), (3, .int x3)]) hx hb dX11_pass_102 hl (k := 1) rfl (by decide) (by decide) rfl (fun ls hl => ?_)
                                                refine lv_goto (tgt := 48) hx hb dX11_pass_105 (by decide) ?_
                                                refine lv_iload hx hb dX11_pass_48 (lv_at hl 0 rfl) ?_
                                                refine lv_iload_n hx hb dX11_pass_50 rfl (lv_at hl 3 rfl) ?_
                                                refine lv_icmp_ge (tgt := 108) hx hb dX11_pass_51 (by decide) (fun c408 => ?_) (fun c408 => ?_)
                                                · replace h := ite_t h c408
                                                  refine lv_aload_n hx hb dX11_pass_108 rfl (lv_at hl 2 rfl) ?_
                                                  refine nb_getr hA hx hb hT hK hown hW fl_X11_210 hF.1 (v := .int (u406 11 0 0)) rfl dX11_pass_109 ?_
                                                  refine W.widen (k := 60) (n := 240) (Nat.le_of_ble_eq_true rfl) (Nat.le_of_ble_eq_true rfl) ?_
                                                  exact fm_iw hx hb hr rfl hlocks hW (hF.w hw) hS dX11_pass_112 h
                                                · replace h := ite_f h c408
                                                  refine lv_aload_n hx hb dX11_pass_54 rfl (lv_at hl 2 rfl) ?_
                                                  obtain ⟨_, h409, h⟩ := ob_s h
                                                  refine fm_cv (nb_runVr (As := []) (rest := []) hA hx hb hml hown hSW hS hW (m_X11_forget l z ad _ hA A u406 hF h409) mf_X11_forget lk_X11_233 hF.1 rfl rfl ⟨rfl, rfl⟩ ⟨Nat.le_of_ble_eq_true rfl, Nat.le_of_ble_eq_true rfl⟩ hl.1 (Nat.le_of_ble_eq_true rfl) dX11_pass_55 ⟨Nat.le_of_ble_eq_true rfl, Nat.le_of_ble_eq_true rfl⟩) hS (fun H locs G411 hEG411 hW hS => ?_)
                                                  replace hF := hF.ext0 hEG411
                                                  refine lv_aload_n hx hb dX11_pass_58 rfl (lv_at hl 2 rfl) ?_
                                                  refine lv_iload_n hx hb dX11_pass_59 rfl (lv_at hl 4 rfl) ?_
                                                  refine lv_iload_n hx hb dX11_pass_60 rfl (lv_at hl 5 rfl) ?_
                                                  obtain ⟨_, h412, h⟩ := ob_s h
                                                  refine fm_cv (nb_runVr (As := [.int x2, .int x3]) (rest := []) hA hx hb hml hown hSW hS hW (m_X11_weather l z ad _ hA A u406 hF x2 x3 h412) mf_X11_weather lk_X11_236 hF.1 rfl rfl ⟨rfl, rfl⟩ ⟨Nat.le_of_ble_eq_true rfl, Nat.le_of_ble_eq_true rfl⟩ hl.1 (Nat.le_of_ble_eq_true rfl) dX11_pass_61 ⟨Nat.le_of_ble_eq_true rfl, Nat.le_of_ble_eq_true rfl⟩) hS (fun H locs G414 hEG414 hW hS => ?_)
                                                  replace hF := hF.ext0 hEG414
                                                  refine lv_iconst (v := 0) hx hb dX11_pass_64 (by decide) ?_
                                                  refine lv_istore (lv' := [(5, .int 0), (4, .int 20), (0, .ref (A 0)), (1, .int x1), (2, .int x2), (3, .int x3)]) hx hb dX11_pass_65 hl (by decide) rfl (fun ls hl => ?_)
                                                  refine lv_iload hx hb dX11_pass_67 (lv_at hl 0 rfl) ?_
                                                  refine lv_iconst (v := 4) hx hb dX11_pass_69 (by decide) ?_
                                                  refine lv_icmp_ge (tgt := 87) hx hb dX11_pass_70 (by decide) (fun hc => absurd hc (by decide)) (fun _ => ?_)
                                                  refine lv_aload_n hx hb dX11_pass_73 rfl (lv_at hl 2 rfl) ?_
                                                  refine nb_getr hA hx hb hT hK hown hW fl_X11_37 hF.1 (v := .ref (A 6)) rfl dX11_pass_74 ?_
                                                  refine lv_iload hx hb dX11_pass_77 (lv_at hl 0 rfl) ?_
                                                  refine lv_iconst (v := 0) hx hb dX11_pass_79 (by decide) ?_
                                                  obtain ⟨f416, hf416⟩ := hF.2.2.1
                                                  refine nb_iastr hA hx hb hK hW hS 0 hf416 rfl (inb_in (by decide)) dX11_pass_80 (fun H locs G415 hEG415 hcG415 hW hS => ?_)
                                                  replace hF := hF.teach hEG415 hcG415
                                                  refine lv_iinc (v := 1) (lv' := [(5, .int 1), (4, .int 20), (0, .ref (A 0)), (1, .int x1), (2, .int x2), (3, .int x3)]) hx hb dX11_pass_81 hl (k := 0) rfl (by decide) (by decide) rfl (fun ls hl => ?_)
                                                  refine lv_goto (tgt := 67) hx hb dX11_pass_84 (by decide) ?_
                                                  refine lv_iload hx hb dX11_pass_67 (lv_at hl 0 rfl) ?_
                                                  refine lv_iconst (v := 4) hx hb dX11_pass_69 (by decide) ?_
                                                  refine lv_icmp_ge (tgt := 87) hx hb dX11_pass_70 (by decide) (fun hc => absurd hc (by decide)) (fun _ => ?_)
                                                  refine lv_aload_n hx hb dX11_pass_73 rfl (lv_at hl 2 rfl) ?_
                                                  refine nb_getr hA hx hb hT hK hown hW fl_X11_37 hF.1 (v := .ref (A 6)) rfl dX11_pass_74 ?_
                                                  refine lv_iload hx hb dX11_pass_77 (lv_at hl 0 rfl) ?_
                                                  refine lv_iconst (v := 0) hx hb dX11_pass_79 (by decide) ?_
                                                  obtain ⟨f418, hf418⟩ := hF.2.2.1
                                                  refine nb_iastr hA hx hb hK hW hS 0 hf418 rfl (inb_in (by decide)) dX11_pass_80 (fun H locs G417 hEG417 hcG417 hW hS => ?_)
                                                  replace hF := hF.teach hEG417 hcG417
                                                  refine lv_iinc (v := 2) (lv' := [(5, .int 2), (4, .int 20), (0, .ref (A 0)), (1, .int x1), (2, .int x2), (3, .int x3)]) hx hb dX11_pass_81 hl (k := 0) rfl (by decide) (by decide) rfl (fun ls hl => ?_)
                                                  refine lv_goto (tgt := 67) hx hb dX11_pass_84 (by decide) ?_
                                                  refine lv_iload hx hb dX11_pass_67 (lv_at hl 0 rfl) ?_
                                                  refine lv_iconst (v := 4) hx hb dX11_pass_69 (by decide) ?_
                                                  refine lv_icmp_ge (tgt := 87) hx hb dX11_pass_70 (by decide) (fun hc => absurd hc (by decide)) (fun _ => ?_)
                                                  refine lv_aload_n hx hb dX11_pass_73 rfl (lv_at hl 2 rfl) ?_
                                                  refine nb_getr hA hx hb hT hK hown hW fl_X11_37 hF.1 (v := .ref (A 6)) rfl dX11_pass_74 ?_
                                                  refine lv_iload hx hb dX11_pass_77 (lv_at hl 0 rfl) ?_
                                                  refine lv_iconst (v := 0) hx hb dX11_pass_79 (by decide) ?_
                                                  obtain ⟨f420, hf420⟩ := hF.2.2.1
                                                  refine nb_iastr hA hx hb hK hW hS 0 hf420 rfl (inb_in (by decide)) dX11_pass_80 (fun H locs G419 hEG419 hcG419 hW hS => ?_)
                                                  replace hF := hF.teach hEG419 hcG419
                                                  refine lv_iinc (v := 3) (lv' := [(5, .int 3), (4, .int 20), (0, .ref (A 0)), (1, .int x1), (2, .int x2), (3, .int x3)]) hx hb dX11_pass_81 hl (k := 0) rfl (by decide) (by decide) rfl (fun ls hl => ?_)
                                                  refine lv_goto (tgt := 67) hx hb dX11_pass_84 (by decide) ?_
                                                  refine lv_iload hx hb dX11_pass_67 (lv_at hl 0 rfl) ?_
                                                  refine lv_iconst (v := 4) hx hb dX11_pass_69 (by decide) ?_
                                                  refine lv_icmp_ge (tgt := 87) hx hb dX11_pass_70 (by decide) (fun hc => absurd hc (by decide)) (fun _ => ?_)
                                                  refine lv_aload_n hx hb dX11_pass_73 rfl (lv_at hl 2 rfl) ?_
                                                  refine nb_getr hA hx hb hT hK hown hW fl_X11_37 hF.1 (v := .ref (A 6)) rfl dX11_pass_74 ?_
                                                  refine lv_iload hx hb dX11_pass_77 (lv_at hl 0 rfl) ?_
                                                  refine lv_iconst (v := 0) hx hb dX11_pass_79 (by decide) ?_
                                                  obtain ⟨f422, hf422⟩ := hF.2.2.1
                                                  refine nb_iastr hA hx hb hK hW hS 0 hf422 rfl (inb_in (by decide)) dX11_pass_80 (fun H locs G421 hEG421 hcG421 hW hS => ?_)
                                                  replace hF := hF.teach hEG421 hcG421
                                                  refine lv_iinc (v := 4) (lv' := [(5, .int 4), (4, .int 20), (0, .ref (A 0)), (1, .int x1), (2, .int x2), (3, .int x3)]) hx hb dX11_pass_81 hl (k := 0) rfl (by decide) (by decide) rfl (fun ls hl => ?_)
                                                  refine lv_goto (tgt := 67) hx hb dX11_pass_84 (by decide) ?_
                                                  refine lv_iload hx hb dX11_pass_67 (lv_at hl 0 rfl) ?_
                                                  refine lv_iconst (v := 4) hx hb dX11_pass_69 (by decide) ?_
                                                  refine lv_icmp_ge (tgt := 87) hx hb dX11_pass_70 (by decide) (fun _ => ?_) (fun hc => absurd (by decide) hc)
                                                  refine lv_aload_n hx hb dX11_pass_87 rfl (lv_at hl 2 rfl) ?_
                                                  refine lv_iconst (v := 0) hx hb dX11_pass_88 (by decide) ?_
                                                  obtain ⟨u423, eu423, h⟩ := nm_s h
                                                  refine nb_putr hA hx hb hT hK hown hW hS fl_X11_216 tyX11 tyX11_ok nmX11 hF.1 (v := .int 0) rfl rfl rfl (Nat.le_of_ble_eq_true rfl) dX11_pass_89 (fun H locs G424 hEG424 hcG424 hW hS => ?_)
                                                  replace hF := hF.put (M' := u423) hEG424 hcG424 (by rw [eu423]; rfl) (by rw [eu423]; rfl)
                                                  replace hw : fmO u423 = fmO M := by rw [eu423]; exact hw
                                                  refine lv_aload_n hx hb dX11_pass_92 rfl (lv_at hl 2 rfl) ?_
                                                  refine lv_dup hx hb dX11_pass_93 rfl ?_
                                                  refine nb_getr hA hx hb hT hK hown hW fl_X11_210 hF.1 (v := .int (u423 11 0 0)) rfl dX11_pass_94 ?_
                                                  refine lv_iconst (v := 1) hx hb dX11_pass_97 (by decide) ?_
                                                  refine lv_iadd hx hb dX11_pass_98 ?_
                                                  obtain ⟨u425, eu425, h⟩ := nm_s h
                                                  refine nb_putr hA hx hb hT hK hown hW hS fl_X11_210 tyX11 tyX11_ok nmX11 hF.1 (v := .int ((u423 11 0 0) + 1)) rfl rfl rfl (Nat.le_of_ble_eq_true rfl) dX11_pass_99 (fun H locs G426 hEG426 hcG426 hW hS => ?_)
                                                  replace hF := hF.put (M' := u425) hEG426 hcG426 (by rw [eu425]; rfl) (by rw [eu425]; rfl)
                                                  replace hw : fmO u425 = fmO M := by rw [eu425]; exact hw
                                                  refine lv_iinc (v := 21) (lv' := [(4, .int 21), (5, .int 4), (0, .ref (A 0)), (1, .int x1), (2, .int x2), (3, .int x3)]) hx hb dX11_pass_102 hl (k := 1) rfl (by decide) (by decide) rfl (fun ls hl => ?_)
                                                  refine lv_goto (tgt := 48) hx hb dX11_pass_105 (by decide) ?_
                                                  refine lv_iload hx hb dX11_pass_48 (lv_at hl 0 rfl) ?_
                                                  refine lv_iload_n hx hb dX11_pass_50 rfl (lv_at hl 3 rfl) ?_
                                                  refine lv_icmp_ge (tgt := 108) hx hb dX11_pass_51 (by decide) (fun c427 => ?_) (fun c427 => ?_)
                                                  · replace h := ite_t h c427
                                                    refine lv_aload_n hx hb dX11_pass_108 rfl (lv_at hl 2 rfl) ?_
                                                    refine nb_getr hA hx hb hT hK hown hW fl_X11_210 hF.1 (v := .int (u425 11 0 0)) rfl dX11_pass_109 ?_
                                                    refine W.widen (k := 60) (n := 240) (Nat.le_of_ble_eq_true rfl) (Nat.le_of_ble_eq_true rfl) ?_
                                                    exact fm_iw hx hb hr rfl hlocks hW (hF.w hw) hS dX11_pass_112 h
                                                  · replace h := ite_f h c427
                                                    refine lv_aload_n hx hb dX11_pass_54 rfl (lv_at hl 2 rfl) ?_
                                                    obtain ⟨_, h428, h⟩ := ob_s h
                                                    refine fm_cv (nb_runVr (As := []) (rest := []) hA hx hb hml hown hSW hS hW (m_X11_forget l z ad _ hA A u425 hF h428) mf_X11_forget lk_X11_233 hF.1 rfl rfl ⟨rfl, rfl⟩ ⟨Nat.le_of_ble_eq_true rfl, Nat.le_of_ble_eq_true rfl⟩ hl.1 (Nat.le_of_ble_eq_true rfl) dX11_pass_55 ⟨Nat.le_of_ble_eq_true rfl, Nat.le_of_ble_eq_true rfl⟩) hS (fun H locs G430 hEG430 hW hS => ?_)
                                                    replace hF := hF.ext0 hEG430
                                                    refine lv_aload_n hx hb dX11_pass_58 rfl (lv_at hl 2 rfl) ?_
                                                    refine lv_iload_n hx hb dX11_pass_59 rfl (lv_at hl 4 rfl) ?_
                                                    refine lv_iload_n hx hb dX11_pass_60 rfl (lv_at hl 5 rfl) ?_
                                                    obtain ⟨_, h431, h⟩ := ob_s h
                                                    refine fm_cv (nb_runVr (As := [.int x2, .int x3]) (rest := []) hA hx hb hml hown hSW hS hW (m_X11_weather l z ad _ hA A u425 hF x2 x3 h431) mf_X11_weather lk_X11_236 hF.1 rfl rfl ⟨rfl, rfl⟩ ⟨Nat.le_of_ble_eq_true rfl, Nat.le_of_ble_eq_true rfl⟩ hl.1 (Nat.le_of_ble_eq_true rfl) dX11_pass_61 ⟨Nat.le_of_ble_eq_true rfl, Nat.le_of_ble_eq_true rfl⟩) hS (fun H locs G433 hEG433 hW hS => ?_)
                                                    replace hF := hF.ext0 hEG433
                                                    refine lv_iconst (v := 0) hx hb dX11_pass_64 (by decide) ?_
                                                    refine lv_istore (lv' := [(5, .int 0), (4, .int 21), (0, .ref (A 0)), (1, .int x1), (2, .int x2), (3, .int x3)]) hx hb dX11_pass_65 hl (by decide) rfl (fun ls hl => ?_)
                                                    refine lv_iload hx hb dX11_pass_67 (lv_at hl 0 rfl) ?_
                                                    refine lv_iconst (v := 4) hx hb dX11_pass_69 (by decide) ?_
                                                    refine lv_icmp_ge (tgt := 87) hx hb dX11_pass_70 (by decide) (fun hc => absurd hc (by decide)) (fun _ => ?_)
                                                    refine lv_aload_n hx hb dX11_pass_73 rfl (lv_at hl 2 rfl) ?_
                                                    refine nb_getr hA hx hb hT hK hown hW fl_X11_37 hF.1 (v := .ref (A 6)) rfl dX11_pass_74 ?_
                                                    refine lv_iload hx hb dX11_pass_77 (lv_at hl 0 rfl) ?_
                                                    refine lv_iconst (v := 0) hx hb dX11_pass_79 (by decide) ?_
                                                    obtain ⟨f435, hf435⟩ := hF.2.2.1
                                                    refine nb_iastr hA hx hb hK hW hS 0 hf435 rfl (inb_in (by decide)) dX11_pass_80 (fun H locs G434 hEG434 hcG434 hW hS => ?_)
                                                    replace hF := hF.teach hEG434 hcG434
                                                    refine lv_iinc (v := 1) (lv' := [(5, .int 1), (4, .int 21), (0, .ref (A 0)), (1, .int x1), (2, .int x2), (3, .int x3)]) hx hb dX11_pass_81 hl (k := 0) rfl (by decide) (by decide) rfl (fun ls hl => ?_)
                                                    refine lv_goto (tgt := 67) hx hb dX11_pass_84 (by decide) ?_
                                                    refine lv_iload hx hb dX11_pass_67 (lv_at hl 0 rfl) ?_
                                                    refine lv_iconst (v := 4) hx hb dX11_pass_69 (by decide) ?_
                                                    refine lv_icmp_ge (tgt := 87) hx hb dX11_pass_70 (by decide) (fun hc => absurd hc (by decide)) (fun _ => ?_)
                                                    refine lv_aload_n hx hb dX11_pass_73 rfl (lv_at hl 2 rfl) ?_
                                                    refine nb_getr hA hx hb hT hK hown hW fl_X11_37 hF.1 (v := .ref (A 6)) rfl dX11_pass_74 ?_
                                                    refine lv_iload hx hb dX11_pass_77 (lv_at hl 0 rfl) ?_
                                                    refine lv_iconst (v := 0) hx hb dX11_pass_79 (by decide) ?_
                                                    obtain ⟨f437, hf437⟩ := hF.2.2.1
                                                    refine nb_iastr hA hx hb hK hW hS 0 hf437 rfl (inb_in (by decide)) dX11_pass_80 (fun H locs G436 hEG436 hcG436 hW hS => ?_)
                                                    replace hF := hF.teach hEG436 hcG436
                                                    refine lv_iinc (v := 2) (lv' := [(5, .int 2), (4, .int 21), (0, .ref (A 0)), (1, .int x1), (2, .int x2), (3, .int x3)]) hx hb dX11_pass_81 hl (k := 0) rfl (by decide) (by decide) rfl (fun ls hl => ?_)
                                                    refine lv_goto (tgt := 67) hx hb dX11_pass_84 (by decide) ?_
                                                    refine lv_iload hx hb dX11_pass_67 (lv_at hl 0 rfl) ?_
                                                    refine lv_iconst (v := 4) hx hb dX11_pass_69 (by decide) ?_
                                                    refine lv_icmp_ge (tgt := 87) hx hb dX11_pass_70 (by decide) (fun hc => absurd hc (by decide)) (fun _ => ?_)
                                                    refine lv_aload_n hx hb dX11_pass_73 rfl (lv_at hl 2 rfl) ?_
                                                    refine nb_getr hA hx hb hT hK hown hW fl_X11_37 hF.1 (v := .ref (A 6)) rfl dX11_pass_74 ?_
                                                    refine lv_iload hx hb dX11_pass_77 (lv_at hl 0 rfl) ?_
                                                    refine lv_iconst (v := 0) hx hb dX11_pass_79 (by decide) ?_
                                                    obtain ⟨f439, hf439⟩ := hF.2.2.1
                                                    refine nb_iastr hA hx hb hK hW hS 0 hf439 rfl (inb_in (by decide)) dX11_pass_80 (fun H locs G438 hEG438 hcG438 hW hS => ?_)
                                                    replace hF := hF.teach hEG438 hcG438
                                                    refine lv_iinc (v := 3) (lv' := [(5, .int 3), (4, .int 21), (0, .ref (A 0)), (1, .int x1), (2, .int x2), (3, .int x3)]) hx hb dX11_pass_81 hl (k := 0) rfl (by decide) (by decide) rfl (fun ls hl => ?_)
                                                    refine lv_goto (tgt := 67) hx hb dX11_pass_84 (by decide) ?_
                                                    refine lv_iload hx hb dX11_pass_67 (lv_at hl 0 rfl) ?_
                                                    refine lv_iconst (v := 4) hx hb dX11_pass_69 (by decide) ?_
                                                    refine lv_icmp_ge (tgt := 87) hx hb dX11_pass_70 (by decide) (fun hc => absurd hc (by decide)) (fun _ => ?_)
                                                    refine lv_aload_n hx hb dX11_pass_73 rfl (lv_at hl 2 rfl) ?_
                                                    refine nb_getr hA hx hb hT hK hown hW fl_X11_37 hF.1 (v := .ref (A 6)) rfl dX11_pass_74 ?_
                                                    refine lv_iload hx hb dX11_pass_77 (lv_at hl 0 rfl) ?_
                                                    refine lv_iconst (v := 0) hx hb dX11_pass_79 (by decide) ?_
                                                    obtain ⟨f441, hf441⟩ := hF.2.2.1
                                                    refine nb_iastr hA hx hb hK hW hS 0 hf441 rfl (inb_in (by decide)) dX11_pass_80 (fun H locs G440 hEG440 hcG440 hW hS => ?_)
                                                    replace hF := hF.teach hEG440 hcG440
                                                    refine lv_iinc (v := 4) (lv' := [(5, .int 4), (4, .int 21), (0, .ref (A 0)), (1, .int x1), (2, .int x2), (3, .int x3)]) hx hb dX11_pass_81 hl (k := 0) rfl (by decide) (by decide) rfl (fun ls hl => ?_)
                                                    refine lv_goto (tgt := 67) hx hb dX11_pass_84 (by decide) ?_
                                                    refine lv_iload hx hb dX11_pass_67 (lv_at hl 0 rfl) ?_
                                                    refine lv_iconst (v := 4) hx hb dX11_pass_69 (by decide) ?_
                                                    refine lv_icmp_ge (tgt := 87) hx hb dX11_pass_70 (by decide) (fun _ => ?_) (fun hc => absurd (by decide) hc)
                                                    refine lv_aload_n hx hb dX11_pass_87 rfl (lv_at hl 2 rfl) ?_
                                                    refine lv_iconst (v := 0) hx hb dX11_pass_88 (by decide) ?_
                                                    obtain ⟨u442, eu442, h⟩ := nm_s h
                                                    refine nb_putr hA hx hb hT hK hown hW hS fl_X11_216 tyX11 tyX11_ok nmX11 hF.1 (v := .int 0) rfl rfl rfl (Nat.le_of_ble_eq_true rfl) dX11_pass_89 (fun H locs G443 hEG443 hcG443 hW hS => ?_)
                                                    replace hF := hF.put (M' := u442) hEG443 hcG443 (by rw [eu442]; rfl) (by rw [eu442]; rfl)
                                                    replace hw : fmO u442 = fmO M := by rw [eu442]; exact hw
                                                    refine lv_aload_n hx hb dX11_pass_92 rfl (lv_at hl 2 rfl) ?_
                                                    refine lv_dup hx hb dX11_pass_93 rfl ?_
                                                    refine nb_getr hA hx hb hT hK hown hW fl_X11_210 hF.1 (v := .int (u442 11 0 0)) rfl dX11_pass_94 ?_
                                                    refine lv_iconst (v := 1) hx hb dX11_pass_97 (by decide) ?_
                                                    refine lv_iadd hx hb dX11_pass_98 ?_
                                                    obtain ⟨u444, eu444, h⟩ := nm_s h
                                                    refine nb_putr hA hx hb hT hK hown hW hS fl_X11_210 tyX11 tyX11_ok nmX11 hF.1 (v := .int ((u442 11 0 0) + 1)) rfl rfl rfl (Nat.le_of_ble_eq_true rfl) dX11_pass_99 (fun H locs G445 hEG445 hcG445 hW hS => ?_)
                                                    replace hF := hF.put (M' := u444) hEG445 hcG445 (by rw [eu444]; rfl) (by rw [eu444]; rfl)
                                                    replace hw : fmO u444 = fmO M := by rw [eu444]; exact hw
                                                    refine lv_iinc (v := 22) (lv' := [(4, .int 22), (5, .int 4), (0, .ref (A 0)), (1, .int x1), (2, .int x2), (3, .int x3)]) hx hb dX11_pass_102 hl (k := 1) rfl (by decide) (by decide) rfl (fun ls hl => ?_)
                                                    refine lv_goto (tgt := 48) hx hb dX11_pass_105 (by decide) ?_
                                                    refine lv_iload hx hb dX11_pass_48 (lv_at hl 0 rfl) ?_
                                                    refine lv_iload_n hx hb dX11_pass_50 rfl (lv_at hl 3 rfl) ?_
                                                    refine lv_icmp_ge (tgt := 108) hx hb dX11_pass_51 (by decide) (fun c446 => ?_) (fun c446 => ?_)
                                                    · replace h := ite_t h c446
                                                      refine lv_aload_n hx hb dX11_pass_108 rfl (lv_at hl 2 rfl) ?_
                                                      refine nb_getr hA hx hb hT hK hown hW fl_X11_210 hF.1 (v := .int (u444 11 0 0)) rfl dX11_pass_109 ?_
                                                      refine W.widen (k := 60) (n := 240) (Nat.le_of_ble_eq_true rfl) (Nat.le_of_ble_eq_true rfl) ?_
                                                      exact fm_iw hx hb hr rfl hlocks hW (hF.w hw) hS dX11_pass_112 h
                                                    · replace h := ite_f h c446
                                                      refine lv_aload_n hx hb dX11_pass_54 rfl (lv_at hl 2 rfl) ?_
                                                      obtain ⟨_, h447, h⟩ := ob_s h
                                                      refine fm_cv (nb_runVr (As := []) (rest := []) hA hx hb hml hown hSW hS hW (m_X11_forget l z ad _ hA A u444 hF h447) mf_X11_forget lk_X11_233 hF.1 rfl rfl ⟨rfl, rfl⟩ ⟨Nat.le_of_ble_eq_true rfl, Nat.le_of_ble_eq_true rfl⟩ hl.1 (Nat.le_of_ble_eq_true rfl) dX11_pass_55 ⟨Nat.le_of_ble_eq_true rfl, Nat.le_of_ble_eq_true rfl⟩) hS (fun H locs G449 hEG449 hW hS => ?_)
                                                      replace hF := hF.ext0 hEG449
                                                      refine lv_aload_n hx hb dX11_pass_58 rfl (lv_at hl 2 rfl) ?_
                                                      refine lv_iload_n hx hb dX11_pass_59 rfl (lv_at hl 4 rfl) ?_
                                                      refine lv_iload_n hx hb dX11_pass_60 rfl (lv_at hl 5 rfl) ?_
                                                      obtain ⟨_, h450, h⟩ := ob_s h
                                                      refine fm_cv (nb_runVr (As := [.int x2, .int x3]) (rest := []) hA hx hb hml hown hSW hS hW (m_X11_weather l z ad _ hA A u444 hF x2 x3 h450) mf_X11_weather lk_X11_236 hF.1 rfl rfl ⟨rfl, rfl⟩ ⟨Nat.le_of_ble_eq_true rfl, Nat.le_of_ble_eq_true rfl⟩ hl.1 (Nat.le_of_ble_eq_true rfl) dX11_pass_61 ⟨Nat.le_of_ble_eq_true rfl, Nat.le_of_ble_eq_true rfl⟩) hS (fun H locs G452 hEG452 hW hS => ?_)
                                                      replace hF := hF.ext0 hEG452
                                                      refine lv_iconst (v := 0) hx hb dX11_pass_64 (by decide) ?_
                                                      refine lv_istore (lv' := [(5, .int 0), (4, .int 22), (0, .ref (A 0)), (1, .int x1), (2, .int x2), (3, .int x3)]) hx hb dX11_pass_65 hl (by decide) rfl (fun ls hl => ?_)
                                                      refine lv_iload hx hb dX11_pass_67 (lv_at hl 0 rfl) ?_
                                                      refine lv_iconst (v := 4) hx hb dX11_pass_69 (by decide) ?_
                                                      refine lv_icmp_ge (tgt := 87) hx hb dX11_pass_70 (by decide) (fun hc => absurd hc (by decide)) (fun _ => ?_)
                                                      refine lv_aload_n hx hb dX11_pass_73 rfl (lv_at hl 2 rfl) ?_
                                                      refine nb_getr hA hx hb hT hK hown hW fl_X11_37 hF.1 (v := .ref (A 6)) rfl dX11_pass_74 ?_
                                                      refine lv_iload hx hb dX11_pass_77 (lv_at hl 0 rfl) ?_
                                                      refine lv_iconst (v := 0) hx hb dX11_pass_79 (by decide) ?_
                                                      obtain ⟨f454, hf454⟩ := hF.2.2.1
                                                      refine nb_iastr hA hx hb hK hW hS 0 hf454 rfl (inb_in (by decide)) dX11_pass_80 (fun H locs G453 hEG453 hcG453 hW hS => ?_)
                                                      replace hF := hF.teach hEG453 hcG453
                                                      refine lv_iinc (v := 1) (lv' := [(5, .int 1), (4, .int 22), (0, .ref (A 0)), (1, .int x1), (2, .int x2), (3, .int x3)]) hx hb dX11_pass_81 hl (k := 0) rfl (by decide) (by decide) rfl (fun ls hl => ?_)
                                                      refine lv_goto (tgt := 67) hx hb dX11_pass_84 (by decide) ?_
                                                      refine lv_iload hx hb dX11_pass_67 (lv_at hl 0 rfl) ?_
                                                      refine lv_iconst (v := 4) hx hb dX11_pass_69 (by decide) ?_
                                                      refine lv_icmp_ge (tgt := 87) hx hb dX11_pass_70 (by decide) (fun hc => absurd hc (by decide)) (fun _ => ?_)
                                                      refine lv_aload_n hx hb dX11_pass_73 rfl (lv_at hl 2 rfl) ?_
                                                      refine nb_getr hA hx hb hT hK hown hW fl_X11_37 hF.1 (v := .ref (A 6)) rfl dX11_pass_74 ?_
                                                      refine lv_iload hx hb dX11_pass_77 (lv_at hl 0 rfl) ?_
                                                      refine lv_iconst (v := 0) hx hb dX11_pass_79 (by decide) ?_
                                                      obtain ⟨f456, hf456⟩ := hF.2.2.1
                                                      refine nb_iastr hA hx hb hK hW hS 0 hf456 rfl (inb_in (by decide)) dX11_pass_80 (fun H locs G455 hEG455 hcG455 hW hS => ?_)
                                                      replace hF := hF.teach hEG455 hcG455
                                                      refine lv_iinc (v := 2) (lv' := [(5, .int 2), (4, .int 22), (0, .ref (A 0)), (1, .int x1), (2, .int x2), (3, .int x3)]) hx hb dX11_pass_81 hl (k := 0) rfl (by decide) (by decide) rfl (fun ls hl => ?_)
                                                      refine lv_goto (tgt := 67) hx hb dX11_pass_84 (by decide) ?_
                                                      refine lv_iload hx hb dX11_pass_67 (lv_at hl 0 rfl) ?_
                                                      refine lv_iconst (v := 4) hx hb dX11_pass_69 (by decide) ?_
                                                      refine lv_icmp_ge (tgt := 87) hx hb dX11_pass_70 (by decide) (fun hc => absurd hc (by decide)) (fun _ => ?_)
                                                      refine lv_aload_n hx hb dX11_pass_73 rfl (lv_at hl 2 rfl) ?_
                                                      refine nb_getr hA hx hb hT hK hown hW fl_X11_37 hF.1 (v := .ref (A 6)) rfl dX11_pass_74 ?_
                                                      refine lv_iload hx hb dX11_pass_77 (lv_at hl 0 rfl) ?_
                                                      refine lv_iconst (v := 0) hx hb dX11_pass_79 (by decide) ?_
                                                      obtain ⟨f458, hf458⟩ := hF.2.2.1
                                                      refine nb_iastr hA hx hb hK hW hS 0 hf458 rfl (inb_in (by decide)) dX11_pass_80 (fun H locs G457 hEG457 hcG457 hW hS => ?_)
                                                      replace hF := hF.teach hEG457 hcG457
                                                      refine lv_iinc (v := 3) (lv' := [(5, .int 3), (4, .int 22), (0, .ref (A 0)), (1, .int x1), (2, .int x2), (3, .int x3)]) hx hb dX11_pass_81 hl (k := 0) rfl (by decide) (by decide) rfl (fun ls hl => ?_)
                                                      refine lv_goto (tgt := 67) hx hb dX11_pass_84 (by decide) ?_
                                                      refine lv_iload hx hb dX11_pass_67 (lv_at hl 0 rfl) ?_
                                                      refine lv_iconst (v := 4) hx hb dX11_pass_69 (by decide) ?_
                                                      refine lv_icmp_ge (tgt := 87) hx hb dX11_pass_70 (by decide) (fun hc => absurd hc (by decide)) (fun _ => ?_)
                                                      refine lv_aload_n hx hb dX11_pass_73 rfl (lv_at hl 2 rfl) ?_
                                                      refine nb_getr hA hx hb hT hK hown hW fl_X11_37 hF.1 (v := .ref (A 6)) rfl dX11_pass_74 ?_
                                                      refine lv_iload hx hb dX11_pass_77 (lv_at hl 0 rfl) ?_
                                                      refine lv_iconst (v := 0) hx hb dX11_pass_79 (by decide) ?_
                                                      obtain ⟨f460, hf460⟩ := hF.2.2.1
                                                      refine nb_iastr hA hx hb hK hW hS 0 hf460 rfl (inb_in (by decide)) dX11_pass_80 (fun H locs G459 hEG459 hcG459 hW hS => ?_)
                                                      replace hF := hF.teach hEG459 hcG459
                                                      refine lv_iinc (v := 4) (lv' := [(5, .int 4), (4, .int 22), (0, .ref (A 0)), (1, .int x1), (2, .int x2), (3, .int x3)]) hx hb dX11_pass_81 hl (k := 0) rfl (by decide) (by decide) rfl (fun ls hl => ?_)
                                                      refine lv_goto (tgt := 67) hx hb dX11_pass_84 (by decide) ?_
                                                      refine lv_iload hx hb dX11_pass_67 (lv_at hl 0 rfl) ?_
                                                      refine lv_iconst (v := 4) hx hb dX11_pass_69 (by decide) ?_
                                                      refine lv_icmp_ge (tgt := 87) hx hb dX11_pass_70 (by decide) (fun _ => ?_) (fun hc => absurd (by decide) hc)
                                                      refine lv_aload_n hx hb dX11_pass_87 rfl (lv_at hl 2 rfl) ?_
                                                      refine lv_iconst (v := 0) hx hb dX11_pass_88 (by decide) ?_
                                                      obtain ⟨u461, eu461, h⟩ := nm_s h
                                                      refine nb_putr hA hx hb hT hK hown hW hS fl_X11_216 tyX11 tyX11_ok nmX11 hF.1 (v := .int 0) rfl rfl rfl (Nat.le_of_ble_eq_true rfl) dX11_pass_89 (fun H locs G462 hEG462 hcG462 hW hS => ?_)
                                                      replace hF := hF.put (M' := u461) hEG462 hcG462 (by rw [eu461]; rfl) (by rw [eu461]; rfl)
                                                      replace hw : fmO u461 = fmO M := by rw [eu461]; exact hw
                                                      refine lv_aload_n hx hb dX11_pass_92 rfl (lv_at hl 2 rfl) ?_
                                                      refine lv_dup hx hb dX11_pass_93 rfl ?_
                                                      refine nb_getr hA hx hb hT hK hown hW fl_X11_210 hF.1 (v := .int (u461 11 0 0)) rfl dX11_pass_94 ?_
                                                      refine lv_iconst (v := 1) hx hb dX11_pass_97 (by decide) ?_
                                                      refine lv_iadd hx hb dX11_pass_98 ?_
                                                      obtain ⟨u463, eu463, h⟩ := nm_s h
                                                      refine nb_putr hA hx hb hT hK hown hW hS fl_X11_210 tyX11 tyX11_ok nmX11 hF.1 (v := .int ((u461 11 0 0) + 1)) rfl rfl rfl (Nat.le_of_ble_eq_true rfl) dX11_pass_99 (fun H locs G464 hEG464 hcG464 hW hS => ?_)
                                                      replace hF := hF.put (M' := u463) hEG464 hcG464 (by rw [eu463]; rfl) (by rw [eu463]; rfl)
                                                      replace hw : fmO u463 = fmO M := by rw [eu463]; exact hw
                                                      refine lv_iinc (v := 23) (lv' := [(4, .int 23), (5, .int 4), (0, .ref (A 0)), (1, .int x1), (2, .int x2), (3, .int x3)]) hx hb dX11_pass_102 hl (k := 1) rfl (by decide) (by decide) rfl (fun ls hl => ?_)
                                                      refine lv_goto (tgt := 48) hx hb dX11_pass_105 (by decide) ?_
                                                      refine lv_iload hx hb dX11_pass_48 (lv_at hl 0 rfl) ?_
                                                      refine lv_iload_n hx hb dX11_pass_50 rfl (lv_at hl 3 rfl) ?_
                                                      refine lv_icmp_ge (tgt := 108) hx hb dX11_pass_51 (by decide) (fun c465 => ?_) (fun c465 => ?_)
                                                      · replace h := ite_t h c465
                                                        refine lv_aload_n hx hb dX11_pass_108 rfl (lv_at hl 2 rfl) ?_
                                                        refine nb_getr hA hx hb hT hK hown hW fl_X11_210 hF.1 (v := .int (u463 11 0 0)) rfl dX11_pass_109 ?_
                                                        refine W.widen (k := 60) (n := 240) (Nat.le_of_ble_eq_true rfl) (Nat.le_of_ble_eq_true rfl) ?_
                                                        exact fm_iw hx hb hr rfl hlocks hW (hF.w hw) hS dX11_pass_112 h
                                                      · replace h := ite_f h c465
                                                        refine lv_aload_n hx hb dX11_pass_54 rfl (lv_at hl 2 rfl) ?_
                                                        obtain ⟨_, h466, h⟩ := ob_s h
                                                        refine fm_cv (nb_runVr (As := []) (rest := []) hA hx hb hml hown hSW hS hW (m_X11_forget l z ad _ hA A u463 hF h466) mf_X11_forget lk_X11_233 hF.1 rfl rfl ⟨rfl, rfl⟩ ⟨Nat.le_of_ble_eq_true rfl, Nat.le_of_ble_eq_true rfl⟩ hl.1 (Nat.le_of_ble_eq_true rfl) dX11_pass_55 ⟨Nat.le_of_ble_eq_true rfl, Nat.le_of_ble_eq_true rfl⟩) hS (fun H locs G468 hEG468 hW hS => ?_)
                                                        replace hF := hF.ext0 hEG468
                                                        refine lv_aload_n hx hb dX11_pass_58 rfl (lv_at hl 2 rfl) ?_
                                                        refine lv_iload_n hx hb dX11_pass_59 rfl (lv_at hl 4 rfl) ?_
                                                        refine lv_iload_n hx hb dX11_pass_60 rfl (lv_at hl 5 rfl) ?_
                                                        obtain ⟨_, h469, h⟩ := ob_s h
                                                        refine fm_cv (nb_runVr (As := [.int x2, .int x3]) (rest := []) hA hx hb hml hown hSW hS hW (m_X11_weather l z ad _ hA A u463 hF x2 x3 h469) mf_X11_weather lk_X11_236 hF.1 rfl rfl ⟨rfl, rfl⟩ ⟨Nat.le_of_ble_eq_true rfl, Nat.le_of_ble_eq_true rfl⟩ hl.1 (Nat.le_of_ble_eq_true rfl) dX11_pass_61 ⟨Nat.le_of_ble_eq_true rfl, Nat.le_of_ble_eq_true rfl⟩) hS (fun H locs G471 hEG471 hW hS => ?_)
                                                        replace hF := hF.ext0 hEG471
                                                        refine lv_iconst (v := 0) hx hb dX11_pass_64 (by decide) ?_
                                                        refine lv_istore (lv' := [(5, .int 0), (4, .int 23), (0, .ref (A 0)), (1, .int x1), (2, .int x2), (3, .int x3)]) hx hb dX11_pass_65 hl (by decide) rfl (fun ls hl => ?_)
                                                        refine lv_iload hx hb dX11_pass_67 (lv_at hl 0 rfl) ?_
                                                        refine lv_iconst (v := 4) hx hb dX11_pass_69 (by decide) ?_
                                                        refine lv_icmp_ge (tgt := 87) hx hb dX11_pass_70 (by decide) (fun hc => absurd hc (by decide)) (fun _ => ?_)
                                                        refine lv_aload_n hx hb dX11_pass_73 rfl (lv_at hl 2 rfl) ?_
                                                        refine nb_getr hA hx hb hT hK hown hW fl_X11_37 hF.1 (v := .ref (A 6)) rfl dX11_pass_74 ?_
                                                        refine lv_iload hx hb dX11_pass_77 (lv_at hl 0 rfl) ?_
                                                        refine lv_iconst (v := 0) hx hb dX11_pass_79 (by decide) ?_
                                                        obtain ⟨f473, hf473⟩ := hF.2.2.1
                                                        refine nb_iastr hA hx hb hK hW hS 0 hf473 rfl (inb_in (by decide)) dX11_pass_80 (fun H locs G472 hEG472 hcG472 hW hS => ?_)
                                                        replace hF := hF.teach hEG472 hcG472
                                                        refine lv_iinc (v := 1) (lv' := [(5, .int 1), (4, .int 23), (0, .ref (A 0)), (1, .int x1), (2, .int x2), (3, .int x3)]) hx hb dX11_pass_81 hl (k := 0) rfl (by decide) (by decide) rfl (fun ls hl => ?_)
                                                        refine lv_goto (tgt := 67) hx hb dX11_pass_84 (by decide) ?_
                                                        refine lv_iload hx hb dX11_pass_67 (lv_at hl 0 rfl) ?_
                                                        refine lv_iconst (v := 4) hx hb dX11_pass_69 (by decide) ?_
                                                        refine lv_icmp_ge (tgt := 87) hx hb dX11_pass_70 (by decide) (fun hc => absurd hc (by decide)) (fun _ => ?_)
                                                        refine lv_aload_n hx hb dX11_pass_73 rfl (lv_at hl 2 rfl) ?_
                                                        refine nb_getr hA hx hb hT hK hown hW fl_X11_37 hF.1 (v := .ref (A 6)) rfl dX11_pass_74 ?_
                                                        refine lv_iload hx hb dX11_pass_77 (lv_at hl 0 rfl) ?_
                                                        refine lv_iconst (v := 0) hx hb dX11_pass_79 (by decide) ?_
                                                        obtain ⟨f475, hf475⟩ := hF.2.2.1
                                                        refine nb_iastr hA hx hb hK hW hS 0 hf475 rfl (inb_in (by decide)) dX11_pass_80 (fun H locs G474 hEG474 hcG474 hW hS => ?_)
                                                        replace hF := hF.teach hEG474 hcG474
                                                        refine lv_iinc (v := 2) (lv' := [(5, .int 2), (4, .int 23), (0, .ref (A 0)), (1, .int x1), (2, .int x2), (3, .int x3)]) hx hb dX11_pass_81 hl (k := 0) rfl (by decide) (by decide) rfl (fun ls hl => ?_)
                                                        refine lv_goto (tgt := 67) hx hb dX11_pass_84 (by decide) ?_
                                                        refine lv_iload hx hb dX11_pass_67 (lv_at hl 0 rfl) ?_
                                                        refine lv_iconst (v := 4) hx hb dX11_pass_69 (by decide) ?_
                                                        refine lv_icmp_ge (tgt := 87) hx hb dX11_pass_70 (by decide) (fun hc => absurd hc (by decide)) (fun _ => ?_)
                                                        refine lv_aload_n hx hb dX11_pass_73 rfl (lv_at hl 2 rfl) ?_
                                                        refine nb_getr hA hx hb hT hK hown hW fl_X11_37 hF.1 (v := .ref (A 6)) rfl dX11_pass_74 ?_
                                                        refine lv_iload hx hb dX11_pass_77 (lv_at hl 0 rfl) ?_
                                                        refine lv_iconst (v := 0) hx hb dX11_pass_79 (by decide) ?_
                                                        obtain ⟨f477, hf477⟩ := hF.2.2.1
                                                        refine nb_iastr hA hx hb hK hW hS 0 hf477 rfl (inb_in (by decide)) dX11_pass_80 (fun H locs G476 hEG476 hcG476 hW hS => ?_)
                                                        replace hF := hF.teach hEG476 hcG476
                                                        refine lv_iinc (v := 3) (lv' := [(5, .int 3), (4, .int 23), (0, .ref (A 0)), (1, .int x1), (2, .int x2), (3, .int x3)]) hx hb dX11_pass_81 hl (k := 0) rfl (by decide) (by decide) rfl (fun ls hl => ?_)
                                                        refine lv_goto (tgt := 67) hx hb dX11_pass_84 (by decide) ?_
                                                        refine lv_iload hx hb dX11_pass_67 (lv_at hl 0 rfl) ?_
                                                        refine lv_iconst (v := 4) hx hb dX11_pass_69 (by decide) ?_
                                                        refine lv_icmp_ge (tgt := 87) hx hb dX11_pass_70 (by decide) (fun hc => absurd hc (by decide)) (fun _ => ?_)
                                                        refine lv_aload_n hx hb dX11_pass_73 rfl (lv_at hl 2 rfl) ?_
                                                        refine nb_getr hA hx hb hT hK hown hW fl_X11_37 hF.1 (v := .ref (A 6)) rfl dX11_pass_74 ?_
                                                        refine lv_iload hx hb dX11_pass_77 (lv_at hl 0 rfl) ?_
                                                        refine lv_iconst (v := 0) hx hb dX11_pass_79 (by decide) ?_
                                                        obtain ⟨f479, hf479⟩ := hF.2.2.1
                                                        refine nb_iastr hA hx hb hK hW hS 0 hf479 rfl (inb_in (by decide)) dX11_pass_80 (fun H locs G478 hEG478 hcG478 hW hS => ?_)
                                                        replace hF := hF.teach hEG478 hcG478
                                                        refine lv_iinc (v := 4) (lv' := [(5, .int 4), (4, .int 23), (0, .ref (A 0)), (1, .int x1), (2, .int x2), (3, .int x3)]) hx hb dX11_pass_81 hl (k := 0) rfl (by decide) (by decide) rfl (fun ls hl => ?_)
                                                        refine lv_goto (tgt := 67) hx hb dX11_pass_84 (by decide) ?_
                                                        refine lv_iload hx hb dX11_pass_67 (lv_at hl 0 rfl) ?_
                                                        refine lv_iconst (v := 4) hx hb dX11_pass_69 (by decide) ?_
                                                        refine lv_icmp_ge (tgt := 87) hx hb dX11_pass_70 (by decide) (fun _ => ?_) (fun hc => absurd (by decide) hc)
                                                        refine lv_aload_n hx hb dX11_pass_87 rfl (lv_at hl 2 rfl) ?_
                                                        refine lv_iconst (v := 0) hx hb dX11_pass_88 (by decide) ?_
                                                        obtain ⟨u480, eu480, h⟩ := nm_s h
                                                        refine nb_putr hA hx hb hT hK hown hW hS fl_X11_216 tyX11 tyX11_ok nmX11 hF.1 (v := .int 0) rfl rfl rfl (Nat.le_of_ble_eq_true rfl) dX11_pass_89 (fun H locs G481 hEG481 hcG481 hW hS => ?_)
                                                        replace hF := hF.put (M' := u480) hEG481 hcG481 (by rw [eu480]; rfl) (by rw [eu480]; rfl)
                                                        replace hw : fmO u480 = fmO M := by rw [eu480]; exact hw
                                                        refine lv_aload_n hx hb dX11_pass_92 rfl (lv_at hl 2 rfl) ?_
                                                        refine lv_dup hx hb dX11_pass_93 rfl ?_
                                                        refine nb_getr hA hx hb hT hK hown hW fl_X11_210 hF.1 (v := .int (u480 11 0 0)) rfl dX11_pass_94 ?_
                                                        refine lv_iconst (v := 1) hx hb dX11_pass_97 (by decide) ?_
                                                        refine lv_iadd hx hb dX11_pass_98 ?_
                                                        obtain ⟨u482, eu482, h⟩ := nm_s h
                                                        refine nb_putr hA hx hb hT hK hown hW hS fl_X11_210 tyX11 tyX11_ok nmX11 hF.1 (v := .int ((u480 11 0 0) + 1)) rfl rfl rfl (Nat.le_of_ble_eq_true rfl) dX11_pass_99 (fun H locs G483 hEG483 hcG483 hW hS => ?_)
                                                        replace hF := hF.put (M' := u482) hEG483 hcG483 (by rw [eu482]; rfl) (by rw [eu482]; rfl)
                                                        replace hw : fmO u482 = fmO M := by rw [eu482]; exact hw
                                                        refine lv_iinc (v := 24) (lv' := [(4, .int 24), (5, .int 4), (0, .ref (A 0)), (1, .int x1), (2, .int x2), (3, .int x3)]) hx hb dX11_pass_102 hl (k := 1) rfl (by decide) (by decide) rfl (fun ls hl => ?_)
                                                        refine lv_goto (tgt := 48) hx hb dX11_pass_105 (by decide) ?_
                                                        refine lv_iload hx hb dX11_pass_48 (lv_at hl 0 rfl) ?_
                                                        refine lv_iload_n hx hb dX11_pass_50 rfl (lv_at hl 3 rfl) ?_
                                                        refine lv_icmp_ge (tgt := 108) hx hb dX11_pass_51 (by decide) (fun c484 => ?_) (fun c484 => ?_)
                                                        · replace h := ite_t h c484
                                                          refine lv_aload_n hx hb dX11_pass_108 rfl (lv_at hl 2 rfl) ?_
                                                          refine nb_getr hA hx hb hT hK hown hW fl_X11_210 hF.1 (v := .int (u482 11 0 0)) rfl dX11_pass_109 ?_
                                                          refine W.widen (k := 60) (n := 240) (Nat.le_of_ble_eq_true rfl) (Nat.le_of_ble_eq_true rfl) ?_
                                                          exact fm_iw hx hb hr rfl hlocks hW (hF.w hw) hS dX11_pass_112 h
                                                        · replace h := ite_f h c484
                                                          refine lv_aload_n hx hb dX11_pass_54 rfl (lv_at hl 2 rfl) ?_
                                                          obtain ⟨_, h485, h⟩ := ob_s h
                                                          refine fm_cv (nb_runVr (As := []) (rest := []) hA hx hb hml hown hSW hS hW (m_X11_forget l z ad _ hA A u482 hF h485) mf_X11_forget lk_X11_233 hF.1 rfl rfl ⟨rfl, rfl⟩ ⟨Nat.le_of_ble_eq_true rfl, Nat.le_of_ble_eq_true rfl⟩ hl.1 (Nat.le_of_ble_eq_true rfl) dX11_pass_55 ⟨Nat.le_of_ble_eq_true rfl, Nat.le_of_ble_eq_true rfl⟩) hS (fun H locs G487 hEG487 hW hS => ?_)
                                                          replace hF := hF.ext0 hEG487
                                                          refine lv_aload_n hx hb dX11_pass_58 rfl (lv_at hl 2 rfl) ?_
                                                          refine lv_iload_n hx hb dX11_pass_59 rfl (lv_at hl 4 rfl) ?_
                                                          refine lv_iload_n hx hb dX11_pass_60 rfl (lv_at hl 5 rfl) ?_
                                                          obtain ⟨_, h488, h⟩ := ob_s h
                                                          refine fm_cv (nb_runVr (As := [.int x2, .int x3]) (rest := []) hA hx hb hml hown hSW hS hW (m_X11_weather l z ad _ hA A u482 hF x2 x3 h488) mf_X11_weather lk_X11_236 hF.1 rfl rfl ⟨rfl, rfl⟩ ⟨Nat.le_of_ble_eq_true rfl, Nat.le_of_ble_eq_true rfl⟩ hl.1 (Nat.le_of_ble_eq_true rfl) dX11_pass_61 ⟨Nat.le_of_ble_eq_true rfl, Nat.le_of_ble_eq_true rfl⟩) hS (fun H locs G490 hEG490 hW hS => ?_)
                                                          replace hF := hF.ext0 hEG490
                                                          refine lv_iconst (v := 0) hx hb dX11_pass_64 (by decide) ?_
                                                          refine lv_istore (lv' := [(5, .int 0), (4, .int 24), (0, .ref (A 0)), (1, .int x1), (2, .int x2), (3, .int x3)]) hx hb dX11_pass_65 hl (by decide) rfl (fun ls hl => ?_)
                                                          refine lv_iload hx hb dX11_pass_67 (lv_at hl 0 rfl) ?_
                                                          refine lv_iconst (v := 4) hx hb dX11_pass_69 (by decide) ?_
                                                          refine lv_icmp_ge (tgt := 87) hx hb dX11_pass_70 (by decide) (fun hc => absurd hc (by decide)) (fun _ => ?_)
                                                          refine lv_aload_n hx hb dX11_pass_73 rfl (lv_at hl 2 rfl) ?_
                                                          refine nb_getr hA hx hb hT hK hown hW fl_X11_37 hF.1 (v := .ref (A 6)) rfl dX11_pass_74 ?_
                                                          refine lv_iload hx hb dX11_pass_77 (lv_at hl 0 rfl) ?_
                                                          refine lv_iconst (v := 0) hx hb dX11_pass_79 (by decide) ?_
                                                          obtain ⟨f492, hf492⟩ := hF.2.2.1
                                                          refine nb_iastr hA hx hb hK hW hS 0 hf492 rfl (inb_in (by decide)) dX11_pass_80 (fun H locs G491 hEG491 hcG491 hW hS => ?_)
                                                          replace hF := hF.teach hEG491 hcG491
                                                          refine lv_iinc (v := 1) (lv' := [(5, .int 1), (4, .int 24), (0, .ref (A 0)), (1, .int x1), (2, .int x2), (3, .int x3)]) hx hb dX11_pass_81 hl (k := 0) rfl (by decide) (by decide) rfl (fun ls hl => ?_)
                                                          refine lv_goto (tgt := 67) hx hb dX11_pass_84 (by decide) ?_
                                                          refine lv_iload hx hb dX11_pass_67 (lv_at hl 0 rfl) ?_
                                                          refine lv_iconst (v := 4) hx hb dX11_pass_69 (by decide) ?_
                                                          refine lv_icmp_ge (tgt := 87) hx hb dX11_pass_70 (by decide) (fun hc => absurd hc (by decide)) (fun _ => ?_)
                                                          refine lv_aload_n hx hb dX11_pass_73 rfl (lv_at hl 2 rfl) ?_
                                                          refine nb_getr hA hx hb hT hK hown hW fl_X11_37 hF.1 (v := .ref (A 6)) rfl dX11_pass_74 ?_
                                                          refine lv_iload hx hb dX11_pass_77 (lv_at hl 0 rfl) ?_
                                                          refine lv_iconst (v := 0) hx hb dX11_pass_79 (by decide) ?_
                                                          obtain ⟨f494, hf494⟩ := hF.2.2.1
                                                          refine nb_iastr hA hx hb hK hW hS 0 hf494 rfl (inb_in (by decide)) dX11_pass_80 (fun H locs G493 hEG493 hcG493 hW hS => ?_)
                                                          replace hF := hF.teach hEG493 hcG493
                                                          refine lv_iinc (v := 2) (lv' := [(5, .int 2), (4, .int 24), (0, .ref (A 0)), (1, .int x1), (2, .int x2), (3, .int x3)]) hx hb dX11_pass_81 hl (k := 0) rfl (by decide) (by decide) rfl (fun ls hl => ?_)
                                                          refine lv_goto (tgt := 67) hx hb dX11_pass_84 (by decide) ?_
                                                          refine lv_iload hx hb dX11_pass_67 (lv_at hl 0 rfl) ?_
                                                          refine lv_iconst (v := 4) hx hb dX11_pass_69 (by decide) ?_
                                                          refine lv_icmp_ge (tgt := 87) hx hb dX11_pass_70 (by decide) (fun hc => absurd hc (by decide)) (fun _ => ?_)
                                                          refine lv_aload_n hx hb dX11_pass_73 rfl (lv_at hl 2 rfl) ?_
                                                          refine nb_getr hA hx hb hT hK hown hW fl_X11_37 hF.1 (v := .ref (A 6)) rfl dX11_pass_74 ?_
                                                          refine lv_iload hx hb dX11_pass_77 (lv_at hl 0 rfl) ?_
                                                          refine lv_iconst (v := 0) hx hb dX11_pass_79 (by decide) ?_
                                                          obtain ⟨f496, hf496⟩ := hF.2.2.1
                                                          refine nb_iastr hA hx hb hK hW hS 0 hf496 rfl (inb_in (by decide)) dX11_pass_80 (fun H locs G495 hEG495 hcG495 hW hS => ?_)
                                                          replace hF := hF.teach hEG495 hcG495
                                                          refine lv_iinc (v := 3) (lv' := [(5, .int 3), (4, .int 24), (0, .ref (A 0)), (1, .int x1), (2, .int x2), (3, .int x3)]) hx hb dX11_pass_81 hl (k := 0) rfl (by decide) (by decide) rfl (fun ls hl => ?_)
                                                          refine lv_goto (tgt := 67) hx hb dX11_pass_84 (by decide) ?_
                                                          refine lv_iload hx hb dX11_pass_67 (lv_at hl 0 rfl) ?_
                                                          refine lv_iconst (v := 4) hx hb dX11_pass_69 (by decide) ?_
                                                          refine lv_icmp_ge (tgt := 87) hx hb dX11_pass_70 (by decide) (fun hc => absurd hc (by decide)) (fun _ => ?_)
                                                          refine lv_aload_n hx hb dX11_pass_73 rfl (lv_at hl 2 rfl) ?_
                                                          refine nb_getr hA hx hb hT hK hown hW fl_X11_37 hF.1 (v := .ref (A 6)) rfl dX11_pass_74 ?_
                                                          refine lv_iload hx hb dX11_pass_77 (lv_at hl 0 rfl) ?_
                                                          refine lv_iconst (v := 0) hx hb dX11_pass_79 (by decide) ?_
                                                          obtain ⟨f498, hf498⟩ := hF.2.2.1
                                                          refine nb_iastr hA hx hb hK hW hS 0 hf498 rfl (inb_in (by decide)) dX11_pass_80 (fun H locs G497 hEG497 hcG497 hW hS => ?_)
                                                          replace hF := hF.teach hEG497 hcG497
                                                          refine lv_iinc (v := 4) (lv' := [(5, .int 4), (4, .int 24), (0, .ref (A 0)), (1, .int x1), (2, .int x2), (3, .int x3)]) hx hb dX11_pass_81 hl (k := 0) rfl (by decide) (by decide) rfl (fun ls hl => ?_)
                                                          refine lv_goto (tgt := 67) hx hb dX11_pass_84 (by decide) ?_
                                                          refine lv_iload hx hb dX11_pass_67 (lv_at hl 0 rfl) ?_
                                                          refine lv_iconst (v := 4) hx hb dX11_pass_69 (by decide) ?_
                                                          refine lv_icmp_ge (tgt := 87) hx hb dX11_pass_70 (by decide) (fun _ => ?_) (fun hc => absurd (by decide) hc)
                                                          refine lv_aload_n hx hb dX11_pass_87 rfl (lv_at hl 2 rfl) ?_
                                                          refine lv_iconst (v := 0) hx hb dX11_pass_88 (by decide) ?_
                                                          obtain ⟨u499, eu499, h⟩ := nm_s h
                                                          refine nb_putr hA hx hb hT hK hown hW hS fl_X11_216 tyX11 tyX11_ok nmX11 hF.1 (v := .int 0) rfl rfl rfl (Nat.le_of_ble_eq_true rfl) dX11_pass_89 (fun H locs G500 hEG500 hcG500 hW hS => ?_)
                                                          replace hF := hF.put (M' := u499) hEG500 hcG500 (by rw [eu499]; rfl) (by rw [eu499]; rfl)
                                                          replace hw : fmO u499 = fmO M := by rw [eu499]; exact hw
                                                          refine lv_aload_n hx hb dX11_pass_92 rfl (lv_at hl 2 rfl) ?_
                                                          refine lv_dup hx hb dX11_pass_93 rfl ?_
                                                          refine nb_getr hA hx hb hT hK hown hW fl_X11_210 hF.1 (v := .int (u499 11 0 0)) rfl dX11_pass_94 ?_
                                                          refine lv_iconst (v := 1) hx hb dX11_pass_97 (by decide) ?_
                                                          refine lv_iadd hx hb dX11_pass_98 ?_
                                                          obtain ⟨u501, eu501, h⟩ := nm_s h
                                                          refine nb_putr hA hx hb hT hK hown hW hS fl_X11_210 tyX11 tyX11_ok nmX11 hF.1 (v := .int ((u499 11 0 0) + 1)) rfl rfl rfl (Nat.le_of_ble_eq_true rfl) dX11_pass_99 (fun H locs G502 hEG502 hcG502 hW hS => ?_)
                                                          replace hF := hF.put (M' := u501) hEG502 hcG502 (by rw [eu501]; rfl) (by rw [eu501]; rfl)
                                                          replace hw : fmO u501 = fmO M := by rw [eu501]; exact hw
                                                          refine lv_iinc (v := 25) (lv' := [(4, .int 25), (5, .int 4), (0, .ref (A 0)), (1, .int x1), (2, .int x2), (3, .int x3)]) hx hb dX11_pass_102 hl (k := 1) rfl (by decide) (by decide) rfl (fun ls hl => ?_)
                                                          refine lv_goto (tgt := 48) hx hb dX11_pass_105 (by decide) ?_
                                                          refine lv_iload hx hb dX11_pass_48 (lv_at hl 0 rfl) ?_
                                                          refine lv_iload_n hx hb dX11_pass_50 rfl (lv_at hl 3 rfl) ?_
                                                          refine lv_icmp_ge (tgt := 108) hx hb dX11_pass_51 (by decide) (fun c503 => ?_) (fun c503 => ?_)
                                                          · replace h := ite_t h c503
                                                            refine lv_aload_n hx hb dX11_pass_108 rfl (lv_at hl 2 rfl) ?_
                                                            refine nb_getr hA hx hb hT hK hown hW fl_X11_210 hF.1 (v := .int (u501 11 0 0)) rfl dX11_pass_109 ?_
                                                            refine W.widen (k := 60) (n := 240) (Nat.le_of_ble_eq_true rfl) (Nat.le_of_ble_eq_true rfl) ?_
                                                            exact fm_iw hx hb hr rfl hlocks hW (hF.w hw) hS dX11_pass_112 h
                                                          · replace h := ite_f h c503
                                                            refine lv_aload_n hx hb dX11_pass_54 rfl (lv_at hl 2 rfl) ?_
                                                            obtain ⟨_, h504, h⟩ := ob_s h
                                                            refine fm_cv (nb_runVr (As := []) (rest := []) hA hx hb hml hown hSW hS hW (m_X11_forget l z ad _ hA A u501 hF h504) mf_X11_forget lk_X11_233 hF.1 rfl rfl ⟨rfl, rfl⟩ ⟨Nat.le_of_ble_eq_true rfl, Nat.le_of_ble_eq_true rfl⟩ hl.1 (Nat.le_of_ble_eq_true rfl) dX11_pass_55 ⟨Nat.le_of_ble_eq_true rfl, Nat.le_of_ble_eq_true rfl⟩) hS (fun H locs G506 hEG506 hW hS => ?_)
                                                            replace hF := hF.ext0 hEG506
                                                            refine lv_aload_n hx hb dX11_pass_58 rfl (lv_at hl 2 rfl) ?_
                                                            refine lv_iload_n hx hb dX11_pass_59 rfl (lv_at hl 4 rfl) ?_
                                                            refine lv_iload_n hx hb dX11_pass_60 rfl (lv_at hl 5 rfl) ?_
                                                            obtain ⟨_, h507, h⟩ := ob_s h
                                                            refine fm_cv (nb_runVr (As := [.int x2, .int x3]) (rest := []) hA hx hb hml hown hSW hS hW (m_X11_weather l z ad _ hA A u501 hF x2 x3 h507) mf_X11_weather lk_X11_236 hF.1 rfl rfl ⟨rfl, rfl⟩ ⟨Nat.le_of_ble_eq_true rfl, Nat.le_of_ble_eq_true rfl⟩ hl.1 (Nat.le_of_ble_eq_true rfl) dX11_pass_61 ⟨Nat.le_of_ble_eq_true rfl, Nat.le_of_ble_eq_true rfl⟩) hS (fun H locs G509 hEG509 hW hS => ?_)
                                                            replace hF := hF.ext0 hEG509
                                                            refine lv_iconst (v := 0) hx hb dX11_pass_64 (by decide) ?_
                                                            refine lv_istore (lv' := [(5, .int 0), (4, .int 25), (0, .ref (A 0)), (1, .int x1), (2, .int x2), (3, .int x3)]) hx hb dX11_pass_65 hl (by decide) rfl (fun ls hl => ?_)
                                                            refine lv_iload hx hb dX11_pass_67 (lv_at hl 0 rfl) ?_
                                                            refine lv_iconst (v := 4) hx hb dX11_pass_69 (by decide) ?_
                                                            refine lv_icmp_ge (tgt := 87) hx hb dX11_pass_70 (by decide) (fun hc => absurd hc (by decide)) (fun _ => ?_)
                                                            refine lv_aload_n hx hb dX11_pass_73 rfl (lv_at hl 2 rfl) ?_
                                                            refine nb_getr hA hx hb hT hK hown hW fl_X11_37 hF.1 (v := .ref (A 6)) rfl dX11_pass_74 ?_
                                                            refine lv_iload hx hb dX11_pass_77 (lv_at hl 0 rfl) ?_
                                                            refine lv_iconst (v := 0) hx hb dX11_pass_79 (by decide) ?_
                                                            obtain ⟨f511, hf511⟩ := hF.2.2.1
                                                            refine nb_iastr hA hx hb hK hW hS 0 hf511 rfl (inb_in (by decide)) dX11_pass_80 (fun H locs G510 hEG510 hcG510 hW hS => ?_)
                                                            replace hF := hF.teach hEG510 hcG510
                                                            refine lv_iinc (v := 1) (lv' := [(5, .int 1), (4, .int 25), (0, .ref (A 0)), (1, .int x1), (2, .int x2), (3, .int x3)]) hx hb dX11_pass_81 hl (k := 0) rfl (by decide) (by decide) rfl (fun ls hl => ?_)
                                                            refine lv_goto (tgt := 67) hx hb dX11_pass_84 (by decide) ?_
                                                            refine lv_iload hx hb dX11_pass_67 (lv_at hl 0 rfl) ?_
                                                            refine lv_iconst (v := 4) hx hb dX11_pass_69 (by decide) ?_
                                                            refine lv_icmp_ge (tgt := 87) hx hb dX11_pass_70 (by decide) (fun hc => absurd hc (by decide)) (fun _ => ?_)
                                                            refine lv_aload_n hx hb dX11_pass_73 rfl (lv_at hl 2 rfl) ?_
                                                            refine nb_getr hA hx hb hT hK hown hW fl_X11_37 hF.1 (v := .ref (A 6)) rfl dX11_pass_74 ?_
                                                            refine lv_iload hx hb dX11_pass_77 (lv_at hl 0 rfl) ?_
                                                            refine lv_iconst (v := 0) hx hb dX11_pass_79 (by decide) ?_
                                                            obtain ⟨f513, hf513⟩ := hF.2.2.1
                                                            refine nb_iastr hA hx hb hK hW hS 0 hf513 rfl (inb_in (by decide)) dX11_pass_80 (fun H locs G512 hEG512 hcG512 hW hS => ?_)
                                                            replace hF := hF.teach hEG512 hcG512
                                                            refine lv_iinc (v := 2) (lv' := [(5, .int 2), (4, .int 25), (0, .ref (A 0)), (1, .int x1), (2, .int x2), (3, .int x3)]) hx hb dX11_pass_81 hl (k := 0) rfl (by decide) (by decide) rfl (fun ls hl => ?_)
                                                            refine lv_goto (tgt := 67) hx hb dX11_pass_84 (by decide) ?_
                                                            refine lv_iload hx hb dX11_pass_67 (lv_at hl 0 rfl) ?_
                                                            refine lv_iconst (v := 4) hx hb dX11_pass_69 (by decide) ?_
                                                            refine lv_icmp_ge (tgt := 87) hx hb dX11_pass_70 (by decide) (fun hc => absurd hc (by decide)) (fun _ => ?_)
                                                            refine lv_aload_n hx hb dX11_pass_73 rfl (lv_at hl 2 rfl) ?_
                                                            refine nb_getr hA hx hb hT hK hown hW fl_X11_37 hF.1 (v := .ref (A 6)) rfl dX11_pass_74 ?_
                                                            refine lv_iload hx hb dX11_pass_77 (lv_at hl 0 rfl) ?_
                                                            refine lv_iconst (v := 0) hx hb dX11_pass_79 (by decide) ?_
                                                            obtain ⟨f515, hf515⟩ := hF.2.2.1
                                                            refine nb_iastr hA hx hb hK hW hS 0 hf515 rfl (inb_in (by decide)) dX11_pass_80 (fun H locs G514 hEG514 hcG514 hW hS => ?_)
                                                            replace hF := hF.teach hEG514 hcG514
                                                            refine lv_iinc (v := 3) (lv' := [(5, .int 3), (4, .int 25), (0, .ref (A 0)), (1, .int x1), (2, .int x2), (3, .int x3)]) hx hb dX11_pass_81 hl (k := 0) rfl (by decide) (by decide) rfl (fun ls hl => ?_)
                                                            refine lv_goto (tgt := 67) hx hb dX11_pass_84 (by decide) ?_
                                                            refine lv_iload hx hb dX11_pass_67 (lv_at hl 0 rfl) ?_
                                                            refine lv_iconst (v := 4) hx hb dX11_pass_69 (by decide) ?_
                                                            refine lv_icmp_ge (tgt := 87) hx hb dX11_pass_70 (by decide) (fun hc => absurd hc (by decide)) (fun _ => ?_)
                                                            refine lv_aload_n hx hb dX11_pass_73 rfl (lv_at hl 2 rfl) ?_
                                                            refine nb_getr hA hx hb hT hK hown hW fl_X11_37 hF.1 (v := .ref (A 6)) rfl dX11_pass_74 ?_
                                                            refine lv_iload hx hb dX11_pass_77 (lv_at hl 0 rfl) ?_
                                                            refine lv_iconst (v := 0) hx hb dX11_pass_79 (by decide) ?_
                                                            obtain ⟨f517, hf517⟩ := hF.2.2.1
                                                            refine nb_iastr hA hx hb hK hW hS 0 hf517 rfl (inb_in (by decide)) dX11_pass_80 (fun H locs G516 hEG516 hcG516 hW hS => ?_)
                                                            replace hF := hF.teach hEG516 hcG516
                                                            refine lv_iinc (v := 4) (lv' := [(5, .int 4), (4, .int 25), (0, .ref (A 0)), (1, .int x1), (2, .int x2), (3, .int x3)]) hx hb dX11_pass_81 hl (k := 0) rfl (by decide) (by decide) rfl (fun ls hl => ?_)
                                                            refine lv_goto (tgt := 67) hx hb dX11_pass_84 (by decide) ?_
                                                            refine lv_iload hx hb dX11_pass_67 (lv_at hl 0 rfl) ?_
                                                            refine lv_iconst (v := 4) hx hb dX11_pass_69 (by decide) ?_
                                                            refine lv_icmp_ge (tgt := 87) hx hb dX11_pass_70 (by decide) (fun _ => ?_) (fun hc => absurd (by decide) hc)
                                                            refine lv_aload_n hx hb dX11_pass_87 rfl (lv_at hl 2 rfl) ?_
                                                            refine lv_iconst (v := 0) hx hb dX11_pass_88 (by decide) ?_
                                                            obtain ⟨u518, eu518, h⟩ := nm_s h
                                                            refine nb_putr hA hx hb hT hK hown hW hS fl_X11_216 tyX11 tyX11_ok nmX11 hF.1 (v := .int 0) rfl rfl rfl (Nat.le_of_ble_eq_true rfl) dX11_pass_89 (fun H locs G519 hEG519 hcG519 hW hS => ?_)
                                                            replace hF := hF.put (M' := u518) hEG519 hcG519 (by rw [eu518]; rfl) (by rw [eu518]; rfl)
                                                            replace hw : fmO u518 = fmO M := by rw [eu518]; exact hw
                                                            refine lv_aload_n hx hb dX11_pass_92 rfl (lv_at hl 2 rfl) ?_
                                                            refine lv_dup hx hb dX11_pass_93 rfl ?_
                                                            refine nb_getr hA hx hb hT hK hown hW fl_X11_210 hF.1 (v := .int (u518 11 0 0)) rfl dX11_pass_94 ?_
                                                            refine lv_iconst (v := 1) hx hb dX11_pass_97 (by decide) ?_
                                                            refine lv_iadd hx hb dX11_pass_98 ?_
                                                            obtain ⟨u520, eu520, h⟩ := nm_s h
                                                            refine nb_putr hA hx hb hT hK hown hW hS fl_X11_210 tyX11 tyX11_ok nmX11 hF.1 (v := .int ((u518 11 0 0) + 1)) rfl rfl rfl (Nat.le_of_ble_eq_true rfl) dX11_pass_99 (fun H locs G521 hEG521 hcG521 hW hS => ?_)
                                                            replace hF := hF.put (M' := u520) hEG521 hcG521 (by rw [eu520]; rfl) (by rw [eu520]; rfl)
                                                            replace hw : fmO u520 = fmO M := by rw [eu520]; exact hw
                                                            refine lv_iinc (v := 26) (lv' := [(4, .int 26), (5, .int 4), (0, .ref (A 0)), (1, .int x1), (2, .int x2), (3, .int x3)]) hx hb dX11_pass_102 hl (k := 1) rfl (by decide) (by decide) rfl (fun ls hl => ?_)
                                                            refine lv_goto (tgt := 48) hx hb dX11_pass_105 (by decide) ?_
                                                            refine lv_iload hx hb dX11_pass_48 (lv_at hl 0 rfl) ?_
                                                            refine lv_iload_n hx hb dX11_pass_50 rfl (lv_at hl 3 rfl) ?_
                                                            refine lv_icmp_ge (tgt := 108) hx hb dX11_pass_51 (by decide) (fun c522 => ?_) (fun c522 => ?_)
                                                            · replace h := ite_t h c522
                                                              refine lv_aload_n hx hb dX11_pass_108 rfl (lv_at hl 2 rfl) ?_
                                                              refine nb_getr hA hx hb hT hK hown hW fl_X11_210 hF.1 (v := .int (u520 11 0 0)) rfl dX11_pass_109 ?_
                                                              refine W.widen (k := 60) (n := 240) (Nat.le_of_ble_eq_true rfl) (Nat.le_of_ble_eq_true rfl) ?_
                                                              exact fm_iw hx hb hr rfl hlocks hW (hF.w hw) hS dX11_pass_112 h
                                                            · replace h := ite_f h c522
                                                              refine lv_aload_n hx hb dX11_pass_54 rfl (lv_at hl 2 rfl) ?_
                                                              obtain ⟨_, h523, h⟩ := ob_s h
                                                              refine fm_cv (nb_runVr (As := []) (rest := []) hA hx hb hml hown hSW hS hW (m_X11_forget l z ad _ hA A u520 hF h523) mf_X11_forget lk_X11_233 hF.1 rfl rfl ⟨rfl, rfl⟩ ⟨Nat.le_of_ble_eq_true rfl, Nat.le_of_ble_eq_true rfl⟩ hl.1 (Nat.le_of_ble_eq_true rfl) dX11_pass_55 ⟨Nat.le_of_ble_eq_true rfl, Nat.le_of_ble_eq_true rfl⟩) hS (fun H locs G525 hEG525 hW hS => ?_)
                                                              replace hF := hF.ext0 hEG525
                                                              refine lv_aload_n hx hb dX11_pass_58 rfl (lv_at hl 2 rfl) ?_
                                                              refine lv_iload_n hx hb dX11_pass_59 rfl (lv_at hl 4 rfl) ?_
                                                              refine lv_iload_n hx hb dX11_pass_60 rfl (lv_at hl 5 rfl) ?_
                                                              obtain ⟨_, h526, h⟩ := ob_s h
                                                              refine fm_cv (nb_runVr (As := [.int x2, .int x3]) (rest := []) hA hx hb hml hown hSW hS hW (m_X11_weather l z ad _ hA A u520 hF x2 x3 h526) mf_X11_weather lk_X11_236 hF.1 rfl rfl ⟨rfl, rfl⟩ ⟨Nat.le_of_ble_eq_true rfl, Nat.le_of_ble_eq_true rfl⟩ hl.1 (Nat.le_of_ble_eq_true rfl) dX11_pass_61 ⟨Nat.le_of_ble_eq_true rfl, Nat.le_of_ble_eq_true rfl⟩) hS (fun H locs G528 hEG528 hW hS => ?_)
                                                              replace hF := hF.ext0 hEG528
                                                              refine lv_iconst (v := 0) hx hb dX11_pass_64 (by decide) ?_
                                                              refine lv_istore (lv' := [(5, .int 0), (4, .int 26), (0, .ref (A 0)), (1, .int x1), (2, .int x2), (3, .int x3)]) hx hb dX11_pass_65 hl (by decide) rfl (fun ls hl => ?_)
                                                              refine lv_iload hx hb dX11_pass_67 (lv_at hl 0 rfl) ?_
                                                              refine lv_iconst (v := 4) hx hb dX11_pass_69 (by decide) ?_
                                                              refine lv_icmp_ge (tgt := 87) hx hb dX11_pass_70 (by decide) (fun hc => absurd hc (by decide)) (fun _ => ?_)
                                                              refine lv_aload_n hx hb dX11_pass_73 rfl (lv_at hl 2 rfl) ?_
                                                              refine nb_getr hA hx hb hT hK hown hW fl_X11_37 hF.1 (v := .ref (A 6)) rfl dX11_pass_74 ?_
                                                              refine lv_iload hx hb dX11_pass_77 (lv_at hl 0 rfl) ?_
                                                              refine lv_iconst (v := 0) hx hb dX11_pass_79 (by decide) ?_
                                                              obtain ⟨f530, hf530⟩ := hF.2.2.1
                                                              refine nb_iastr hA hx hb hK hW hS 0 hf530 rfl (inb_in (by decide)) dX11_pass_80 (fun H locs G529 hEG529 hcG529 hW hS => ?_)
                                                              replace hF := hF.teach hEG529 hcG529
                                                              refine lv_iinc (v := 1) (lv' := [(5, .int 1), (4, .int 26), (0, .ref (A 0)), (1, .int x1), (2, .int x2), (3, .int x3)]) hx hb dX11_pass_81 hl (k := 0) rfl (by decide) (by decide) rfl (fun ls hl => ?_)
                                                              refine lv_goto (tgt := 67) hx hb dX11_pass_84 (by decide) ?_
                                                              refine lv_iload hx hb dX11_pass_67 (lv_at hl 0 rfl) ?_
                                                              refine lv_iconst (v := 4) hx hb dX11_pass_69 (by decide) ?_
                                                              refine lv_icmp_ge (tgt := 87) hx hb dX11_pass_70 (by decide) (fun hc => absurd hc (by decide)) (fun _ => ?_)
                                                              refine lv_aload_n hx hb dX11_pass_73 rfl (lv_at hl 2 rfl) ?_
                                                              refine nb_getr hA hx hb hT hK hown hW fl_X11_37 hF.1 (v := .ref (A 6)) rfl dX11_pass_74 ?_
                                                              refine lv_iload hx hb dX11_pass_77 (lv_at hl 0 rfl) ?_
                                                              refine lv_iconst (v := 0) hx hb dX11_pass_79 (by decide) ?_
                                                              obtain ⟨f532, hf532⟩ := hF.2.2.1
                                                              refine nb_iastr hA hx hb hK hW hS 0 hf532 rfl (inb_in (by decide)) dX11_pass_80 (fun H locs G531 hEG531 hcG531 hW hS => ?_)
                                                              replace hF := hF.teach hEG531 hcG531
                                                              refine lv_iinc (v := 2) (lv' := [(5, .int 2), (4, .int 26), (0, .ref (A 0)), (1, .int x1), (2, .int x2), (3, .int x3)]) hx hb dX11_pass_81 hl (k := 0) rfl (by decide) (by decide) rfl (fun ls hl => ?_)
                                                              refine lv_goto (tgt := 67) hx hb dX11_pass_84 (by decide) ?_
                                                              refine lv_iload hx hb dX11_pass_67 (lv_at hl 0 rfl) ?_
                                                              refine lv_iconst (v := 4) hx hb dX11_pass_69 (by decide) ?_
                                                              refine lv_icmp_ge (tgt := 87) hx hb dX11_pass_70 (by decide) (fun hc => absurd hc (by decide)) (fun _ => ?_)
                                                              refine lv_aload_n hx hb dX11_pass_73 rfl (lv_at hl 2 rfl) ?_
                                                              refine nb_getr hA hx hb hT hK hown hW fl_X11_37 hF.1 (v := .ref (A 6)) rfl dX11_pass_74 ?_
                                                              refine lv_iload hx hb dX11_pass_77 (lv_at hl 0 rfl) ?_
                                                              refine lv_iconst (v := 0) hx hb dX11_pass_79 (by decide) ?_
                                                              obtain ⟨f534, hf534⟩ := hF.2.2.1
                                                              refine nb_iastr hA hx hb hK hW hS 0 hf534 rfl (inb_in (by decide)) dX11_pass_80 (fun H locs G533 hEG533 hcG533 hW hS => ?_)
                                                              replace hF := hF.teach hEG533 hcG533
                                                              refine lv_iinc (v := 3) (lv' := [(5, .int 3), (4, .int 26), (0, .ref (A 0)), (1, .int x1), (2, .int x2), (3, .int x3)]) hx hb dX11_pass_81 hl (k := 0) rfl (by decide) (by decide) rfl (fun ls hl => ?_)
                                                              refine lv_goto (tgt := 67) hx hb dX11_pass_84 (by decide) ?_
                                                              refine lv_iload hx hb dX11_pass_67 (lv_at hl 0 rfl) ?_
                                                              refine lv_iconst (v := 4) hx hb dX11_pass_69 (by decide) ?_
                                                              refine lv_icmp_ge (tgt := 87) hx hb dX11_pass_70 (by decide) (fun hc => absurd hc (by decide)) (fun _ => ?_)
                                                              refine lv_aload_n hx hb dX11_pass_73 rfl (lv_at hl 2 rfl) ?_
                                                              refine nb_getr hA hx hb hT hK hown hW fl_X11_37 hF.1 (v := .ref (A 6)) rfl dX11_pass_74 ?_
                                                              refine lv_iload hx hb dX11_pass_77 (lv_at hl 0 rfl) ?_
                                                              refine lv_iconst (v := 0) hx hb dX11_pass_79 (by decide) ?_
                                                              obtain ⟨f536, hf536⟩ := hF.2.2.1
                                                              refine nb_iastr hA hx hb hK hW hS 0 hf536 rfl (inb_in (by decide)) dX11_pass_80 (fun H locs G535 hEG535 hcG535 hW hS => ?_)
                                                              replace hF := hF.teach hEG535 hcG535
                                                              refine lv_iinc (v := 4) (lv' := [(5, .int 4), (4, .int 26), (0, .ref (A 0)), (1, .int x1), (2, .int x2), (3, .int x3)]) hx hb dX11_pass_81 hl (k := 0) rfl (by decide) (by decide) rfl (fun ls hl => ?_)
                                                              refine lv_goto (tgt := 67) hx hb dX11_pass_84 (by decide) ?_
                                                              refine lv_iload hx hb dX11_pass_67 (lv_at hl 0 rfl) ?_
                                                              refine lv_iconst (v := 4) hx hb dX11_pass_69 (by decide) ?_
                                                              refine lv_icmp_ge (tgt := 87) hx hb dX11_pass_70 (by decide) (fun _ => ?_) (fun hc => absurd (by decide) hc)
                                                              refine lv_aload_n hx hb dX11_pass_87 rfl (lv_at hl 2 rfl) ?_
                                                              refine lv_iconst (v := 0) hx hb dX11_pass_88 (by decide) ?_
                                                              obtain ⟨u537, eu537, h⟩ := nm_s h
                                                              refine nb_putr hA hx hb hT hK hown hW hS fl_X11_216 tyX11 tyX11_ok nmX11 hF.1 (v := .int 0) rfl rfl rfl (Nat.le_of_ble_eq_true rfl) dX11_pass_89 (fun H locs G538 hEG538 hcG538 hW hS => ?_)
                                                              replace hF := hF.put (M' := u537) hEG538 hcG538 (by rw [eu537]; rfl) (by rw [eu537]; rfl)
                                                              replace hw : fmO u537 = fmO M := by rw [eu537]; exact hw
                                                              refine lv_aload_n hx hb dX11_pass_92 rfl (lv_at hl 2 rfl) ?_
                                                              refine lv_dup hx hb dX11_pass_93 rfl ?_
                                                              refine nb_getr hA hx hb hT hK hown hW fl_X11_210 hF.1 (v := .int (u537 11 0 0)) rfl dX11_pass_94 ?_
                                                              refine lv_iconst (v := 1) hx hb dX11_pass_97 (by decide) ?_
                                                              refine lv_iadd hx hb dX11_pass_98 ?_
                                                              obtain ⟨u539, eu539, h⟩ := nm_s h
                                                              refine nb_putr hA hx hb hT hK hown hW hS fl_X11_210 tyX11 tyX11_ok nmX11 hF.1 (v := .int ((u537 11 0 0) + 1)) rfl rfl rfl (Nat.le_of_ble_eq_true rfl) dX11_pass_99 (fun H locs G540 hEG540 hcG540 hW hS => ?_)
                                                              replace hF := hF.put (M' := u539) hEG540 hcG540 (by rw [eu539]; rfl) (by rw [eu539]; rfl)
                                                              replace hw : fmO u539 = fmO M := by rw [eu539]; exact hw
                                                              refine lv_iinc (v := 27) (lv' := [(4, .int 27), (5, .int 4), (0, .ref (A 0)), (1, .int x1), (2, .int x2), (3, .int x3)]) hx hb dX11_pass_102 hl (k := 1) rfl (by decide) (by decide) rfl (fun ls hl => ?_)
                                                              refine lv_goto (tgt := 48) hx hb dX11_pass_105 (by decide) ?_
                                                              refine lv_iload hx hb dX11_pass_48 (lv_at hl 0 rfl) ?_
                                                              refine lv_iload_n hx hb dX11_pass_50 rfl (lv_at hl 3 rfl) ?_
                                                              refine lv_icmp_ge (tgt := 108) hx hb dX11_pass_51 (by decide) (fun c541 => ?_) (fun c541 => ?_)
                                                              · replace h := ite_t h c541
                                                                refine lv_aload_n hx hb dX11_pass_108 rfl (lv_at hl 2 rfl) ?_
                                                                refine nb_getr hA hx hb hT hK hown hW fl_X11_210 hF.1 (v := .int (u539 11 0 0)) rfl dX11_pass_109 ?_
                                                                refine W.widen (k := 60) (n := 240) (Nat.le_of_ble_eq_true rfl) (Nat.le_of_ble_eq_true rfl) ?_
                                                                exact fm_iw hx hb hr rfl hlocks hW (hF.w hw) hS dX11_pass_112 h
                                                              · replace h := ite_f h c541
                                                                refine lv_aload_n hx hb dX11_pass_54 rfl (lv_at hl 2 rfl) ?_
                                                                obtain ⟨_, h542, h⟩ := ob_s h
                                                                refine fm_cv (nb_runVr (As := []) (rest := []) hA hx hb hml hown hSW hS hW (m_X11_forget l z ad _ hA A u539 hF h542) mf_X11_forget lk_X11_233 hF.1 rfl rfl ⟨rfl, rfl⟩ ⟨Nat.le_of_ble_eq_true rfl, Nat.le_of_ble_eq_true rfl⟩ hl.1 (Nat.le_of_ble_eq_true rfl) dX11_pass_55 ⟨Nat.le_of_ble_eq_true rfl, Nat.le_of_ble_eq_true rfl⟩) hS (fun H locs G544 hEG544 hW hS => ?_)
                                                                replace hF := hF.ext0 hEG544
                                                                refine lv_aload_n hx hb dX11_pass_58 rfl (lv_at hl 2 rfl) ?_
                                                                refine lv_iload_n hx hb dX11_pass_59 rfl (lv_at hl 4 rfl) ?_
                                                                refine lv_iload_n hx hb dX11_pass_60 rfl (lv_at hl 5 rfl) ?_
                                                                obtain ⟨_, h545, h⟩ := ob_s h
                                                                refine fm_cv (nb_runVr (As := [.int x2, .int x3]) (rest := []) hA hx hb hml hown hSW hS hW (m_X11_weather l z ad _ hA A u539 hF x2 x3 h545) mf_X11_weather lk_X11_236 hF.1 rfl rfl ⟨rfl, rfl⟩ ⟨Nat.le_of_ble_eq_true rfl, Nat.le_of_ble_eq_true rfl⟩ hl.1 (Nat.le_of_ble_eq_true rfl) dX11_pass_61 ⟨Nat.le_of_ble_eq_true rfl, Nat.le_of_ble_eq_true rfl⟩) hS (fun H locs G547 hEG547 hW hS => ?_)
                                                                replace hF := hF.ext0 hEG547
                                                                refine lv_iconst (v := 0) hx hb dX11_pass_64 (by decide) ?_
                                                                refine lv_istore (lv' := [(5, .int 0), (4, .int 27), (0, .ref (A 0)), (1, .int x1), (2, .int x2), (3, .int x3)]) hx hb dX11_pass_65 hl (by decide) rfl (fun ls hl => ?_)
                                                                refine lv_iload hx hb dX11_pass_67 (lv_at hl 0 rfl) ?_
                                                                refine lv_iconst (v := 4) hx hb dX11_pass_69 (by decide) ?_
                                                                refine lv_icmp_ge (tgt := 87) hx hb dX11_pass_70 (by decide) (fun hc => absurd hc (by decide)) (fun _ => ?_)
                                                                refine lv_aload_n hx hb dX11_pass_73 rfl (lv_at hl 2 rfl) ?_
                                                                refine nb_getr hA hx hb hT hK hown hW fl_X11_37 hF.1 (v := .ref (A 6)) rfl dX11_pass_74 ?_
                                                                refine lv_iload hx hb dX11_pass_77 (lv_at hl 0 rfl) ?_
                                                                refine lv_iconst (v := 0) hx hb dX11_pass_79 (by decide) ?_
                                                                obtain ⟨f549, hf549⟩ := hF.2.2.1
                                                                refine nb_iastr hA hx hb hK hW hS 0 hf549 rfl (inb_in (by decide)) dX11_pass_80 (fun H locs G548 hEG548 hcG548 hW hS => ?_)
                                                                replace hF := hF.teach hEG548 hcG548
                                                                refine lv_iinc (v := 1) (lv' := [(5, .int 1), (4, .int 27), (0, .ref (A 0)), (1, .int x1), (2, .int x2), (3, .int x3)]) hx hb dX11_pass_81 hl (k := 0) rfl (by decide) (by decide) rfl (fun ls hl => ?_)
                                                                refine lv_goto (tgt := 67) hx hb dX11_pass_84 (by decide) ?_
                                                                refine lv_iload hx hb dX11_pass_67 (lv_at hl 0 rfl) ?_
                                                                refine lv_iconst (v := 4) hx hb dX11_pass_69 (by decide) ?_
                                                                refine lv_icmp_ge (tgt := 87) hx hb dX11_pass_70 (by decide) (fun hc => absurd hc (by decide)) (fun _ => ?_)
                                                                refine lv_aload_n hx hb dX11_pass_73 rfl (lv_at hl 2 rfl) ?_
                                                                refine nb_getr hA hx hb hT hK hown hW fl_X11_37 hF.1 (v := .ref (A 6)) rfl dX11_pass_74 ?_
                                                                refine lv_iload hx hb dX11_pass_77 (lv_at hl 0 rfl) ?_
                                                                refine lv_iconst (v := 0) hx hb dX11_pass_79 (by decide) ?_
                                                                obtain ⟨f551, hf551⟩ := hF.2.2.1
                                                                refine nb_iastr hA hx hb hK hW hS 0 hf551 rfl (inb_in (by decide)) dX11_pass_80 (fun H locs G550 hEG550 hcG550 hW hS => ?_)
                                                                replace hF := hF.teach hEG550 hcG550
                                                                refine lv_iinc (v := 2) (lv' := [(5, .int 2), (4, .int 27), (0, .ref (A 0)), (1, .int x1), (2, .int x2), (3, .int x3)]) hx hb dX11_pass_81 hl (k := 0) rfl (by decide) (by decide) rfl (fun ls hl => ?_)
                                                                refine lv_goto (tgt := 67) hx hb dX11_pass_84 (by decide) ?_
                                                                refine lv_iload hx hb dX11_pass_67 (lv_at hl 0 rfl) ?_
                                                                refine lv_iconst (v := 4) hx hb dX11_pass_69 (by decide) ?_
                                                                refine lv_icmp_ge (tgt := 87) hx hb dX11_pass_70 (by decide) (fun hc => absurd hc (by decide)) (fun _ => ?_)
                                                                refine lv_aload_n hx hb dX11_pass_73 rfl (lv_at hl 2 rfl) ?_
                                                                refine nb_getr hA hx hb hT hK hown hW fl_X11_37 hF.1 (v := .ref (A 6)) rfl dX11_pass_74 ?_
                                                                refine lv_iload hx hb dX11_pass_77 (lv_at hl 0 rfl) ?_
                                                                refine lv_iconst (v := 0) hx hb dX11_pass_79 (by decide) ?_
                                                                obtain ⟨f553, hf553⟩ := hF.2.2.1
                                                                refine nb_iastr hA hx hb hK hW hS 0 hf553 rfl (inb_in (by decide)) dX11_pass_80 (fun H locs G552 hEG552 hcG552 hW hS => ?_)
                                                                replace hF := hF.teach hEG552 hcG552
                                                                refine lv_iinc (v := 3) (lv' := [(5, .int 3), (4, .int 27), (0, .ref (A 0)), (1, .int x1), (2, .int x2), (3, .int x3)]) hx hb dX11_pass_81 hl (k := 0) rfl (by decide) (by decide) rfl (fun ls hl => ?_)
                                                                refine lv_goto (tgt := 67) hx hb dX11_pass_84 (by decide) ?_
                                                                refine lv_iload hx hb dX11_pass_67 (lv_at hl 0 rfl) ?_
                                                                refine lv_iconst (v := 4) hx hb dX11_pass_69 (by decide) ?_
                                                                refine lv_icmp_ge (tgt := 87) hx hb dX11_pass_70 (by decide) (fun hc => absurd hc (by decide)) (fun _ => ?_)
                                                                refine lv_aload_n hx hb dX11_pass_73 rfl (lv_at hl 2 rfl) ?_
                                                                refine nb_getr hA hx hb hT hK hown hW fl_X11_37 hF.1 (v := .ref (A 6)) rfl dX11_pass_74 ?_
                                                                refine lv_iload hx hb dX11_pass_77 (lv_at hl 0 rfl) ?_
                                                                refine lv_iconst (v := 0) hx hb dX11_pass_79 (by decide) ?_
                                                                obtain ⟨f555, hf555⟩ := hF.2.2.1
                                                                refine nb_iastr hA hx hb hK hW hS 0 hf555 rfl (inb_in (by decide)) dX11_pass_80 (fun H locs G554 hEG554 hcG554 hW hS => ?_)
                                                                replace hF := hF.teach hEG554 hcG554
                                                                refine lv_iinc (v := 4) (lv' := [(5, .int 4), (4, .int 27), (0, .ref (A 0)), (1, .int x1), (2, .int x2), (3, .int x3)]) hx hb dX11_pass_81 hl (k := 0) rfl (by decide) (by decide) rfl (fun ls hl => ?_)
                                                                refine lv_goto (tgt := 67) hx hb dX11_pass_84 (by decide) ?_
                                                                refine lv_iload hx hb dX11_pass_67 (lv_at hl 0 rfl) ?_
                                                                refine lv_iconst (v := 4) hx hb dX11_pass_69 (by decide) ?_
                                                                refine lv_icmp_ge (tgt := 87) hx hb dX11_pass_70 (by decide) (fun _ => ?_) (fun hc => absurd (by decide) hc)
                                                                refine lv_aload_n hx hb dX11_pass_87 rfl (lv_at hl 2 rfl) ?_
                                                                refine lv_iconst (v := 0) hx hb dX11_pass_88 (by decide) ?_
                                                                obtain ⟨u556, eu556, h⟩ := nm_s h
                                                                refine nb_putr hA hx hb hT hK hown hW hS fl_X11_216 tyX11 tyX11_ok nmX11 hF.1 (v := .int 0) rfl rfl rfl (Nat.le_of_ble_eq_true rfl) dX11_pass_89 (fun H locs G557 hEG557 hcG557 hW hS => ?_)
                                                                replace hF := hF.put (M' := u556) hEG557 hcG557 (by rw [eu556]; rfl) (by rw [eu556]; rfl)
                                                                replace hw : fmO u556 = fmO M := by rw [eu556]; exact hw
                                                                refine lv_aload_n hx hb dX11_pass_92 rfl (lv_at hl 2 rfl) ?_
                                                                refine lv_dup hx hb dX11_pass_93 rfl ?_
                                                                refine nb_getr hA hx hb hT hK hown hW fl_X11_210 hF.1 (v := .int (u556 11 0 0)) rfl dX11_pass_94 ?_
                                                                refine lv_iconst (v := 1) hx hb dX11_pass_97 (by decide) ?_
                                                                refine lv_iadd hx hb dX11_pass_98 ?_
                                                                obtain ⟨u558, eu558, h⟩ := nm_s h
                                                                refine nb_putr hA hx hb hT hK hown hW hS fl_X11_210 tyX11 tyX11_ok nmX11 hF.1 (v := .int ((u556 11 0 0) + 1)) rfl rfl rfl (Nat.le_of_ble_eq_true rfl) dX11_pass_99 (fun H locs G559 hEG559 hcG559 hW hS => ?_)
                                                                replace hF := hF.put (M' := u558) hEG559 hcG559 (by rw [eu558]; rfl) (by rw [eu558]; rfl)
                                                                replace hw : fmO u558 = fmO M := by rw [eu558]; exact hw
                                                                refine lv_iinc (v := 28) (lv' := [(4, .int 28), (5, .int 4), (0, .ref (A 0)), (1, .int x1), (2, .int x2), (3, .int x3)]) hx hb dX11_pass_102 hl (k := 1) rfl (by decide) (by decide) rfl (fun ls hl => ?_)
                                                                refine lv_goto (tgt := 48) hx hb dX11_pass_105 (by decide) ?_
                                                                refine lv_iload hx hb dX11_pass_48 (lv_at hl 0 rfl) ?_
                                                                refine lv_iload_n hx hb dX11_pass_50 rfl (lv_at hl 3 rfl) ?_
                                                                refine lv_icmp_ge (tgt := 108) hx hb dX11_pass_51 (by decide) (fun c560 => ?_) (fun c560 => ?_)
                                                                · replace h := ite_t h c560
                                                                  refine lv_aload_n hx hb dX11_pass_108 rfl (lv_at hl 2 rfl) ?_
                                                                  refine nb_getr hA hx hb hT hK hown hW fl_X11_210 hF.1 (v := .int (u558 11 0 0)) rfl dX11_pass_109 ?_
                                                                  refine W.widen (k := 60) (n := 240) (Nat.le_of_ble_eq_true rfl) (Nat.le_of_ble_eq_true rfl) ?_
                                                                  exact fm_iw hx hb hr rfl hlocks hW (hF.w hw) hS dX11_pass_112 h
                                                                · replace h := ite_f h c560
                                                                  refine lv_aload_n hx hb dX11_pass_54 rfl (lv_at hl 2 rfl) ?_
                                                                  obtain ⟨_, h561, h⟩ := ob_s h
                                                                  refine fm_cv (nb_runVr (As := []) (rest := []) hA hx hb hml hown hSW hS hW (m_X11_forget l z ad _ hA A u558 hF h561) mf_X11_forget lk_X11_233 hF.1 rfl rfl ⟨rfl, rfl⟩ ⟨Nat.le_of_ble_eq_true rfl, Nat.le_of_ble_eq_true rfl⟩ hl.1 (Nat.le_of_ble_eq_true rfl) dX11_pass_55 ⟨Nat.le_of_ble_eq_true rfl, Nat.le_of_ble_eq_true rfl⟩) hS (fun H locs G563 hEG563 hW hS => ?_)
                                                                  replace hF := hF.ext0 hEG563
                                                                  refine lv_aload_n hx hb dX11_pass_58 rfl (lv_at hl 2 rfl) ?_
                                                                  refine lv_iload_n hx hb dX11_pass_59 rfl (lv_at hl 4 rfl) ?_
                                                                  refine lv_iload_n hx hb dX11_pass_60 rfl (lv_at hl 5 rfl) ?_
                                                                  obtain ⟨_, h564, h⟩ := ob_s h
                                                                  refine fm_cv (nb_runVr (As := [.int x2, .int x3]) (rest := []) hA hx hb hml hown hSW hS hW (m_X11_weather l z ad _ hA A u558 hF x2 x3 h564) mf_X11_weather lk_X11_236 hF.1 rfl rfl ⟨rfl, rfl⟩ ⟨Nat.le_of_ble_eq_true rfl, Nat.le_of_ble_eq_true rfl⟩ hl.1 (Nat.le_of_ble_eq_true rfl) dX11_pass_61 ⟨Nat.le_of_ble_eq_true rfl, Nat.le_of_ble_eq_true rfl⟩) hS (fun H locs G566 hEG566 hW hS => ?_)
                                                                  replace hF := hF.ext0 hEG566
                                                                  refine lv_iconst (v := 0) hx hb dX11_pass_64 (by decide) ?_
                                                                  refine lv_istore (lv' := [(5, .int 0), (4, .int 28), (0, .ref (A 0)), (1, .int x1), (2, .int x2), (3, .int x3)]) hx hb dX11_pass_65 hl (by decide) rfl (fun ls hl => ?_)
                                                                  refine lv_iload hx hb dX11_pass_67 (lv_at hl 0 rfl) ?_
                                                                  refine lv_iconst (v := 4) hx hb dX11_pass_69 (by decide) ?_
                                                                  refine lv_icmp_ge (tgt := 87) hx hb dX11_pass_70 (by decide) (fun hc => absurd hc (by decide)) (fun _ => ?_)
                                                                  refine lv_aload_n hx hb dX11_pass_73 rfl (lv_at hl 2 rfl) ?_
                                                                  refine nb_getr hA hx hb hT hK hown hW fl_X11_37 hF.1 (v := .ref (A 6)) rfl dX11_pass_74 ?_
                                                                  refine lv_iload hx hb dX11_pass_77 (lv_at hl 0 rfl) ?_
                                                                  refine lv_iconst (v := 0) hx hb dX11_pass_79 (by decide) ?_
                                                                  obtain ⟨f568, hf568⟩ := hF.2.2.1
                                                                  refine nb_iastr hA hx hb hK hW hS 0 hf568 rfl (inb_in (by decide)) dX11_pass_80 (fun H locs G567 hEG567 hcG567 hW hS => ?_)
                                                                  replace hF := hF.teach hEG567 hcG567
                                                                  refine lv_iinc (v := 1) (lv' := [(5, .int 1), (4, .int 28), (0, .ref (A 0)), (1, .int x1), (2, .int x2), (3, .int x3)]) hx hb dX11_pass_81 hl (k := 0) rfl (by decide) (by decide) rfl (fun ls hl => ?_)
                                                                  refine lv_goto (tgt := 67) hx hb dX11_pass_84 (by decide) ?_
                                                                  refine lv_iload hx hb dX11_pass_67 (lv_at hl 0 rfl) ?_
                                                                  refine lv_iconst (v := 4) hx hb dX11_pass_69 (by decide) ?_
                                                                  refine lv_icmp_ge (tgt := 87) hx hb dX11_pass_70 (by decide) (fun hc => absurd hc (by decide)) (fun _ => ?_)
                                                                  refine lv_aload_n hx hb dX11_pass_73 rfl (lv_at hl 2 rfl) ?_
                                                                  refine nb_getr hA hx hb hT hK hown hW fl_X11_37 hF.1 (v := .ref (A 6)) rfl dX11_pass_74 ?_
                                                                  refine lv_iload hx hb dX11_pass_77 (lv_at hl 0 rfl) ?_
                                                                  refine lv_iconst (v := 0) hx hb dX11_pass_79 (by decide) ?_
                                                                  obtain ⟨f570, hf570⟩ := hF.2.2.1
                                                                  refine nb_iastr hA hx hb hK hW hS 0 hf570 rfl (inb_in (by decide)) dX11_pass_80 (fun H locs G569 hEG569 hcG569 hW hS => ?_)
                                                                  replace hF := hF.teach hEG569 hcG569
                                                                  refine lv_iinc (v := 2) (lv' := [(5, .int 2), (4, .int 28), (0, .ref (A 0)), (1, .int x1), (2, .int x2), (3, .int x3)]) hx hb dX11_pass_81 hl (k := 0) rfl (by decide) (by decide) rfl (fun ls hl => ?_)
                                                                  refine lv_goto (tgt := 67) hx hb dX11_pass_84 (by decide) ?_
                                                                  refine lv_iload hx hb dX11_pass_67 (lv_at hl 0 rfl) ?_
                                                                  refine lv_iconst (v := 4) hx hb dX11_pass_69 (by decide) ?_
                                                                  refine lv_icmp_ge (tgt := 87) hx hb dX11_pass_70 (by decide) (fun hc => absurd hc (by decide)) (fun _ => ?_)
                                                                  refine lv_aload_n hx hb dX11_pass_73 rfl (lv_at hl 2 rfl) ?_
                                                                  refine nb_getr hA hx hb hT hK hown hW fl_X11_37 hF.1 (v := .ref (A 6)) rfl dX11_pass_74 ?_
                                                                  refine lv_iload hx hb dX11_pass_77 (lv_at hl 0 rfl) ?_
                                                                  refine lv_iconst (v := 0) hx hb dX11_pass_79 (by decide) ?_
                                                                  obtain ⟨f572, hf572⟩ := hF.2.2.1
                                                                  refine nb_iastr hA hx hb hK hW hS 0 hf572 rfl (inb_in (by decide)) dX11_pass_80 (fun H locs G571 hEG571 hcG571 hW hS => ?_)
                                                                  replace hF := hF.teach hEG571 hcG571
                                                                  refine lv_iinc (v := 3) (lv' := [(5, .int 3), (4, .int 28), (0, .ref (A 0)), (1, .int x1), (2, .int x2), (3, .int x3)]) hx hb dX11_pass_81 hl (k := 0) rfl (by decide) (by decide) rfl (fun ls hl => ?_)
                                                                  refine lv_goto (tgt := 67) hx hb dX11_pass_84 (by decide) ?_
                                                                  refine lv_iload hx hb dX11_pass_67 (lv_at hl 0 rfl) ?_
                                                                  refine lv_iconst (v := 4) hx hb dX11_pass_69 (by decide) ?_
                                                                  refine lv_icmp_ge (tgt := 87) hx hb dX11_pass_70 (by decide) (fun hc => absurd hc (by decide)) (fun _ => ?_)
                                                                  refine lv_aload_n hx hb dX11_pass_73 rfl (lv_at hl 2 rfl) ?_
                                                                  refine nb_getr hA hx hb hT hK hown hW fl_X11_37 hF.1 (v := .ref (A 6)) rfl dX11_pass_74 ?_
                                                                  refine lv_iload hx hb dX11_pass_77 (lv_at hl 0 rfl) ?_
                                                                  refine lv_iconst (v := 0) hx hb dX11_pass_79 (by decide) ?_
                                                                  obtain ⟨f574, hf574⟩ := hF.2.2.1
                                                                  refine nb_iastr hA hx hb hK hW hS 0 hf574 rfl (inb_in (by decide)) dX11_pass_80 (fun H locs G573 hEG573 hcG573 hW hS => ?_)
                                                                  replace hF := hF.teach hEG573 hcG573
                                                                  refine lv_iinc (v := 4) (lv' := [(5, .int 4), (4, .int 28), (0, .ref (A 0)), (1, .int x1), (2, .int x2), (3, .int x3)]) hx hb dX11_pass_81 hl (k := 0) rfl (by decide) (by decide) rfl (fun ls hl => ?_)
                                                                  refine lv_goto (tgt := 67) hx hb dX11_pass_84 (by decide) ?_
                                                                  refine lv_iload hx hb dX11_pass_67 (lv_at hl 0 rfl) ?_
                                                                  refine lv_iconst (v := 4) hx hb dX11_pass_69 (by decide) ?_
                                                                  refine lv_icmp_ge (tgt := 87) hx hb dX11_pass_70 (by decide) (fun _ => ?_) (fun hc => absurd (by decide) hc)
                                                                  refine lv_aload_n hx hb dX11_pass_87 rfl (lv_at hl 2 rfl) ?_
                                                                  refine lv_iconst (v := 0) hx hb dX11_pass_88 (by decide) ?_
                                                                  obtain ⟨u575, eu575, h⟩ := nm_s h
                                                                  refine nb_putr hA hx hb hT hK hown hW hS fl_X11_216 tyX11 tyX11_ok nmX11 hF.1 (v := .int 0) rfl rfl rfl (Nat.le_of_ble_eq_true rfl) dX11_pass_89 (fun H locs G576 hEG576 hcG576 hW hS => ?_)
                                                                  replace hF := hF.put (M' := u575) hEG576 hcG576 (by rw [eu575]; rfl) (by rw [eu575]; rfl)
                                                                  replace hw : fmO u575 = fmO M := by rw [eu575]; exact hw
                                                                  refine lv_aload_n hx hb dX11_pass_92 rfl (lv_at hl 2 rfl) ?_
                                                                  refine lv_dup hx hb dX11_pass_93 rfl ?_
                                                                  refine nb_getr hA hx hb hT hK hown hW fl_X11_210 hF.1 (v := .int (u575 11 0 0)) rfl dX11_pass_94 ?_
                                                                  refine lv_iconst (v := 1) hx hb dX11_pass_97 (by decide) ?_
                                                                  refine lv_iadd hx hb dX11_pass_98 ?_
                                                                  obtain ⟨u577, eu577, h⟩ := nm_s h
                                                                  refine nb_putr hA hx hb hT hK hown hW hS fl_X11_210 tyX11 tyX11_ok nmX11 hF.1 (v := .int ((u575 11 0 0) + 1)) rfl rfl rfl (Nat.le_of_ble_eq_true rfl) dX11_pass_99 (fun H locs G578 hEG578 hcG578 hW hS => ?_)
                                                                  replace hF := hF.put (M' := u577) hEG578 hcG578 (by rw [eu577]; rfl) (by rw [eu577]; rfl)
                                                                  replace hw : fmO u577 = fmO M := by rw [eu577]; exact hw
                                                                  refine lv_iinc (v := 29) (lv' := [(4, .int 29), (5, .int 4), (0, .ref (A 0)), (1, .int x1), (2, .int x2), (3, .int x3)]) hx hb dX11_pass_102 hl (k := 1) rfl (by decide) (by decide) rfl (fun ls hl => ?_)
                                                                  refine lv_goto (tgt := 48) hx hb dX11_pass_105 (by decide) ?_
                                                                  refine lv_iload hx hb dX11_pass_48 (lv_at hl 0 rfl) ?_
                                                                  refine lv_iload_n hx hb dX11_pass_50 rfl (lv_at hl 3 rfl) ?_
                                                                  refine lv_icmp_ge (tgt := 108) hx hb dX11_pass_51 (by decide) (fun c579 => ?_) (fun c579 => ?_)
                                                                  · replace h := ite_t h c579
                                                                    refine lv_aload_n hx hb dX11_pass_108 rfl (lv_at hl 2 rfl) ?_
                                                                    refine nb_getr hA hx hb hT hK hown hW fl_X11_210 hF.1 (v := .int (u577 11 0 0)) rfl dX11_pass_109 ?_
                                                                    refine W.widen (k := 60) (n := 240) (Nat.le_of_ble_eq_true rfl) (Nat.le_of_ble_eq_true rfl) ?_
                                                                    exact fm_iw hx hb hr rfl hlocks hW (hF.w hw) hS dX11_pass_112 h
                                                                  · replace h := ite_f h c579
                                                                    refine lv_aload_n hx hb dX11_pass_54 rfl (lv_at hl 2 rfl) ?_
                                                                    obtain ⟨_, h580, h⟩ := ob_s h
                                                                    refine fm_cv (nb_runVr (As := []) (rest := []) hA hx hb hml hown hSW hS hW (m_X11_forget l z ad _ hA A u577 hF h580) mf_X11_forget lk_X11_233 hF.1 rfl rfl ⟨rfl, rfl⟩ ⟨Nat.le_of_ble_eq_true rfl, Nat.le_of_ble_eq_true rfl⟩ hl.1 (Nat.le_of_ble_eq_true rfl) dX11_pass_55 ⟨Nat.le_of_ble_eq_true rfl, Nat.le_of_ble_eq_true rfl⟩) hS (fun H locs G582 hEG582 hW hS => ?_)
                                                                    replace hF := hF.ext0 hEG582
                                                                    refine lv_aload_n hx hb dX11_pass_58 rfl (lv_at hl 2 rfl) ?_
                                                                    refine lv_iload_n hx hb dX11_pass_59 rfl (lv_at hl 4 rfl) ?_
                                                                    refine lv_iload_n hx hb dX11_pass_60 rfl (lv_at hl 5 rfl) ?_
                                                                    obtain ⟨_, h583, h⟩ := ob_s h
                                                                    refine fm_cv (nb_runVr (As := [.int x2, .int x3]) (rest := []) hA hx hb hml hown hSW hS hW (m_X11_weather l z ad _ hA A u577 hF x2 x3 h583) mf_X11_weather lk_X11_236 hF.1 rfl rfl ⟨rfl, rfl⟩ ⟨Nat.le_of_ble_eq_true rfl, Nat.le_of_ble_eq_true rfl⟩ hl.1 (Nat.le_of_ble_eq_true rfl) dX11_pass_61 ⟨Nat.le_of_ble_eq_true rfl, Nat.le_of_ble_eq_true rfl⟩) hS (fun H locs G585 hEG585 hW hS => ?_)
                                                                    replace hF := hF.ext0 hEG585
                                                                    refine lv_iconst (v := 0) hx hb dX11_pass_64 (by decide) ?_
                                                                    refine lv_istore (lv' := [(5, .int 0), (4, .int 29), (0, .ref (A 0)), (1, .int x1), (2, .int x2), (3, .int x3)]) hx hb dX11_pass_65 hl (by decide) rfl (fun ls hl => ?_)
                                                                    refine lv_iload hx hb dX11_pass_67 (lv_at hl 0 rfl) ?_
                                                                    refine lv_iconst (v := 4) hx hb dX11_pass_69 (by decide) ?_
                                                                    refine lv_icmp_ge (tgt := 87) hx hb dX11_pass_70 (by decide) (fun hc => absurd hc (by decide)) (fun _ => ?_)
                                                                    refine lv_aload_n hx hb dX11_pass_73 rfl (lv_at hl 2 rfl) ?_
                                                                    refine nb_getr hA hx hb hT hK hown hW fl_X11_37 hF.1 (v := .ref (A 6)) rfl dX11_pass_74 ?_
                                                                    refine lv_iload hx hb dX11_pass_77 (lv_at hl 0 rfl) ?_
                                                                    refine lv_iconst (v := 0) hx hb dX11_pass_79 (by decide) ?_
                                                                    obtain ⟨f587, hf587⟩ := hF.2.2.1
                                                                    refine nb_iastr hA hx hb hK hW hS 0 hf587 rfl (inb_in (by decide)) dX11_pass_80 (fun H locs G586 hEG586 hcG586 hW hS => ?_)
                                                                    replace hF := hF.teach hEG586 hcG586
                                                                    refine lv_iinc (v := 1) (lv' := [(5, .int 1), (4, .int 29), (0, .ref (A 0)), (1, .int x1), (2, .int x2), (3, .int x3)]) hx hb dX11_pass_81 hl (k := 0) rfl (by decide) (by decide) rfl (fun ls hl => ?_)
                                                                    refine lv_goto (tgt := 67) hx hb dX11_pass_84 (by decide) ?_
                                                                    refine lv_iload hx hb dX11_pass_67 (lv_at hl 0 rfl) ?_
                                                                    refine lv_iconst (v := 4) hx hb dX11_pass_69 (by decide) ?_
                                                                    refine lv_icmp_ge (tgt := 87) hx hb dX11_pass_70 (by decide) (fun hc => absurd hc (by decide)) (fun _ => ?_)
                                                                    refine lv_aload_n hx hb dX11_pass_73 rfl (lv_at hl 2 rfl) ?_
                                                                    refine nb_getr hA hx hb hT hK hown hW fl_X11_37 hF.1 (v := .ref (A 6)) rfl dX11_pass_74 ?_
                                                                    refine lv_iload hx hb dX11_pass_77 (lv_at hl 0 rfl) ?_
                                                                    refine lv_iconst (v := 0) hx hb dX11_pass_79 (by decide) ?_
                                                                    obtain ⟨f589, hf589⟩ := hF.2.2.1
                                                                    refine nb_iastr hA hx hb hK hW hS 0 hf589 rfl (inb_in (by decide)) dX11_pass_80 (fun H locs G588 hEG588 hcG588 hW hS => ?_)
                                                                    replace hF := hF.teach hEG588 hcG588
                                                                    refine lv_iinc (v := 2) (lv' := [(5, .int 2), (4, .int 29), (0, .ref (A 0)), (1, .int x1), (2, .int x2), (3, .int x3)]) hx hb dX11_pass_81 hl (k := 0) rfl (by decide) (by decide) rfl (fun ls hl => ?_)
                                                                    refine lv_goto (tgt := 67) hx hb dX11_pass_84 (by decide) ?_
                                                                    refine lv_iload hx hb dX11_pass_67 (lv_at hl 0 rfl) ?_
                                                                    refine lv_iconst (v := 4) hx hb dX11_pass_69 (by decide) ?_
                                                                    refine lv_icmp_ge (tgt := 87) hx hb dX11_pass_70 (by decide) (fun hc => absurd hc (by decide)) (fun _ => ?_)
                                                                    refine lv_aload_n hx hb dX11_pass_73 rfl (lv_at hl 2 rfl) ?_
                                                                    refine nb_getr hA hx hb hT hK hown hW fl_X11_37 hF.1 (v := .ref (A 6)) rfl dX11_pass_74 ?_
                                                                    refine lv_iload hx hb dX11_pass_77 (lv_at hl 0 rfl) ?_
                                                                    refine lv_iconst (v := 0) hx hb dX11_pass_79 (by decide) ?_
                                                                    obtain ⟨f591, hf591⟩ := hF.2.2.1
                                                                    refine nb_iastr hA hx hb hK hW hS 0 hf591 rfl (inb_in (by decide)) dX11_pass_80 (fun H locs G590 hEG590 hcG590 hW hS => ?_)
                                                                    replace hF := hF.teach hEG590 hcG590
                                                                    refine lv_iinc (v := 3) (lv' := [(5, .int 3), (4, .int 29), (0, .ref (A 0)), (1, .int x1), (2, .int x2), (3, .int x3)]) hx hb dX11_pass_81 hl (k := 0) rfl (by decide) (by decide) rfl (fun ls hl => ?_)
                                                                    refine lv_goto (tgt := 67) hx hb dX11_pass_84 (by decide) ?_
                                                                    refine lv_iload hx hb dX11_pass_67 (lv_at hl 0 rfl) ?_
                                                                    refine lv_iconst (v := 4) hx hb dX11_pass_69 (by decide) ?_
                                                                    refine lv_icmp_ge (tgt := 87) hx hb dX11_pass_70 (by decide) (fun hc => absurd hc (by decide)) (fun _ => ?_)
                                                                    refine lv_aload_n hx hb dX11_pass_73 rfl (lv_at hl 2 rfl) ?_
                                                                    refine nb_getr hA hx hb hT hK hown hW fl_X11_37 hF.1 (v := .ref (A 6)) rfl dX11_pass_74 ?_
                                                                    refine lv_iload hx hb dX11_pass_77 (lv_at hl 0 rfl) ?_
                                                                    refine lv_iconst (v := 0) hx hb dX11_pass_79 (by decide) ?_
                                                                    obtain ⟨f593, hf593⟩ := hF.2.2.1
                                                                    refine nb_iastr hA hx hb hK hW hS 0 hf593 rfl (inb_in (by decide)) dX11_pass_80 (fun H locs G592 hEG592 hcG592 hW hS => ?_)
                                                                    replace hF := hF.teach hEG592 hcG592
                                                                    refine lv_iinc (v := 4) (lv' := [(5, .int 4), (4, .int 29), (0, .ref (A 0)), (1, .int x1), (2, .int x2), (3, .int x3)]) hx hb dX11_pass_81 hl (k := 0) rfl (by decide) (by decide) rfl (fun ls hl => ?_)
                                                                    refine lv_goto (tgt := 67) hx hb dX11_pass_84 (by decide) ?_
                                                                    refine lv_iload hx hb dX11_pass_67 (lv_at hl 0 rfl) ?_
                                                                    refine lv_iconst (v := 4) hx hb dX11_pass_69 (by decide) ?_
                                                                    refine lv_icmp_ge (tgt := 87) hx hb dX11_pass_70 (by decide) (fun _ => ?_) (fun hc => absurd (by decide) hc)
                                                                    refine lv_aload_n hx hb dX11_pass_87 rfl (lv_at hl 2 rfl) ?_
                                                                    refine lv_iconst (v := 0) hx hb dX11_pass_88 (by decide) ?_
                                                                    obtain ⟨u594, eu594, h⟩ := nm_s h
                                                                    refine nb_putr hA hx hb hT hK hown hW hS fl_X11_216 tyX11 tyX11_ok nmX11 hF.1 (v := .int 0) rfl rfl rfl (Nat.le_of_ble_eq_true rfl) dX11_pass_89 (fun H locs G595 hEG595 hcG595 hW hS => ?_)
                                                                    replace hF := hF.put (M' := u594) hEG595 hcG595 (by rw [eu594]; rfl) (by rw [eu594]; rfl)
                                                                    replace hw : fmO u594 = fmO M := by rw [eu594]; exact hw
                                                                    refine lv_aload_n hx hb dX11_pass_92 rfl (lv_at hl 2 rfl) ?_
                                                                    refine lv_dup hx hb dX11_pass_93 rfl ?_
                                                                    refine nb_getr hA hx hb hT hK hown hW fl_X11_210 hF.1 (v := .int (u594 11 0 0)) rfl dX11_pass_94 ?_
                                                                    refine lv_iconst (v := 1) hx hb dX11_pass_97 (by decide) ?_
                                                                    refine lv_iadd hx hb dX11_pass_98 ?_
                                                                    obtain ⟨u596, eu596, h⟩ := nm_s h
                                                                    refine nb_putr hA hx hb hT hK hown hW hS fl_X11_210 tyX11 tyX11_ok nmX11 hF.1 (v := .int ((u594 11 0 0) + 1)) rfl rfl rfl (Nat.le_of_ble_eq_true rfl) dX11_pass_99 (fun H locs G597 hEG597 hcG597 hW hS => ?_)
                                                                    replace hF := hF.put (M' := u596) hEG597 hcG597 (by rw [eu596]; rfl) (by rw [eu596]; rfl)
                                                                    replace hw : fmO u596 = fmO M := by rw [eu596]; exact hw
                                                                    refine lv_iinc (v := 30) (lv' := [(4, .int 30), (5, .int 4), (0, .ref (A 0)), (1, .int x1), (2, .int x2), (3, .int x3)]) hx hb dX11_pass_102 hl (k := 1) rfl (by decide) (by decide) rfl (fun ls hl => ?_)
                                                                    refine lv_goto (tgt := 48) hx hb dX11_pass_105 (by decide) ?_
                                                                    refine lv_iload hx hb dX11_pass_48 (lv_at hl 0 rfl) ?_
                                                                    refine lv_iload_n hx hb dX11_pass_50 rfl (lv_at hl 3 rfl) ?_
                                                                    refine lv_icmp_ge (tgt := 108) hx hb dX11_pass_51 (by decide) (fun c598 => ?_) (fun c598 => ?_)
                                                                    · replace h := ite_t h c598
                                                                      refine lv_aload_n hx hb dX11_pass_108 rfl (lv_at hl 2 rfl) ?_
                                                                      refine nb_getr hA hx hb hT hK hown hW fl_X11_210 hF.1 (v := .int (u596 11 0 0)) rfl dX11_pass_109 ?_
                                                                      refine W.widen (k := 60) (n := 240) (Nat.le_of_ble_eq_true rfl) (Nat.le_of_ble_eq_true rfl) ?_
                                                                      exact fm_iw hx hb hr rfl hlocks hW (hF.w hw) hS dX11_pass_112 h
                                                                    · replace h := ite_f h c598
                                                                      exact absurd h (by intro q; cases q)
      · replace h := ite_t h c22
        refine lv_iconst (v := 1) hx hb dX11_pass_31 (by decide) ?_
        refine lv_goto (tgt := 36) hx hb dX11_pass_32 (by decide) ?_
        refine lv_iconst (v := 1) hx hb dX11_pass_36 (by decide) ?_
        obtain ⟨r600, u601, h599, h⟩ := ob2_s h
        obtain ⟨g603, hz8⟩ := gd_s h
        clear h
        subst g603
        have h := hz8
        clear hz8
        refine fm_cs (nb_runVr (As := [.int 1, .int 1]) (rest := []) hA hx hb hml hown hSW hS hW (m_X11_start l z ad _ hA A M hF 1 1 h599) mf_X11_start lk_X11_75 hF.1 rfl rfl ⟨rfl, rfl⟩ ⟨Nat.le_of_ble_eq_true rfl, Nat.le_of_ble_eq_true rfl⟩ hl.1 (Nat.le_of_ble_eq_true rfl) dX11_pass_37 ⟨Nat.le_of_ble_eq_true rfl, Nat.le_of_ble_eq_true rfl⟩) hS (fun H locs G602 hF hw2 hW hS => ?_)
        replace hw := hw2.trans hw
        clear hw2
        refine lv_if_eq (tgt := 45) hx hb dX11_pass_40 (by decide) (fun hc => absurd hc (by decide)) (fun _ => ?_)
        refine lv_iconst (v := 0) hx hb dX11_pass_43 (by decide) ?_
        refine W.widen (k := 60) (n := 240) (Nat.le_of_ble_eq_true rfl) (Nat.le_of_ble_eq_true rfl) ?_
        exact fm_iw hx hb hr rfl hlocks hW (hF.w hw) hS dX11_pass_44 h
