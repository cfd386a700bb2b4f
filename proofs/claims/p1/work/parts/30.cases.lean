/-! 30: the law's cases -/
theorem lg_self {x : Int64} : lg_cmp x x = 0 := by simp [lg_cmp]
def LX (p : Program) (l : Launch) (e : Env) (s : State) (m : MethodId) (meth : Method) (c : Code) (b : Nat) (xs : Nat → Int32) (z : Zt) (o : Ot) (ad : Ad) (X : Gt) (A : Nat → Nat) : Prop :=
  p.tables.exec = Jvm.exec ∧ c.code = code ∧ c.maxLocals = 9 ∧ s.vm.findClass RL = some m.cls ∧ SW z s ∧ SO z o s ∧ l.stackTraces = false ∧ Raw ad ∧ FM z (GC z ad N0 X u00) A (mW 0) ∧ A 9 = o.1 ∧ va_X b 4 xs s s.heap ∧ b < s.heap.size ∧ ¬ zA z b
section LCS
variable {p : Program} {l : Launch} {e : Env} {s : State} {m : MethodId} {below : List Frame} {meth : Method} {c : Code} {b : Nat} {xs : Nat → Int32} {z : Zt} {o : Ot} {ad : Ad} {X : Gt} {A : Nat → Nat} {H : Heap} {locs : List Loc} {ls : Array Slot} {Q : State → Prop}
theorem nb_cd {R : Room} {args : Array Value} {cells slots : Nat} {ad' : Ad} {G' : Gt} {a : Array Value} {rest st0 : List Value} {pc : Nat} {r : UInt64} (hr : va_Run p l e R s m args below meth c H locs cells slots 0 0 (F0 m pc ls st0) rest (QD z ad' G' r a) (zA z)) (hS : va_S (zA z) s.heap H locs)
    (kk : ∀ (H1 : Heap) (locs1 : List Loc), GW z ad' G' H1 → va_S (zA z) s.heap H1 locs1 → W p l e R s m args below meth c H1 locs1 cells slots Q (F0 m (pc + 3) ls (.double r :: rest))) : W p l e R s m args below meth c H locs cells slots Q (F0 m pc ls st0) :=
  va_calld hr hS (fun _ _ h => h) (fun _ h => h) (fun r9 u t H1 locs1 ht _ hp hB _ _ hS1 => by subst hp; subst ht; exact kk _ _ hB hS1)
theorem lk_L_122 : LK RL 122 yX11_pan := Or.inl (List.mem_of_getElem? (i := 1080) (by decide +kernel))
theorem mf_X11_pan : MFv yX11_pan cX11_pan 2 (some .int) 1 := ⟨List.mem_of_getElem? (i := 1081) (by decide +kernel), List.mem_of_getElem? (i := 1082) (by decide +kernel), List.mem_of_getElem? (i := 67) (by decide +kernel), List.mem_of_getElem? (i := 1083) (by decide +kernel), by decide +kernel, by decide +kernel, by decide +kernel⟩
theorem lk_L_123 : LK RL 123 yX11_thrown := Or.inl (List.mem_of_getElem? (i := 1076) (by decide +kernel))
theorem mf_X11_thrown : MFv yX11_thrown cX11_thrown 1 (some .int) 0 := ⟨List.mem_of_getElem? (i := 1077) (by decide +kernel), List.mem_of_getElem? (i := 1078) (by decide +kernel), List.mem_of_getElem? (i := 67) (by decide +kernel), List.mem_of_getElem? (i := 1079) (by decide +kernel), by decide +kernel, by decide +kernel, by decide +kernel⟩
theorem lk_L_129 : LK RL 129 yX11_blow := Or.inl (List.mem_of_getElem? (i := 1188) (by decide +kernel))
theorem mf_X11_blow : MFv yX11_blow cX11_blow 4 (some .int) 3 := ⟨List.mem_of_getElem? (i := 1189) (by decide +kernel), List.mem_of_getElem? (i := 1190) (by decide +kernel), List.mem_of_getElem? (i := 67) (by decide +kernel), List.mem_of_getElem? (i := 1191) (by decide +kernel), by decide +kernel, by decide +kernel, by decide +kernel⟩
theorem lk_L_132 : LK RL 132 yX11_burn := Or.inl (List.mem_of_getElem? (i := 1228) (by decide +kernel))
theorem mf_X11_burn : MFv yX11_burn cX11_burn 2 (some .int) 1 := ⟨List.mem_of_getElem? (i := 1229) (by decide +kernel), List.mem_of_getElem? (i := 1230) (by decide +kernel), List.mem_of_getElem? (i := 67) (by decide +kernel), List.mem_of_getElem? (i := 1231) (by decide +kernel), by decide +kernel, by decide +kernel, by decide +kernel⟩
theorem lk_L_136 : LK RL 136 yX11_tuner := Or.inl (List.mem_of_getElem? (i := 1236) (by decide +kernel))
theorem mf_X11_tuner : MFv yX11_tuner cX11_tuner 4 (some .int) 2 := ⟨List.mem_of_getElem? (i := 1237) (by decide +kernel), List.mem_of_getElem? (i := 1238) (by decide +kernel), List.mem_of_getElem? (i := 67) (by decide +kernel), List.mem_of_getElem? (i := 1239) (by decide +kernel), by decide +kernel, by decide +kernel, by decide +kernel⟩
theorem lk_L_137 : LK RL 137 yX7_cover := Or.inl (List.mem_of_getElem? (i := 270) (by decide +kernel))
theorem mf_X7_cover : MFv yX7_cover cX7_cover 3 (some .boolean) 1 := ⟨List.mem_of_getElem? (i := 271) (by decide +kernel), List.mem_of_getElem? (i := 272) (by decide +kernel), List.mem_of_getElem? (i := 61) (by decide +kernel), List.mem_of_getElem? (i := 273) (by decide +kernel), by decide +kernel, by decide +kernel, by decide +kernel⟩
theorem lk_L_141 : LK RL 141 yX11_cover := Or.inl (List.mem_of_getElem? (i := 1256) (by decide +kernel))
theorem mf_X11_cover : MFv yX11_cover cX11_cover 3 (some .boolean) 1 := ⟨List.mem_of_getElem? (i := 1257) (by decide +kernel), List.mem_of_getElem? (i := 1258) (by decide +kernel), List.mem_of_getElem? (i := 67) (by decide +kernel), List.mem_of_getElem? (i := 1259) (by decide +kernel), by decide +kernel, by decide +kernel, by decide +kernel⟩
theorem lk_L_144 : LK RL 144 yX11_phrase := Or.inl (List.mem_of_getElem? (i := 1260) (by decide +kernel))
theorem mf_X11_phrase : MFv yX11_phrase cX11_phrase 4 (some .int) 3 := ⟨List.mem_of_getElem? (i := 1261) (by decide +kernel), List.mem_of_getElem? (i := 1262) (by decide +kernel), List.mem_of_getElem? (i := 67) (by decide +kernel), List.mem_of_getElem? (i := 1263) (by decide +kernel), by decide +kernel, by decide +kernel, by decide +kernel⟩
theorem lk_L_147 : LK RL 147 yX11_change := Or.inl (List.mem_of_getElem? (i := 1289) (by decide +kernel))
theorem mf_X11_change : MFv yX11_change cX11_change 7 (some .int) 3 := ⟨List.mem_of_getElem? (i := 1290) (by decide +kernel), List.mem_of_getElem? (i := 1291) (by decide +kernel), List.mem_of_getElem? (i := 67) (by decide +kernel), List.mem_of_getElem? (i := 1292) (by decide +kernel), by decide +kernel, by decide +kernel, by decide +kernel⟩
theorem lk_L_150 : LK RL 150 yX11_put := Or.inl (List.mem_of_getElem? (i := 1353) (by decide +kernel))
theorem mf_X11_put : MFv yX11_put cX11_put 2 (some .int) 1 := ⟨List.mem_of_getElem? (i := 1354) (by decide +kernel), List.mem_of_getElem? (i := 1355) (by decide +kernel), List.mem_of_getElem? (i := 67) (by decide +kernel), List.mem_of_getElem? (i := 1356) (by decide +kernel), by decide +kernel, by decide +kernel, by decide +kernel⟩
theorem lk_L_153 : LK RL 153 yX11_cut := Or.inl (List.mem_of_getElem? (i := 1377) (by decide +kernel))
theorem mf_X11_cut : MFv yX11_cut cX11_cut 2 (some .int) 1 := ⟨List.mem_of_getElem? (i := 1378) (by decide +kernel), List.mem_of_getElem? (i := 1379) (by decide +kernel), List.mem_of_getElem? (i := 67) (by decide +kernel), List.mem_of_getElem? (i := 1380) (by decide +kernel), by decide +kernel, by decide +kernel, by decide +kernel⟩
theorem lk_L_156 : LK RL 156 yX11_player := Or.inl (List.mem_of_getElem? (i := 1395) (by decide +kernel))
theorem mf_X11_player : MFv yX11_player cX11_player 4 (some .int) 3 := ⟨List.mem_of_getElem? (i := 1396) (by decide +kernel), List.mem_of_getElem? (i := 1397) (by decide +kernel), List.mem_of_getElem? (i := 67) (by decide +kernel), List.mem_of_getElem? (i := 1398) (by decide +kernel), by decide +kernel, by decide +kernel, by decide +kernel⟩
theorem lk_L_159 : LK RL 159 yX11_give := Or.inl (List.mem_of_getElem? (i := 1436) (by decide +kernel))
theorem mf_X11_give : MFv yX11_give cX11_give 4 (some .int) 2 := ⟨List.mem_of_getElem? (i := 1437) (by decide +kernel), List.mem_of_getElem? (i := 1438) (by decide +kernel), List.mem_of_getElem? (i := 67) (by decide +kernel), List.mem_of_getElem? (i := 1439) (by decide +kernel), by decide +kernel, by decide +kernel, by decide +kernel⟩
theorem lk_L_163 : LK RL 163 yX11_absent := Or.inl (List.mem_of_getElem? (i := 1444) (by decide +kernel))
theorem mf_X11_absent : MFv yX11_absent cX11_absent 4 (some .boolean) 2 := ⟨List.mem_of_getElem? (i := 1445) (by decide +kernel), List.mem_of_getElem? (i := 1446) (by decide +kernel), List.mem_of_getElem? (i := 67) (by decide +kernel), List.mem_of_getElem? (i := 1447) (by decide +kernel), by decide +kernel, by decide +kernel, by decide +kernel⟩
theorem lk_L_166 : LK RL 166 yX11_teach := Or.inl (List.mem_of_getElem? (i := 1448) (by decide +kernel))
theorem mf_X11_teach : MFv yX11_teach cX11_teach 5 (some .int) 3 := ⟨List.mem_of_getElem? (i := 1449) (by decide +kernel), List.mem_of_getElem? (i := 1450) (by decide +kernel), List.mem_of_getElem? (i := 67) (by decide +kernel), List.mem_of_getElem? (i := 1451) (by decide +kernel), by decide +kernel, by decide +kernel, by decide +kernel⟩
theorem lk_L_169 : LK RL 169 yX11_rehearse_ := Or.inl (List.mem_of_getElem? (i := 1456) (by decide +kernel))
theorem mf_X11_rehearse_ : MFv yX11_rehearse_ cX11_rehearse_ 5 (some .int) 1 := ⟨List.mem_of_getElem? (i := 1457) (by decide +kernel), List.mem_of_getElem? (i := 1458) (by decide +kernel), List.mem_of_getElem? (i := 67) (by decide +kernel), List.mem_of_getElem? (i := 1459) (by decide +kernel), by decide +kernel, by decide +kernel, by decide +kernel⟩
theorem lk_L_172 : LK RL 172 yX11_pass := Or.inl (List.mem_of_getElem? (i := 1474) (by decide +kernel))
theorem mf_X11_pass : MFv yX11_pass cX11_pass 6 (some .int) 3 := ⟨List.mem_of_getElem? (i := 1475) (by decide +kernel), List.mem_of_getElem? (i := 1476) (by decide +kernel), List.mem_of_getElem? (i := 67) (by decide +kernel), List.mem_of_getElem? (i := 1477) (by decide +kernel), by decide +kernel, by decide +kernel, by decide +kernel⟩
theorem lk_L_175 : LK RL 175 yX11_sponsor := Or.inl (List.mem_of_getElem? (i := 1491) (by decide +kernel))
theorem mf_X11_sponsor : MFv yX11_sponsor cX11_sponsor 2 (some .int) 1 := ⟨List.mem_of_getElem? (i := 1492) (by decide +kernel), List.mem_of_getElem? (i := 1493) (by decide +kernel), List.mem_of_getElem? (i := 67) (by decide +kernel), List.mem_of_getElem? (i := 1494) (by decide +kernel), by decide +kernel, by decide +kernel, by decide +kernel⟩
theorem lk_L_178 : LK RL 178 yX11_rival := Or.inl (List.mem_of_getElem? (i := 1495) (by decide +kernel))
theorem mf_X11_rival : MFv yX11_rival cX11_rival 2 (some .int) 1 := ⟨List.mem_of_getElem? (i := 1496) (by decide +kernel), List.mem_of_getElem? (i := 1497) (by decide +kernel), List.mem_of_getElem? (i := 67) (by decide +kernel), List.mem_of_getElem? (i := 1498) (by decide +kernel), by decide +kernel, by decide +kernel, by decide +kernel⟩
theorem lk_L_181 : LK RL 181 yX11_lean := Or.inl (List.mem_of_getElem? (i := 1499) (by decide +kernel))
theorem mf_X11_lean : MFv yX11_lean cX11_lean 4 (some .int) 2 := ⟨List.mem_of_getElem? (i := 1500) (by decide +kernel), List.mem_of_getElem? (i := 1501) (by decide +kernel), List.mem_of_getElem? (i := 67) (by decide +kernel), List.mem_of_getElem? (i := 1502) (by decide +kernel), by decide +kernel, by decide +kernel, by decide +kernel⟩
theorem lk_L_185 : LK RL 185 yX11_play := Or.inl (List.mem_of_getElem? (i := 1503) (by decide +kernel))
theorem mf_X11_play : MFv yX11_play cX11_play 5 (some .int) 0 := ⟨List.mem_of_getElem? (i := 1504) (by decide +kernel), List.mem_of_getElem? (i := 1505) (by decide +kernel), List.mem_of_getElem? (i := 67) (by decide +kernel), List.mem_of_getElem? (i := 1506) (by decide +kernel), by decide +kernel, by decide +kernel, by decide +kernel⟩
theorem lk_L_188 : LK RL 188 yX11_ofPan := Or.inl (List.mem_of_getElem? (i := 1550) (by decide +kernel))
theorem mf_X11_ofPan : MFv yX11_ofPan cX11_ofPan 3 (some .int) 2 := ⟨List.mem_of_getElem? (i := 1551) (by decide +kernel), List.mem_of_getElem? (i := 1552) (by decide +kernel), List.mem_of_getElem? (i := 67) (by decide +kernel), List.mem_of_getElem? (i := 1553) (by decide +kernel), by decide +kernel, by decide +kernel, by decide +kernel⟩
theorem lk_L_191 : LK RL 191 yX11_off := Or.inl (List.mem_of_getElem? (i := 1558) (by decide +kernel))
theorem mf_X11_off : MFv yX11_off cX11_off 3 (some .int) 2 := ⟨List.mem_of_getElem? (i := 1559) (by decide +kernel), List.mem_of_getElem? (i := 1560) (by decide +kernel), List.mem_of_getElem? (i := 67) (by decide +kernel), List.mem_of_getElem? (i := 1561) (by decide +kernel), by decide +kernel, by decide +kernel, by decide +kernel⟩
theorem lk_L_194 : LK RL 194 yX11_ofPhrase := Or.inl (List.mem_of_getElem? (i := 1562) (by decide +kernel))
theorem mf_X11_ofPhrase : MFv yX11_ofPhrase cX11_ofPhrase 3 (some .int) 2 := ⟨List.mem_of_getElem? (i := 1563) (by decide +kernel), List.mem_of_getElem? (i := 1564) (by decide +kernel), List.mem_of_getElem? (i := 67) (by decide +kernel), List.mem_of_getElem? (i := 1565) (by decide +kernel), by decide +kernel, by decide +kernel, by decide +kernel⟩
theorem lk_L_197 : LK RL 197 yX11_ofPlayer := Or.inl (List.mem_of_getElem? (i := 1570) (by decide +kernel))
theorem mf_X11_ofPlayer : MFv yX11_ofPlayer cX11_ofPlayer 3 (some .int) 2 := ⟨List.mem_of_getElem? (i := 1571) (by decide +kernel), List.mem_of_getElem? (i := 1572) (by decide +kernel), List.mem_of_getElem? (i := 67) (by decide +kernel), List.mem_of_getElem? (i := 1573) (by decide +kernel), by decide +kernel, by decide +kernel, by decide +kernel⟩
theorem lk_L_200 : LK RL 200 yX11_memory := Or.inl (List.mem_of_getElem? (i := 1578) (by decide +kernel))
theorem mf_X11_memory : MFv yX11_memory cX11_memory 3 (some .int) 2 := ⟨List.mem_of_getElem? (i := 1579) (by decide +kernel), List.mem_of_getElem? (i := 1580) (by decide +kernel), List.mem_of_getElem? (i := 67) (by decide +kernel), List.mem_of_getElem? (i := 1581) (by decide +kernel), by decide +kernel, by decide +kernel, by decide +kernel⟩
theorem lk_L_203 : LK RL 203 yX11_ofPlace := Or.inl (List.mem_of_getElem? (i := 1582) (by decide +kernel))
theorem mf_X11_ofPlace : MFv yX11_ofPlace cX11_ofPlace 3 (some .int) 2 := ⟨List.mem_of_getElem? (i := 1583) (by decide +kernel), List.mem_of_getElem? (i := 1584) (by decide +kernel), List.mem_of_getElem? (i := 67) (by decide +kernel), List.mem_of_getElem? (i := 1585) (by decide +kernel), by decide +kernel, by decide +kernel, by decide +kernel⟩
theorem lk_L_206 : LK RL 206 yX11_mark_ := Or.inl (List.mem_of_getElem? (i := 1586) (by decide +kernel))
theorem mf_X11_mark_ : MFv yX11_mark_ cX11_mark_ 2 (some .int) 1 := ⟨List.mem_of_getElem? (i := 1587) (by decide +kernel), List.mem_of_getElem? (i := 1588) (by decide +kernel), List.mem_of_getElem? (i := 67) (by decide +kernel), List.mem_of_getElem? (i := 1589) (by decide +kernel), by decide +kernel, by decide +kernel, by decide +kernel⟩
theorem lk_L_209 : LK RL 209 yX11_ofRound := Or.inl (List.mem_of_getElem? (i := 1590) (by decide +kernel))
theorem mf_X11_ofRound : MFv yX11_ofRound cX11_ofRound 3 (some .int) 2 := ⟨List.mem_of_getElem? (i := 1591) (by decide +kernel), List.mem_of_getElem? (i := 1592) (by decide +kernel), List.mem_of_getElem? (i := 67) (by decide +kernel), List.mem_of_getElem? (i := 1593) (by decide +kernel), by decide +kernel, by decide +kernel, by decide +kernel⟩
theorem lk_L_212 : LK RL 212 yX11_many := Or.inl (List.mem_of_getElem? (i := 1594) (by decide +kernel))
theorem mf_X11_many : MFv yX11_many cX11_many 2 (some .int) 1 := ⟨List.mem_of_getElem? (i := 1595) (by decide +kernel), List.mem_of_getElem? (i := 1596) (by decide +kernel), List.mem_of_getElem? (i := 67) (by decide +kernel), List.mem_of_getElem? (i := 1597) (by decide +kernel), by decide +kernel, by decide +kernel, by decide +kernel⟩
theorem lk_L_213 : LK RL 213 yX7_meanMemory := Or.inl (List.mem_of_getElem? (i := 274) (by decide +kernel))
theorem mf_X7_meanMemory : MFv yX7_meanMemory cX7_meanMemory 5 (some .double) 0 := ⟨List.mem_of_getElem? (i := 275) (by decide +kernel), List.mem_of_getElem? (i := 276) (by decide +kernel), List.mem_of_getElem? (i := 61) (by decide +kernel), List.mem_of_getElem? (i := 277) (by decide +kernel), by decide +kernel, by decide +kernel, by decide +kernel⟩
theorem lk_L_217 : LK RL 217 yX11_meanMemory := Or.inl (List.mem_of_getElem? (i := 1606) (by decide +kernel))
theorem mf_X11_meanMemory : MFv yX11_meanMemory cX11_meanMemory 6 (some .double) 0 := ⟨List.mem_of_getElem? (i := 1607) (by decide +kernel), List.mem_of_getElem? (i := 1608) (by decide +kernel), List.mem_of_getElem? (i := 67) (by decide +kernel), List.mem_of_getElem? (i := 1609) (by decide +kernel), by decide +kernel, by decide +kernel, by decide +kernel⟩
theorem lk_L_220 : LK RL 220 yX11_wouldTotal := Or.inl (List.mem_of_getElem? (i := 1610) (by decide +kernel))
theorem mf_X11_wouldTotal : MFv yX11_wouldTotal cX11_wouldTotal 2 (some .int) 1 := ⟨List.mem_of_getElem? (i := 1611) (by decide +kernel), List.mem_of_getElem? (i := 1612) (by decide +kernel), List.mem_of_getElem? (i := 67) (by decide +kernel), List.mem_of_getElem? (i := 1613) (by decide +kernel), by decide +kernel, by decide +kernel, by decide +kernel⟩
theorem lk_L_223 : LK RL 223 yX11_bestOrder := Or.inl (List.mem_of_getElem? (i := 1619) (by decide +kernel))
theorem mf_X11_bestOrder : MFv yX11_bestOrder cX11_bestOrder 1 (some .int) 0 := ⟨List.mem_of_getElem? (i := 1620) (by decide +kernel), List.mem_of_getElem? (i := 1621) (by decide +kernel), List.mem_of_getElem? (i := 67) (by decide +kernel), List.mem_of_getElem? (i := 1622) (by decide +kernel), by decide +kernel, by decide +kernel, by decide +kernel⟩
theorem lk_L_226 : LK RL 226 yX11_bestTeach := Or.inl (List.mem_of_getElem? (i := 1630) (by decide +kernel))
theorem mf_X11_bestTeach : MFv yX11_bestTeach cX11_bestTeach 3 (some .int) 2 := ⟨List.mem_of_getElem? (i := 1631) (by decide +kernel), List.mem_of_getElem? (i := 1632) (by decide +kernel), List.mem_of_getElem? (i := 67) (by decide +kernel), List.mem_of_getElem? (i := 1633) (by decide +kernel), by decide +kernel, by decide +kernel, by decide +kernel⟩
theorem lk_L_229 : LK RL 229 yX11_blowsFor := Or.inl (List.mem_of_getElem? (i := 1638) (by decide +kernel))
theorem mf_X11_blowsFor : MFv yX11_blowsFor cX11_blowsFor 2 (some .int) 1 := ⟨List.mem_of_getElem? (i := 1639) (by decide +kernel), List.mem_of_getElem? (i := 1640) (by decide +kernel), List.mem_of_getElem? (i := 67) (by decide +kernel), List.mem_of_getElem? (i := 1641) (by decide +kernel), by decide +kernel, by decide +kernel, by decide +kernel⟩
theorem lk_L_230 : LK RL 230 yX7_digest := Or.inl (List.mem_of_getElem? (i := 278) (by decide +kernel))
theorem mf_X7_digest : MFv yX7_digest cX7_digest 4 (some .long) 0 := ⟨List.mem_of_getElem? (i := 279) (by decide +kernel), List.mem_of_getElem? (i := 280) (by decide +kernel), List.mem_of_getElem? (i := 61) (by decide +kernel), List.mem_of_getElem? (i := 281) (by decide +kernel), by decide +kernel, by decide +kernel, by decide +kernel⟩
theorem lk_L_234 : LK RL 234 yX11_digest := Or.inl (List.mem_of_getElem? (i := 1655) (by decide +kernel))
theorem mf_X11_digest : MFv yX11_digest cX11_digest 5 (some .long) 0 := ⟨List.mem_of_getElem? (i := 1656) (by decide +kernel), List.mem_of_getElem? (i := 1657) (by decide +kernel), List.mem_of_getElem? (i := 67) (by decide +kernel), List.mem_of_getElem? (i := 1658) (by decide +kernel), by decide +kernel, by decide +kernel, by decide +kernel⟩
set_option maxRecDepth 100000 in
set_option maxHeartbeats 4000000 in
theorem lc_pan (h : LX p l e s m meth c b xs z o ad X A) (hW : GW z ad (GC z ad N0 X u00) H) (hS : va_S (zA z) s.heap H locs) (hl : lv_has ls 9 [(4, .int 0), (0, .ref b), (1, .ref (ad 0 0)), (2, .ref (A 0)), (3, .ref (A 13))]) (hag : ∃ k w9 b9, R_pan (xs 1) k w9 0 ∧ g_X11_pan (mW w9) (xs 1) = some (b9, k) ∧ (k = 0 → w9 = b9))
    (kk : ∀ (H1 : Heap) (locs1 : List Loc) (ls1 : Array Slot), va_S (zA z) s.heap H1 locs1 → lv_has ls1 9 [(4, .int 0), (0, .ref b)] → W p l e room_1 s m #[Value.ref b] below meth c H1 locs1 5000 50000 Q (F0 m 2307 ls1 [])) : W p l e room_1 s m #[Value.ref b] below meth c H locs 1000 10000 Q (F0 m 188 ls []) := by
  obtain ⟨hx, hb, hml, hown, hSW, hSO, hfl, hA, hF, hA9, hX, hbl, hbA⟩ := h
  obtain ⟨hT, hK, hST, hB0⟩ := id hSW
  refine lv_aload_n hx hb dL_law_188 rfl (lv_at hl 2 rfl) ?_
  refine lv_aload_n hx hb dL_law_189 rfl (lv_at hl 1 rfl) ?_
  refine lv_iload hx hb dL_law_190 (lv_at hl 0 rfl) ?_
  refine lv_iconst (v := 1) hx hb dL_law_192 (by decide) ?_
  refine lv_iadd hx hb dL_law_193 ?_
  refine lv_topc (v := 1) (by decide) ?_
  refine va_sld hx hb hX hbl hbA hS (inb_in (by decide)) dL_law_194 ?_
  rw [show xs ((1 : Int32).toNatClampNeg) = xs 1 from rfl]
  refine lv_aload_n hx hb dL_law_195 rfl (lv_at hl 4 rfl) ?_
  obtain ⟨k, w9, b9, hR, hg, hkb⟩ := hag
  refine va_calli (nb_runW (As := [.ref (ad 0 0), .int (xs 1), .ref (A 13)]) (rest := []) hx hb hml hown hSW hSO hS hW (w_pan l hfl z o ad X hA A 0 hF (xs 1) hR) mfw_pan (List.mem_of_getElem? (i := 663) (by decide +kernel)) rfl ⟨rfl, rfl⟩ ⟨Nat.le_of_ble_eq_true rfl, Nat.le_of_ble_eq_true rfl⟩ hl.1 (Nat.le_of_ble_eq_true rfl) dL_law_196 ⟨Nat.le_of_ble_eq_true rfl, Nat.le_of_ble_eq_true rfl⟩) hS (fun _ _ h => h) (fun _ h => h) (fun r9 v9 t9 H locs ht9 _ hp9 hW9 _ _ hS => ?_)
  obtain ⟨hk9, hA2, hF2⟩ := hp9
  rw [hk9]
  subst ht9
  obtain ⟨ad2, G2⟩ := v9
  replace hW : GW z ad2 G2 t9.heap := hW9
  refine lv_istore (lv' := [(5, .int k), (4, .int 0), (0, .ref b), (1, .ref (ad 0 0)), (2, .ref (A 0)), (3, .ref (A 13))]) hx hb dL_law_199 hl (by decide) rfl (fun ls hl => ?_)
  refine lv_aload_n hx hb dL_law_201 rfl (lv_at hl 4 rfl) ?_
  refine lv_aload_n hx hb dL_law_202 rfl (lv_at hl 2 rfl) ?_
  refine lv_iload hx hb dL_law_203 (lv_at hl 1 rfl) ?_
  refine lv_iconst (v := 1) hx hb dL_law_205 (by decide) ?_
  refine lv_iadd hx hb dL_law_206 ?_
  refine lv_topc (v := 1) (by decide) ?_
  refine va_sld hx hb hX hbl hbA hS (inb_in (by decide)) dL_law_207 ?_
  rw [show xs ((1 : Int32).toNatClampNeg) = xs 1 from rfl]
  refine va_calli (nb_runVo (As := [.int (xs 1)]) (rest := []) hA2 hx hb hml hown hSW hSO hS hW (m_X11_pan l z ad2 G2 hA2 A (mW w9) hF2 o hA9 (xs 1) hg) mf_X11_pan lk_L_122 hF2.1 rfl rfl ⟨rfl, rfl⟩ ⟨Nat.le_of_ble_eq_true rfl, Nat.le_of_ble_eq_true rfl⟩ hl.1 (Nat.le_of_ble_eq_true rfl) dL_law_208 ⟨Nat.le_of_ble_eq_true rfl, Nat.le_of_ble_eq_true rfl⟩) hS (fun _ _ h => h) (fun _ h => h) (fun r7 G3 t7 H locs ht7 _ hp7 hW7 _ _ hS => ?_)
  obtain ⟨hk7, hFw⟩ := hp7
  rw [hk7]
  subst ht7
  replace hW : GW z ad2 G3 t7.heap := hW7
  refine lv_istore (lv' := [(6, .int b9), (5, .int k), (4, .int 0), (0, .ref b), (1, .ref (ad 0 0)), (2, .ref (A 0)), (3, .ref (A 13))]) hx hb dL_law_211 hl (by decide) rfl (fun ls hl => ?_)
  refine lv_aload_n hx hb dL_law_213 rfl (lv_at hl 5 rfl) ?_
  obtain ⟨⟨fs9, hk0, -⟩, -⟩ := id hFw
  refine nb_ci (nb_runVr (As := []) (rest := []) hA2 hx hb hml hown hSW hS hW (m_thrown9 l z _ _ hA2 A hFw) mf_X11_thrown lk_L_123 hk0 rfl rfl ⟨rfl, rfl⟩ ⟨Nat.le_of_ble_eq_true rfl, Nat.le_of_ble_eq_true rfl⟩ hl.1 (Nat.le_of_ble_eq_true rfl) dL_law_214 ⟨Nat.le_of_ble_eq_true rfl, Nat.le_of_ble_eq_true rfl⟩) hS (fun H locs hW hS => ?_)
  refine lv_iload hx hb dL_law_217 (lv_at hl 1 rfl) ?_
  refine lv_icmp_eq (tgt := 224) hx hb dL_law_219 (by decide) (fun _ => ?_) (fun hc => absurd rfl hc)
  refine lv_iload hx hb dL_law_224 (lv_at hl 1 rfl) ?_
  refine lv_if_ne (tgt := 241) hx hb dL_law_226 (by decide) (fun ck => ?_) (fun ck => ?_)
  · refine lv_goto (tgt := 2307) hx hb dL_law_241 (by decide) ?_
    refine W.widen (k := 5000) (n := 50000) (Nat.le_of_ble_eq_true rfl) (Nat.le_of_ble_eq_true rfl) ?_
    exact kk _ _ _ hS (lv_sub hl [2, 3] rfl)
  · refine lv_aload_n hx hb dL_law_229 rfl (lv_at hl 6 rfl) ?_
    refine lv_iconst (v := 0) hx hb dL_law_230 (by decide) ?_
    refine nb_outr hA2 hx hb hK hW hFw dL_law_231 ?_
    rw [show fmO (mW w9) = b9.toInt64 from congrArg Int32.toInt64 (hkb ck)]
    refine lv_iload hx hb dL_law_232 (lv_at hl 0 rfl) ?_
    refine lv_i2l hx hb dL_law_234 rfl ?_
    refine W.lcmp hx hb dL_law_235 ?_
    refine lv_topc (v := 0) lg_self ?_
    refine lv_if_eq (tgt := 241) hx hb dL_law_236 (by decide) (fun _ => ?_) (fun hc => absurd rfl hc)
    refine lv_goto (tgt := 2307) hx hb dL_law_241 (by decide) ?_
    refine W.widen (k := 5000) (n := 50000) (Nat.le_of_ble_eq_true rfl) (Nat.le_of_ble_eq_true rfl) ?_
    exact kk _ _ _ hS (lv_sub hl [2, 3] rfl)
set_option maxRecDepth 100000 in
set_option maxHeartbeats 4000000 in
theorem lc_blow (h : LX p l e s m meth c b xs z o ad X A) (hW : GW z ad (GC z ad N0 X u00) H) (hS : va_S (zA z) s.heap H locs) (hl : lv_has ls 9 [(4, .int 0), (0, .ref b), (1, .ref (ad 0 0)), (2, .ref (A 0)), (3, .ref (A 13))]) (hag : ∃ k w9 b9, R_blow (xs 1) (xs 2) (xs 3) k w9 0 ∧ g_X11_blow (mW w9) (xs 1) (xs 2) (xs 3) = some (b9, k) ∧ k ≠ 0)
    (kk : ∀ (H1 : Heap) (locs1 : List Loc) (ls1 : Array Slot), va_S (zA z) s.heap H1 locs1 → lv_has ls1 9 [(4, .int 0), (0, .ref b)] → W p l e room_1 s m #[Value.ref b] below meth c H1 locs1 5000 50000 Q (F0 m 2307 ls1 [])) : W p l e room_1 s m #[Value.ref b] below meth c H locs 1000 10000 Q (F0 m 244 ls []) := by
  obtain ⟨hx, hb, hml, hown, hSW, hSO, hfl, hA, hF, hA9, hX, hbl, hbA⟩ := h
  obtain ⟨hT, hK, hST, hB0⟩ := id hSW
  refine lv_aload_n hx hb dL_law_244 rfl (lv_at hl 2 rfl) ?_
  refine lv_aload_n hx hb dL_law_245 rfl (lv_at hl 1 rfl) ?_
  refine lv_iload hx hb dL_law_246 (lv_at hl 0 rfl) ?_
  refine lv_iconst (v := 1) hx hb dL_law_248 (by decide) ?_
  refine lv_iadd hx hb dL_law_249 ?_
  refine lv_topc (v := 1) (by decide) ?_
  refine va_sld hx hb hX hbl hbA hS (inb_in (by decide)) dL_law_250 ?_
  rw [show xs ((1 : Int32).toNatClampNeg) = xs 1 from rfl]
  refine lv_aload_n hx hb dL_law_251 rfl (lv_at hl 1 rfl) ?_
  refine lv_iload hx hb dL_law_252 (lv_at hl 0 rfl) ?_
  refine lv_iconst (v := 2) hx hb dL_law_254 (by decide) ?_
  refine lv_iadd hx hb dL_law_255 ?_
  refine lv_topc (v := 2) (by decide) ?_
  refine va_sld hx hb hX hbl hbA hS (inb_in (by decide)) dL_law_256 ?_
  rw [show xs ((2 : Int32).toNatClampNeg) = xs 2 from rfl]
  refine lv_aload_n hx hb dL_law_257 rfl (lv_at hl 1 rfl) ?_
  refine lv_iload hx hb dL_law_258 (lv_at hl 0 rfl) ?_
  refine lv_iconst (v := 3) hx hb dL_law_260 (by decide) ?_
  refine lv_iadd hx hb dL_law_261 ?_
  refine lv_topc (v := 3) (by decide) ?_
  refine va_sld hx hb hX hbl hbA hS (inb_in (by decide)) dL_law_262 ?_
  rw [show xs ((3 : Int32).toNatClampNeg) = xs 3 from rfl]
  refine lv_aload_n hx hb dL_law_263 rfl (lv_at hl 4 rfl) ?_
  obtain ⟨k, w9, b9, hR, hg, hkb⟩ := hag
  refine va_calli (nb_runW (As := [.ref (ad 0 0), .int (xs 1), .int (xs 2), .int (xs 3), .ref (A 13)]) (rest := []) hx hb hml hown hSW hSO hS hW (w_blow l hfl z o ad X hA A 0 hF (xs 1) (xs 2) (xs 3) hR) mfw_blow (List.mem_of_getElem? (i := 677) (by decide +kernel)) rfl ⟨rfl, rfl⟩ ⟨Nat.le_of_ble_eq_true rfl, Nat.le_of_ble_eq_true rfl⟩ hl.1 (Nat.le_of_ble_eq_true rfl) dL_law_264 ⟨Nat.le_of_ble_eq_true rfl, Nat.le_of_ble_eq_true rfl⟩) hS (fun _ _ h => h) (fun _ h => h) (fun r9 v9 t9 H locs ht9 _ hp9 hW9 _ _ hS => ?_)
  obtain ⟨hk9, hA2, hF2⟩ := hp9
  rw [hk9]
  subst ht9
  obtain ⟨ad2, G2⟩ := v9
  replace hW : GW z ad2 G2 t9.heap := hW9
  refine lv_istore (lv' := [(5, .int k), (4, .int 0), (0, .ref b), (1, .ref (ad 0 0)), (2, .ref (A 0)), (3, .ref (A 13))]) hx hb dL_law_267 hl (by decide) rfl (fun ls hl => ?_)
  refine lv_aload_n hx hb dL_law_269 rfl (lv_at hl 4 rfl) ?_
  refine lv_aload_n hx hb dL_law_270 rfl (lv_at hl 2 rfl) ?_
  refine lv_iload hx hb dL_law_271 (lv_at hl 1 rfl) ?_
  refine lv_iconst (v := 1) hx hb dL_law_273 (by decide) ?_
  refine lv_iadd hx hb dL_law_274 ?_
  refine lv_topc (v := 1) (by decide) ?_
  refine va_sld hx hb hX hbl hbA hS (inb_in (by decide)) dL_law_275 ?_
  rw [show xs ((1 : Int32).toNatClampNeg) = xs 1 from rfl]
  refine lv_aload_n hx hb dL_law_276 rfl (lv_at hl 2 rfl) ?_
  refine lv_iload hx hb dL_law_277 (lv_at hl 1 rfl) ?_
  refine lv_iconst (v := 2) hx hb dL_law_279 (by decide) ?_
  refine lv_iadd hx hb dL_law_280 ?_
  refine lv_topc (v := 2) (by decide) ?_
  refine va_sld hx hb hX hbl hbA hS (inb_in (by decide)) dL_law_281 ?_
  rw [show xs ((2 : Int32).toNatClampNeg) = xs 2 from rfl]
  refine lv_aload_n hx hb dL_law_282 rfl (lv_at hl 2 rfl) ?_
  refine lv_iload hx hb dL_law_283 (lv_at hl 1 rfl) ?_
  refine lv_iconst (v := 3) hx hb dL_law_285 (by decide) ?_
  refine lv_iadd hx hb dL_law_286 ?_
  refine lv_topc (v := 3) (by decide) ?_
  refine va_sld hx hb hX hbl hbA hS (inb_in (by decide)) dL_law_287 ?_
  rw [show xs ((3 : Int32).toNatClampNeg) = xs 3 from rfl]
  refine va_calli (nb_runVr (As := [.int (xs 1), .int (xs 2), .int (xs 3)]) (rest := []) hA2 hx hb hml hown hSW hS hW (m_X11_blow l z ad2 G2 hA2 A (mW w9) hF2 (xs 1) (xs 2) (xs 3) hg) mf_X11_blow lk_L_129 hF2.1 rfl rfl ⟨rfl, rfl⟩ ⟨Nat.le_of_ble_eq_true rfl, Nat.le_of_ble_eq_true rfl⟩ hl.1 (Nat.le_of_ble_eq_true rfl) dL_law_288 ⟨Nat.le_of_ble_eq_true rfl, Nat.le_of_ble_eq_true rfl⟩) hS (fun _ _ h => h) (fun _ h => h) (fun r7 G3 t7 H locs ht7 _ hp7 hW7 _ _ hS => ?_)
  obtain ⟨hk7, hFw⟩ := hp7
  rw [hk7]
  subst ht7
  replace hW : GW z ad2 G3 t7.heap := hW7
  refine lv_istore (lv' := [(6, .int b9), (5, .int k), (4, .int 0), (0, .ref b), (1, .ref (ad 0 0)), (2, .ref (A 0)), (3, .ref (A 13))]) hx hb dL_law_291 hl (by decide) rfl (fun ls hl => ?_)
  refine lv_aload_n hx hb dL_law_293 rfl (lv_at hl 5 rfl) ?_
  obtain ⟨⟨fs9, hk0, -⟩, -⟩ := id hFw
  refine nb_ci (nb_runVr (As := []) (rest := []) hA2 hx hb hml hown hSW hS hW (m_thrown9 l z _ _ hA2 A hFw) mf_X11_thrown lk_L_123 hk0 rfl rfl ⟨rfl, rfl⟩ ⟨Nat.le_of_ble_eq_true rfl, Nat.le_of_ble_eq_true rfl⟩ hl.1 (Nat.le_of_ble_eq_true rfl) dL_law_294 ⟨Nat.le_of_ble_eq_true rfl, Nat.le_of_ble_eq_true rfl⟩) hS (fun H locs hW hS => ?_)
  refine lv_iload hx hb dL_law_297 (lv_at hl 1 rfl) ?_
  refine lv_icmp_eq (tgt := 304) hx hb dL_law_299 (by decide) (fun _ => ?_) (fun hc => absurd rfl hc)
  refine lv_iload hx hb dL_law_304 (lv_at hl 1 rfl) ?_
  refine lv_if_ne (tgt := 321) hx hb dL_law_306 (by decide) (fun _ => ?_) (fun ck => absurd ck hkb)
  refine lv_goto (tgt := 2307) hx hb dL_law_321 (by decide) ?_
  refine W.widen (k := 5000) (n := 50000) (Nat.le_of_ble_eq_true rfl) (Nat.le_of_ble_eq_true rfl) ?_
  exact kk _ _ _ hS (lv_sub hl [2, 3] rfl)
set_option maxRecDepth 100000 in
set_option maxHeartbeats 4000000 in
theorem lc_burn (h : LX p l e s m meth c b xs z o ad X A) (hW : GW z ad (GC z ad N0 X u00) H) (hS : va_S (zA z) s.heap H locs) (hl : lv_has ls 9 [(4, .int 0), (0, .ref b), (1, .ref (ad 0 0)), (2, .ref (A 0)), (3, .ref (A 13))]) (hag : ∃ k w9 b9, R_burn (xs 1) k w9 0 ∧ g_X11_burn (mW w9) (xs 1) = some (b9, k) ∧ k ≠ 0)
    (kk : ∀ (H1 : Heap) (locs1 : List Loc) (ls1 : Array Slot), va_S (zA z) s.heap H1 locs1 → lv_has ls1 9 [(4, .int 0), (0, .ref b)] → W p l e room_1 s m #[Value.ref b] below meth c H1 locs1 5000 50000 Q (F0 m 2307 ls1 [])) : W p l e room_1 s m #[Value.ref b] below meth c H locs 1000 10000 Q (F0 m 324 ls []) := by
  obtain ⟨hx, hb, hml, hown, hSW, hSO, hfl, hA, hF, hA9, hX, hbl, hbA⟩ := h
  obtain ⟨hT, hK, hST, hB0⟩ := id hSW
  refine lv_aload_n hx hb dL_law_324 rfl (lv_at hl 2 rfl) ?_
  refine lv_aload_n hx hb dL_law_325 rfl (lv_at hl 1 rfl) ?_
  refine lv_iload hx hb dL_law_326 (lv_at hl 0 rfl) ?_
  refine lv_iconst (v := 1) hx hb dL_law_328 (by decide) ?_
  refine lv_iadd hx hb dL_law_329 ?_
  refine lv_topc (v := 1) (by decide) ?_
  refine va_sld hx hb hX hbl hbA hS (inb_in (by decide)) dL_law_330 ?_
  rw [show xs ((1 : Int32).toNatClampNeg) = xs 1 from rfl]
  refine lv_aload_n hx hb dL_law_331 rfl (lv_at hl 4 rfl) ?_
  obtain ⟨k, w9, b9, hR, hg, hkb⟩ := hag
  refine va_calli (nb_runW (As := [.ref (ad 0 0), .int (xs 1), .ref (A 13)]) (rest := []) hx hb hml hown hSW hSO hS hW (w_burn l hfl z o ad X hA A 0 hF (xs 1) hR) mfw_burn (List.mem_of_getElem? (i := 692) (by decide +kernel)) rfl ⟨rfl, rfl⟩ ⟨Nat.le_of_ble_eq_true rfl, Nat.le_of_ble_eq_true rfl⟩ hl.1 (Nat.le_of_ble_eq_true rfl) dL_law_332 ⟨Nat.le_of_ble_eq_true rfl, Nat.le_of_ble_eq_true rfl⟩) hS (fun _ _ h => h) (fun _ h => h) (fun r9 v9 t9 H locs ht9 _ hp9 hW9 _ _ hS => ?_)
  obtain ⟨hk9, hA2, hF2⟩ := hp9
  rw [hk9]
  subst ht9
  obtain ⟨ad2, G2⟩ := v9
  replace hW : GW z ad2 G2 t9.heap := hW9
  refine lv_istore (lv' := [(5, .int k), (4, .int 0), (0, .ref b), (1, .ref (ad 0 0)), (2, .ref (A 0)), (3, .ref (A 13))]) hx hb dL_law_335 hl (by decide) rfl (fun ls hl => ?_)
  refine lv_aload_n hx hb dL_law_337 rfl (lv_at hl 4 rfl) ?_
  refine lv_aload_n hx hb dL_law_338 rfl (lv_at hl 2 rfl) ?_
  refine lv_iload hx hb dL_law_339 (lv_at hl 1 rfl) ?_
  refine lv_iconst (v := 1) hx hb dL_law_341 (by decide) ?_
  refine lv_iadd hx hb dL_law_342 ?_
  refine lv_topc (v := 1) (by decide) ?_
  refine va_sld hx hb hX hbl hbA hS (inb_in (by decide)) dL_law_343 ?_
  rw [show xs ((1 : Int32).toNatClampNeg) = xs 1 from rfl]
  refine va_calli (nb_runVr (As := [.int (xs 1)]) (rest := []) hA2 hx hb hml hown hSW hS hW (m_X11_burn l z ad2 G2 hA2 A (mW w9) hF2 (xs 1) hg) mf_X11_burn lk_L_132 hF2.1 rfl rfl ⟨rfl, rfl⟩ ⟨Nat.le_of_ble_eq_true rfl, Nat.le_of_ble_eq_true rfl⟩ hl.1 (Nat.le_of_ble_eq_true rfl) dL_law_344 ⟨Nat.le_of_ble_eq_true rfl, Nat.le_of_ble_eq_true rfl⟩) hS (fun _ _ h => h) (fun _ h => h) (fun r7 G3 t7 H locs ht7 _ hp7 hW7 _ _ hS => ?_)
  obtain ⟨hk7, hFw⟩ := hp7
  rw [hk7]
  subst ht7
  replace hW : GW z ad2 G3 t7.heap := hW7
  refine lv_istore (lv' := [(6, .int b9), (5, .int k), (4, .int 0), (0, .ref b), (1, .ref (ad 0 0)), (2, .ref (A 0)), (3, .ref (A 13))]) hx hb dL_law_347 hl (by decide) rfl (fun ls hl => ?_)
  refine lv_aload_n hx hb dL_law_349 rfl (lv_at hl 5 rfl) ?_
  obtain ⟨⟨fs9, hk0, -⟩, -⟩ := id hFw
  refine nb_ci (nb_runVr (As := []) (rest := []) hA2 hx hb hml hown hSW hS hW (m_thrown9 l z _ _ hA2 A hFw) mf_X11_thrown lk_L_123 hk0 rfl rfl ⟨rfl, rfl⟩ ⟨Nat.le_of_ble_eq_true rfl, Nat.le_of_ble_eq_true rfl⟩ hl.1 (Nat.le_of_ble_eq_true rfl) dL_law_350 ⟨Nat.le_of_ble_eq_true rfl, Nat.le_of_ble_eq_true rfl⟩) hS (fun H locs hW hS => ?_)
  refine lv_iload hx hb dL_law_353 (lv_at hl 1 rfl) ?_
  refine lv_icmp_eq (tgt := 360) hx hb dL_law_355 (by decide) (fun _ => ?_) (fun hc => absurd rfl hc)
  refine lv_iload hx hb dL_law_360 (lv_at hl 1 rfl) ?_
  refine lv_if_ne (tgt := 377) hx hb dL_law_362 (by decide) (fun _ => ?_) (fun ck => absurd ck hkb)
  refine lv_goto (tgt := 2307) hx hb dL_law_377 (by decide) ?_
  refine W.widen (k := 5000) (n := 50000) (Nat.le_of_ble_eq_true rfl) (Nat.le_of_ble_eq_true rfl) ?_
  exact kk _ _ _ hS (lv_sub hl [2, 3] rfl)
set_option maxRecDepth 100000 in
set_option maxHeartbeats 4000000 in
theorem lc_tuner (h : LX p l e s m meth c b xs z o ad X A) (hW : GW z ad (GC z ad N0 X u00) H) (hS : va_S (zA z) s.heap H locs) (hl : lv_has ls 9 [(4, .int 0), (0, .ref b), (1, .ref (ad 0 0)), (2, .ref (A 0)), (3, .ref (A 13))]) (hag : ∃ k w9 b9, R_tuner (xs 1) (xs 2) k w9 0 ∧ g_X11_tuner (mW w9) (xs 1) (xs 2) = some (b9, k) ∧ k ≠ 0)
    (kk : ∀ (H1 : Heap) (locs1 : List Loc) (ls1 : Array Slot), va_S (zA z) s.heap H1 locs1 → lv_has ls1 9 [(4, .int 0), (0, .ref b)] → W p l e room_1 s m #[Value.ref b] below meth c H1 locs1 5000 50000 Q (F0 m 2307 ls1 [])) : W p l e room_1 s m #[Value.ref b] below meth c H locs 1000 10000 Q (F0 m 380 ls []) := by
  obtain ⟨hx, hb, hml, hown, hSW, hSO, hfl, hA, hF, hA9, hX, hbl, hbA⟩ := h
  obtain ⟨hT, hK, hST, hB0⟩ := id hSW
  refine lv_aload_n hx hb dL_law_380 rfl (lv_at hl 2 rfl) ?_
  refine lv_aload_n hx hb dL_law_381 rfl (lv_at hl 1 rfl) ?_
  refine lv_iload hx hb dL_law_382 (lv_at hl 0 rfl) ?_
  refine lv_iconst (v := 1) hx hb dL_law_384 (by decide) ?_
  refine lv_iadd hx hb dL_law_385 ?_
  refine lv_topc (v := 1) (by decide) ?_
  refine va_sld hx hb hX hbl hbA hS (inb_in (by decide)) dL_law_386 ?_
  rw [show xs ((1 : Int32).toNatClampNeg) = xs 1 from rfl]
  refine lv_aload_n hx hb dL_law_387 rfl (lv_at hl 1 rfl) ?_
  refine lv_iload hx hb dL_law_388 (lv_at hl 0 rfl) ?_
  refine lv_iconst (v := 2) hx hb dL_law_390 (by decide) ?_
  refine lv_iadd hx hb dL_law_391 ?_
  refine lv_topc (v := 2) (by decide) ?_
  refine va_sld hx hb hX hbl hbA hS (inb_in (by decide)) dL_law_392 ?_
  rw [show xs ((2 : Int32).toNatClampNeg) = xs 2 from rfl]
  refine lv_aload_n hx hb dL_law_393 rfl (lv_at hl 4 rfl) ?_
  obtain ⟨k, w9, b9, hR, hg, hkb⟩ := hag
  refine va_calli (nb_runW (As := [.ref (ad 0 0), .int (xs 1), .int (xs 2), .ref (A 13)]) (rest := []) hx hb hml hown hSW hSO hS hW (w_tuner l hfl z o ad X hA A 0 hF (xs 1) (xs 2) hR) mfw_tuner (List.mem_of_getElem? (i := 703) (by decide +kernel)) rfl ⟨rfl, rfl⟩ ⟨Nat.le_of_ble_eq_true rfl, Nat.le_of_ble_eq_true rfl⟩ hl.1 (Nat.le_of_ble_eq_true rfl) dL_law_394 ⟨Nat.le_of_ble_eq_true rfl, Nat.le_of_ble_eq_true rfl⟩) hS (fun _ _ h => h) (fun _ h => h) (fun r9 v9 t9 H locs ht9 _ hp9 hW9 _ _ hS => ?_)
  obtain ⟨hk9, hA2, hF2⟩ := hp9
  rw [hk9]
  subst ht9
  obtain ⟨ad2, G2⟩ := v9
  replace hW : GW z ad2 G2 t9.heap := hW9
  refine lv_istore (lv' := [(5, .int k), (4, .int 0), (0, .ref b), (1, .ref (ad 0 0)), (2, .ref (A 0)), (3, .ref (A 13))]) hx hb dL_law_397 hl (by decide) rfl (fun ls hl => ?_)
  refine lv_aload_n hx hb dL_law_399 rfl (lv_at hl 4 rfl) ?_
  refine lv_aload_n hx hb dL_law_400 rfl (lv_at hl 2 rfl) ?_
  refine lv_iload hx hb dL_law_401 (lv_at hl 1 rfl) ?_
  refine lv_iconst (v := 1) hx hb dL_law_403 (by decide) ?_
  refine lv_iadd hx hb dL_law_404 ?_
  refine lv_topc (v := 1) (by decide) ?_
  refine va_sld hx hb hX hbl hbA hS (inb_in (by decide)) dL_law_405 ?_
  rw [show xs ((1 : Int32).toNatClampNeg) = xs 1 from rfl]
  refine lv_aload_n hx hb dL_law_406 rfl (lv_at hl 2 rfl) ?_
  refine lv_iload hx hb dL_law_407 (lv_at hl 1 rfl) ?_
  refine lv_iconst (v := 2) hx hb dL_law_409 (by decide) ?_
  refine lv_iadd hx hb dL_law_410 ?_
  refine lv_topc (v := 2) (by decide) ?_
  refine va_sld hx hb hX hbl hbA hS (inb_in (by decide)) dL_law_411 ?_
  rw [show xs ((2 : Int32).toNatClampNeg) = xs 2 from rfl]
  refine va_calli (nb_runVr (As := [.int (xs 1), .int (xs 2)]) (rest := []) hA2 hx hb hml hown hSW hS hW (m_X11_tuner l z ad2 G2 hA2 A (mW w9) hF2 (xs 1) (xs 2) hg) mf_X11_tuner lk_L_136 hF2.1 rfl rfl ⟨rfl, rfl⟩ ⟨Nat.le_of_ble_eq_true rfl, Nat.le_of_ble_eq_true rfl⟩ hl.1 (Nat.le_of_ble_eq_true rfl) dL_law_412 ⟨Nat.le_of_ble_eq_true rfl, Nat.le_of_ble_eq_true rfl⟩) hS (fun _ _ h => h) (fun _ h => h) (fun r7 G3 t7 H locs ht7 _ hp7 hW7 _ _ hS => ?_)
  obtain ⟨hk7, hFw⟩ := hp7
  rw [hk7]
  subst ht7
  replace hW : GW z ad2 G3 t7.heap := hW7
  refine lv_istore (lv' := [(6, .int b9), (5, .int k), (4, .int 0), (0, .ref b), (1, .ref (ad 0 0)), (2, .ref (A 0)), (3, .ref (A 13))]) hx hb dL_law_415 hl (by decide) rfl (fun ls hl => ?_)
  refine lv_aload_n hx hb dL_law_417 rfl (lv_at hl 5 rfl) ?_
  obtain ⟨⟨fs9, hk0, -⟩, -⟩ := id hFw
  refine nb_ci (nb_runVr (As := []) (rest := []) hA2 hx hb hml hown hSW hS hW (m_thrown9 l z _ _ hA2 A hFw) mf_X11_thrown lk_L_123 hk0 rfl rfl ⟨rfl, rfl⟩ ⟨Nat.le_of_ble_eq_true rfl, Nat.le_of_ble_eq_true rfl⟩ hl.1 (Nat.le_of_ble_eq_true rfl) dL_law_418 ⟨Nat.le_of_ble_eq_true rfl, Nat.le_of_ble_eq_true rfl⟩) hS (fun H locs hW hS => ?_)
  refine lv_iload hx hb dL_law_421 (lv_at hl 1 rfl) ?_
  refine lv_icmp_eq (tgt := 428) hx hb dL_law_423 (by decide) (fun _ => ?_) (fun hc => absurd rfl hc)
  refine lv_iload hx hb dL_law_428 (lv_at hl 1 rfl) ?_
  refine lv_if_ne (tgt := 445) hx hb dL_law_430 (by decide) (fun _ => ?_) (fun ck => absurd ck hkb)
  refine lv_goto (tgt := 2307) hx hb dL_law_445 (by decide) ?_
  refine W.widen (k := 5000) (n := 50000) (Nat.le_of_ble_eq_true rfl) (Nat.le_of_ble_eq_true rfl) ?_
  exact kk _ _ _ hS (lv_sub hl [2, 3] rfl)
set_option maxRecDepth 100000 in
set_option maxHeartbeats 4000000 in
theorem lc_cover (h : LX p l e s m meth c b xs z o ad X A) (hW : GW z ad (GC z ad N0 X u00) H) (hS : va_S (zA z) s.heap H locs) (hl : lv_has ls 9 [(4, .int 0), (0, .ref b), (1, .ref (ad 0 0)), (2, .ref (A 0)), (3, .ref (A 13))]) (hag : ∀ {q : Int32}, q = 0 ∨ q = 1 → ∃ r8 u8 t8, f_X7_cover N0 u00 q = some (r8, u8) ∧ g_X11_cover (mW 0) q = some (r8, t8))
    (kk : ∀ (H1 : Heap) (locs1 : List Loc) (ls1 : Array Slot), va_S (zA z) s.heap H1 locs1 → lv_has ls1 9 [(4, .int 0), (0, .ref b)] → W p l e room_1 s m #[Value.ref b] below meth c H1 locs1 5000 50000 Q (F0 m 2307 ls1 [])) : W p l e room_1 s m #[Value.ref b] below meth c H locs 1000 10000 Q (F0 m 448 ls []) := by
  obtain ⟨hx, hb, hml, hown, hSW, hSO, hfl, hA, hF, hA9, hX, hbl, hbA⟩ := h
  obtain ⟨hT, hK, hST, hB0⟩ := id hSW
  refine lv_aload_n hx hb dL_law_448 rfl (lv_at hl 2 rfl) ?_
  refine lv_aload_n hx hb dL_law_449 rfl (lv_at hl 1 rfl) ?_
  refine lv_iload hx hb dL_law_450 (lv_at hl 0 rfl) ?_
  refine lv_iconst (v := 1) hx hb dL_law_452 (by decide) ?_
  refine lv_iadd hx hb dL_law_453 ?_
  refine lv_topc (v := 1) (by decide) ?_
  refine va_sld hx hb hX hbl hbA hS (inb_in (by decide)) dL_law_454 ?_
  rw [show xs ((1 : Int32).toNatClampNeg) = xs 1 from rfl]
  refine lv_if_eq (tgt := 462) hx hb dL_law_455 (by decide) (fun cz => ?_) (fun cz => ?_)
  · refine lv_iconst (v := 0) hx hb dL_law_462 (by decide) ?_
    obtain ⟨r8, u8, t8, hf, hg⟩ := hag (Or.inl rfl)
    refine nb_ci (nb_runV (As := [.int 0]) (rest := []) (kd := 0) (k := 0) hx hb hml hown hSW hS hW (c_X7_cover l z ad N0 X u00 0 hf) mf_X7_cover lk_L_137 (by rfl) rfl rfl ⟨rfl, rfl⟩ ⟨Nat.le_of_ble_eq_true rfl, Nat.le_of_ble_eq_true rfl⟩ hl.1 (Nat.le_of_ble_eq_true rfl) dL_law_463 ⟨Nat.le_of_ble_eq_true rfl, Nat.le_of_ble_eq_true rfl⟩) hS (fun H locs hW hS => ?_)
    have hF2 := hF.gc (ad' := ad) (N' := N0) (u' := u8)
    have hA2 := hA
    refine lv_aload_n hx hb dL_law_466 rfl (lv_at hl 3 rfl) ?_
    refine lv_aload_n hx hb dL_law_467 rfl (lv_at hl 1 rfl) ?_
    refine lv_iload hx hb dL_law_468 (lv_at hl 0 rfl) ?_
    refine lv_iconst (v := 1) hx hb dL_law_470 (by decide) ?_
    refine lv_iadd hx hb dL_law_471 ?_
    refine lv_topc (v := 1) (by decide) ?_
    refine va_sld hx hb hX hbl hbA hS (inb_in (by decide)) dL_law_472 ?_
    rw [show xs ((1 : Int32).toNatClampNeg) = xs 1 from rfl]
    refine lv_if_eq (tgt := 480) hx hb dL_law_473 (by decide) (fun _ => ?_) (fun hc => absurd cz hc)
    refine lv_iconst (v := 0) hx hb dL_law_480 (by decide) ?_
    refine va_calli (nb_runVr (As := [.int 0]) (rest := [.int r8]) hA2 hx hb hml hown hSW hS hW (m_X11_cover l z ad _ hA2 A (mW 0) hF2 0 hg) mf_X11_cover lk_L_141 hF2.1 rfl rfl ⟨rfl, rfl⟩ ⟨Nat.le_of_ble_eq_true rfl, Nat.le_of_ble_eq_true rfl⟩ hl.1 (Nat.le_of_ble_eq_true rfl) dL_law_481 ⟨Nat.le_of_ble_eq_true rfl, Nat.le_of_ble_eq_true rfl⟩) hS (fun _ _ h => h) (fun _ h => h) (fun r7 G3 t7 H locs ht7 _ hp7 hW7 _ _ hS => ?_)
    obtain ⟨hk7, hFw⟩ := hp7
    rw [hk7]
    subst ht7
    replace hW : GW z ad G3 t7.heap := hW7
    refine lv_icmp_eq (tgt := 2307) hx hb dL_law_484 (by decide) (fun _ => ?_) (fun hc => absurd rfl hc)
    refine W.widen (k := 5000) (n := 50000) (Nat.le_of_ble_eq_true rfl) (Nat.le_of_ble_eq_true rfl) ?_
    exact kk _ _ _ hS (lv_sub hl [0, 1] rfl)
  · refine lv_iconst (v := 1) hx hb dL_law_458 (by decide) ?_
    refine lv_goto (tgt := 463) hx hb dL_law_459 (by decide) ?_
    obtain ⟨r8, u8, t8, hf, hg⟩ := hag (Or.inr rfl)
    refine nb_ci (nb_runV (As := [.int 1]) (rest := []) (kd := 0) (k := 0) hx hb hml hown hSW hS hW (c_X7_cover l z ad N0 X u00 1 hf) mf_X7_cover lk_L_137 (by rfl) rfl rfl ⟨rfl, rfl⟩ ⟨Nat.le_of_ble_eq_true rfl, Nat.le_of_ble_eq_true rfl⟩ hl.1 (Nat.le_of_ble_eq_true rfl) dL_law_463 ⟨Nat.le_of_ble_eq_true rfl, Nat.le_of_ble_eq_true rfl⟩) hS (fun H locs hW hS => ?_)
    have hF2 := hF.gc (ad' := ad) (N' := N0) (u' := u8)
    have hA2 := hA
    refine lv_aload_n hx hb dL_law_466 rfl (lv_at hl 3 rfl) ?_
    refine lv_aload_n hx hb dL_law_467 rfl (lv_at hl 1 rfl) ?_
    refine lv_iload hx hb dL_law_468 (lv_at hl 0 rfl) ?_
    refine lv_iconst (v := 1) hx hb dL_law_470 (by decide) ?_
    refine lv_iadd hx hb dL_law_471 ?_
    refine lv_topc (v := 1) (by decide) ?_
    refine va_sld hx hb hX hbl hbA hS (inb_in (by decide)) dL_law_472 ?_
    rw [show xs ((1 : Int32).toNatClampNeg) = xs 1 from rfl]
    refine lv_if_eq (tgt := 480) hx hb dL_law_473 (by decide) (fun hc => absurd hc cz) (fun _ => ?_)
    refine lv_iconst (v := 1) hx hb dL_law_476 (by decide) ?_
    refine lv_goto (tgt := 481) hx hb dL_law_477 (by decide) ?_
    refine va_calli (nb_runVr (As := [.int 1]) (rest := [.int r8]) hA2 hx hb hml hown hSW hS hW (m_X11_cover l z ad _ hA2 A (mW 0) hF2 1 hg) mf_X11_cover lk_L_141 hF2.1 rfl rfl ⟨rfl, rfl⟩ ⟨Nat.le_of_ble_eq_true rfl, Nat.le_of_ble_eq_true rfl⟩ hl.1 (Nat.le_of_ble_eq_true rfl) dL_law_481 ⟨Nat.le_of_ble_eq_true rfl, Nat.le_of_ble_eq_true rfl⟩) hS (fun _ _ h => h) (fun _ h => h) (fun r7 G3 t7 H locs ht7 _ hp7 hW7 _ _ hS => ?_)
    obtain ⟨hk7, hFw⟩ := hp7
    rw [hk7]
    subst ht7
    replace hW : GW z ad G3 t7.heap := hW7
    refine lv_icmp_eq (tgt := 2307) hx hb dL_law_484 (by decide) (fun _ => ?_) (fun hc => absurd rfl hc)
    refine W.widen (k := 5000) (n := 50000) (Nat.le_of_ble_eq_true rfl) (Nat.le_of_ble_eq_true rfl) ?_
    exact kk _ _ _ hS (lv_sub hl [0, 1] rfl)
set_option maxRecDepth 100000 in
set_option maxHeartbeats 4000000 in
theorem lc_phrase (h : LX p l e s m meth c b xs z o ad X A) (hW : GW z ad (GC z ad N0 X u00) H) (hS : va_S (zA z) s.heap H locs) (hl : lv_has ls 9 [(4, .int 0), (0, .ref b), (1, .ref (ad 0 0)), (2, .ref (A 0)), (3, .ref (A 13))]) (hag : ∃ k w9 b9, R_phrase (xs 1) (xs 2) (xs 3) k w9 0 ∧ g_X11_phrase (mW w9) (xs 1) (xs 2) (xs 3) = some (b9, k) ∧ (k = 0 → w9 = b9))
    (kk : ∀ (H1 : Heap) (locs1 : List Loc) (ls1 : Array Slot), va_S (zA z) s.heap H1 locs1 → lv_has ls1 9 [(4, .int 0), (0, .ref b)] → W p l e room_1 s m #[Value.ref b] below meth c H1 locs1 5000 50000 Q (F0 m 2307 ls1 [])) : W p l e room_1 s m #[Value.ref b] below meth c H locs 1000 10000 Q (F0 m 489 ls []) := by
  obtain ⟨hx, hb, hml, hown, hSW, hSO, hfl, hA, hF, hA9, hX, hbl, hbA⟩ := h
  obtain ⟨hT, hK, hST, hB0⟩ := id hSW
  refine lv_aload_n hx hb dL_law_489 rfl (lv_at hl 2 rfl) ?_
  refine lv_aload_n hx hb dL_law_490 rfl (lv_at hl 1 rfl) ?_
  refine lv_iload hx hb dL_law_491 (lv_at hl 0 rfl) ?_
  refine lv_iconst (v := 1) hx hb dL_law_493 (by decide) ?_
  refine lv_iadd hx hb dL_law_494 ?_
  refine lv_topc (v := 1) (by decide) ?_
  refine va_sld hx hb hX hbl hbA hS (inb_in (by decide)) dL_law_495 ?_
  rw [show xs ((1 : Int32).toNatClampNeg) = xs 1 from rfl]
  refine lv_aload_n hx hb dL_law_496 rfl (lv_at hl 1 rfl) ?_
  refine lv_iload hx hb dL_law_497 (lv_at hl 0 rfl) ?_
  refine lv_iconst (v := 2) hx hb dL_law_499 (by decide) ?_
  refine lv_iadd hx hb dL_law_500 ?_
  refine lv_topc (v := 2) (by decide) ?_
  refine va_sld hx hb hX hbl hbA hS (inb_in (by decide)) dL_law_501 ?_
  rw [show xs ((2 : Int32).toNatClampNeg) = xs 2 from rfl]
  refine lv_aload_n hx hb dL_law_502 rfl (lv_at hl 1 rfl) ?_
  refine lv_iload hx hb dL_law_503 (lv_at hl 0 rfl) ?_
  refine lv_iconst (v := 3) hx hb dL_law_505 (by decide) ?_
  refine lv_iadd hx hb dL_law_506 ?_
  refine lv_topc (v := 3) (by decide) ?_
  refine va_sld hx hb hX hbl hbA hS (inb_in (by decide)) dL_law_507 ?_
  rw [show xs ((3 : Int32).toNatClampNeg) = xs 3 from rfl]
  refine lv_aload_n hx hb dL_law_508 rfl (lv_at hl 4 rfl) ?_
  obtain ⟨k, w9, b9, hR, hg, hkb⟩ := hag
  refine va_calli (nb_runW (As := [.ref (ad 0 0), .int (xs 1), .int (xs 2), .int (xs 3), .ref (A 13)]) (rest := []) hx hb hml hown hSW hSO hS hW (w_phrase l hfl z o ad X hA A 0 hF (xs 1) (xs 2) (xs 3) hR) mfw_phrase (List.mem_of_getElem? (i := 711) (by decide +kernel)) rfl ⟨rfl, rfl⟩ ⟨Nat.le_of_ble_eq_true rfl, Nat.le_of_ble_eq_true rfl⟩ hl.1 (Nat.le_of_ble_eq_true rfl) dL_law_509 ⟨Nat.le_of_ble_eq_true rfl, Nat.le_of_ble_eq_true rfl⟩) hS (fun _ _ h => h) (fun _ h => h) (fun r9 v9 t9 H locs ht9 _ hp9 hW9 _ _ hS => ?_)
  obtain ⟨hk9, hA2, hF2⟩ := hp9
  rw [hk9]
  subst ht9
  obtain ⟨ad2, G2⟩ := v9
  replace hW : GW z ad2 G2 t9.heap := hW9
  refine lv_istore (lv' := [(5, .int k), (4, .int 0), (0, .ref b), (1, .ref (ad 0 0)), (2, .ref (A 0)), (3, .ref (A 13))]) hx hb dL_law_512 hl (by decide) rfl (fun ls hl => ?_)
  refine lv_aload_n hx hb dL_law_514 rfl (lv_at hl 4 rfl) ?_
  refine lv_aload_n hx hb dL_law_515 rfl (lv_at hl 2 rfl) ?_
  refine lv_iload hx hb dL_law_516 (lv_at hl 1 rfl) ?_
  refine lv_iconst (v := 1) hx hb dL_law_518 (by decide) ?_
  refine lv_iadd hx hb dL_law_519 ?_
  refine lv_topc (v := 1) (by decide) ?_
  refine va_sld hx hb hX hbl hbA hS (inb_in (by decide)) dL_law_520 ?_
  rw [show xs ((1 : Int32).toNatClampNeg) = xs 1 from rfl]
  refine lv_aload_n hx hb dL_law_521 rfl (lv_at hl 2 rfl) ?_
  refine lv_iload hx hb dL_law_522 (lv_at hl 1 rfl) ?_
  refine lv_iconst (v := 2) hx hb dL_law_524 (by decide) ?_
  refine lv_iadd hx hb dL_law_525 ?_
  refine lv_topc (v := 2) (by decide) ?_
  refine va_sld hx hb hX hbl hbA hS (inb_in (by decide)) dL_law_526 ?_
  rw [show xs ((2 : Int32).toNatClampNeg) = xs 2 from rfl]
  refine lv_aload_n hx hb dL_law_527 rfl (lv_at hl 2 rfl) ?_
  refine lv_iload hx hb dL_law_528 (lv_at hl 1 rfl) ?_
  refine lv_iconst (v := 3) hx hb dL_law_530 (by decide) ?_
  refine lv_iadd hx hb dL_law_531 ?_
  refine lv_topc (v := 3) (by decide) ?_
  refine va_sld hx hb hX hbl hbA hS (inb_in (by decide)) dL_law_532 ?_
  rw [show xs ((3 : Int32).toNatClampNeg) = xs 3 from rfl]
  refine va_calli (nb_runVo (As := [.int (xs 1), .int (xs 2), .int (xs 3)]) (rest := []) hA2 hx hb hml hown hSW hSO hS hW (m_X11_phrase l z ad2 G2 hA2 A (mW w9) hF2 o hA9 (xs 1) (xs 2) (xs 3) hg) mf_X11_phrase lk_L_144 hF2.1 rfl rfl ⟨rfl, rfl⟩ ⟨Nat.le_of_ble_eq_true rfl, Nat.le_of_ble_eq_true rfl⟩ hl.1 (Nat.le_of_ble_eq_true rfl) dL_law_533 ⟨Nat.le_of_ble_eq_true rfl, Nat.le_of_ble_eq_true rfl⟩) hS (fun _ _ h => h) (fun _ h => h) (fun r7 G3 t7 H locs ht7 _ hp7 hW7 _ _ hS => ?_)
  obtain ⟨hk7, hFw⟩ := hp7
  rw [hk7]
  subst ht7
  replace hW : GW z ad2 G3 t7.heap := hW7
  refine lv_istore (lv' := [(6, .int b9), (5, .int k), (4, .int 0), (0, .ref b), (1, .ref (ad 0 0)), (2, .ref (A 0)), (3, .ref (A 13))]) hx hb dL_law_536 hl (by decide) rfl (fun ls hl => ?_)
  refine lv_aload_n hx hb dL_law_538 rfl (lv_at hl 5 rfl) ?_
  obtain ⟨⟨fs9, hk0, -⟩, -⟩ := id hFw
  refine nb_ci (nb_runVr (As := []) (rest := []) hA2 hx hb hml hown hSW hS hW (m_thrown9 l z _ _ hA2 A hFw) mf_X11_thrown lk_L_123 hk0 rfl rfl ⟨rfl, rfl⟩ ⟨Nat.le_of_ble_eq_true rfl, Nat.le_of_ble_eq_true rfl⟩ hl.1 (Nat.le_of_ble_eq_true rfl) dL_law_539 ⟨Nat.le_of_ble_eq_true rfl, Nat.le_of_ble_eq_true rfl⟩) hS (fun H locs hW hS => ?_)
  refine lv_iload hx hb dL_law_542 (lv_at hl 1 rfl) ?_
  refine lv_icmp_eq (tgt := 549) hx hb dL_law_544 (by decide) (fun _ => ?_) (fun hc => absurd rfl hc)
  refine lv_iload hx hb dL_law_549 (lv_at hl 1 rfl) ?_
  refine lv_if_ne (tgt := 566) hx hb dL_law_551 (by decide) (fun ck => ?_) (fun ck => ?_)
  · refine lv_goto (tgt := 2307) hx hb dL_law_566 (by decide) ?_
    refine W.widen (k := 5000) (n := 50000) (Nat.le_of_ble_eq_true rfl) (Nat.le_of_ble_eq_true rfl) ?_
    exact kk _ _ _ hS (lv_sub hl [2, 3] rfl)
  · refine lv_aload_n hx hb dL_law_554 rfl (lv_at hl 6 rfl) ?_
    refine lv_iconst (v := 0) hx hb dL_law_555 (by decide) ?_
    refine nb_outr hA2 hx hb hK hW hFw dL_law_556 ?_
    rw [show fmO (mW w9) = b9.toInt64 from congrArg Int32.toInt64 (hkb ck)]
    refine lv_iload hx hb dL_law_557 (lv_at hl 0 rfl) ?_
    refine lv_i2l hx hb dL_law_559 rfl ?_
    refine W.lcmp hx hb dL_law_560 ?_
    refine lv_topc (v := 0) lg_self ?_
    refine lv_if_eq (tgt := 566) hx hb dL_law_561 (by decide) (fun _ => ?_) (fun hc => absurd rfl hc)
    refine lv_goto (tgt := 2307) hx hb dL_law_566 (by decide) ?_
    refine W.widen (k := 5000) (n := 50000) (Nat.le_of_ble_eq_true rfl) (Nat.le_of_ble_eq_true rfl) ?_
    exact kk _ _ _ hS (lv_sub hl [2, 3] rfl)
set_option maxRecDepth 100000 in
set_option maxHeartbeats 4000000 in
theorem lc_change (h : LX p l e s m meth c b xs z o ad X A) (hW : GW z ad (GC z ad N0 X u00) H) (hS : va_S (zA z) s.heap H locs) (hl : lv_has ls 9 [(4, .int 0), (0, .ref b), (1, .ref (ad 0 0)), (2, .ref (A 0)), (3, .ref (A 13))]) (hag : ∃ k w9 b9, R_change (xs 1) (xs 2) (xs 3) k w9 0 ∧ g_X11_change (mW w9) (xs 1) (xs 2) (xs 3) = some (b9, k) ∧ k ≠ 0)
    (kk : ∀ (H1 : Heap) (locs1 : List Loc) (ls1 : Array Slot), va_S (zA z) s.heap H1 locs1 → lv_has ls1 9 [(4, .int 0), (0, .ref b)] → W p l e room_1 s m #[Value.ref b] below meth c H1 locs1 5000 50000 Q (F0 m 2307 ls1 [])) : W p l e room_1 s m #[Value.ref b] below meth c H locs 1000 10000 Q (F0 m 569 ls []) := by
  obtain ⟨hx, hb, hml, hown, hSW, hSO, hfl, hA, hF, hA9, hX, hbl, hbA⟩ := h
  obtain ⟨hT, hK, hST, hB0⟩ := id hSW
  refine lv_aload_n hx hb dL_law_569 rfl (lv_at hl 2 rfl) ?_
  refine lv_aload_n hx hb dL_law_570 rfl (lv_at hl 1 rfl) ?_
  refine lv_iload hx hb dL_law_571 (lv_at hl 0 rfl) ?_
  refine lv_iconst (v := 1) hx hb dL_law_573 (by decide) ?_
  refine lv_iadd hx hb dL_law_574 ?_
  refine lv_topc (v := 1) (by decide) ?_
  refine va_sld hx hb hX hbl hbA hS (inb_in (by decide)) dL_law_575 ?_
  rw [show xs ((1 : Int32).toNatClampNeg) = xs 1 from rfl]
  refine lv_aload_n hx hb dL_law_576 rfl (lv_at hl 1 rfl) ?_
  refine lv_iload hx hb dL_law_577 (lv_at hl 0 rfl) ?_
  refine lv_iconst (v := 2) hx hb dL_law_579 (by decide) ?_
  refine lv_iadd hx hb dL_law_580 ?_
  refine lv_topc (v := 2) (by decide) ?_
  refine va_sld hx hb hX hbl hbA hS (inb_in (by decide)) dL_law_581 ?_
  rw [show xs ((2 : Int32).toNatClampNeg) = xs 2 from rfl]
  refine lv_aload_n hx hb dL_law_582 rfl (lv_at hl 1 rfl) ?_
  refine lv_iload hx hb dL_law_583 (lv_at hl 0 rfl) ?_
  refine lv_iconst (v := 3) hx hb dL_law_585 (by decide) ?_
  refine lv_iadd hx hb dL_law_586 ?_
  refine lv_topc (v := 3) (by decide) ?_
  refine va_sld hx hb hX hbl hbA hS (inb_in (by decide)) dL_law_587 ?_
  rw [show xs ((3 : Int32).toNatClampNeg) = xs 3 from rfl]
  refine lv_aload_n hx hb dL_law_588 rfl (lv_at hl 4 rfl) ?_
  obtain ⟨k, w9, b9, hR, hg, hkb⟩ := hag
  refine va_calli (nb_runW (As := [.ref (ad 0 0), .int (xs 1), .int (xs 2), .int (xs 3), .ref (A 13)]) (rest := []) hx hb hml hown hSW hSO hS hW (w_change l hfl z o ad X hA A 0 hF (xs 1) (xs 2) (xs 3) hR) mfw_change (List.mem_of_getElem? (i := 747) (by decide +kernel)) rfl ⟨rfl, rfl⟩ ⟨Nat.le_of_ble_eq_true rfl, Nat.le_of_ble_eq_true rfl⟩ hl.1 (Nat.le_of_ble_eq_true rfl) dL_law_589 ⟨Nat.le_of_ble_eq_true rfl, Nat.le_of_ble_eq_true rfl⟩) hS (fun _ _ h => h) (fun _ h => h) (fun r9 v9 t9 H locs ht9 _ hp9 hW9 _ _ hS => ?_)
  obtain ⟨hk9, hA2, hF2⟩ := hp9
  rw [hk9]
  subst ht9
  obtain ⟨ad2, G2⟩ := v9
  replace hW : GW z ad2 G2 t9.heap := hW9
  refine lv_istore (lv' := [(5, .int k), (4, .int 0), (0, .ref b), (1, .ref (ad 0 0)), (2, .ref (A 0)), (3, .ref (A 13))]) hx hb dL_law_592 hl (by decide) rfl (fun ls hl => ?_)
  refine lv_aload_n hx hb dL_law_594 rfl (lv_at hl 4 rfl) ?_
  refine lv_aload_n hx hb dL_law_595 rfl (lv_at hl 2 rfl) ?_
  refine lv_iload hx hb dL_law_596 (lv_at hl 1 rfl) ?_
  refine lv_iconst (v := 1) hx hb dL_law_598 (by decide) ?_
  refine lv_iadd hx hb dL_law_599 ?_
  refine lv_topc (v := 1) (by decide) ?_
  refine va_sld hx hb hX hbl hbA hS (inb_in (by decide)) dL_law_600 ?_
  rw [show xs ((1 : Int32).toNatClampNeg) = xs 1 from rfl]
  refine lv_aload_n hx hb dL_law_601 rfl (lv_at hl 2 rfl) ?_
  refine lv_iload hx hb dL_law_602 (lv_at hl 1 rfl) ?_
  refine lv_iconst (v := 2) hx hb dL_law_604 (by decide) ?_
  refine lv_iadd hx hb dL_law_605 ?_
  refine lv_topc (v := 2) (by decide) ?_
  refine va_sld hx hb hX hbl hbA hS (inb_in (by decide)) dL_law_606 ?_
  rw [show xs ((2 : Int32).toNatClampNeg) = xs 2 from rfl]
  refine lv_aload_n hx hb dL_law_607 rfl (lv_at hl 2 rfl) ?_
  refine lv_iload hx hb dL_law_608 (lv_at hl 1 rfl) ?_
  refine lv_iconst (v := 3) hx hb dL_law_610 (by decide) ?_
  refine lv_iadd hx hb dL_law_611 ?_
  refine lv_topc (v := 3) (by decide) ?_
  refine va_sld hx hb hX hbl hbA hS (inb_in (by decide)) dL_law_612 ?_
  rw [show xs ((3 : Int32).toNatClampNeg) = xs 3 from rfl]
  refine va_calli (nb_runVr (As := [.int (xs 1), .int (xs 2), .int (xs 3)]) (rest := []) hA2 hx hb hml hown hSW hS hW (m_X11_change l z ad2 G2 hA2 A (mW w9) hF2 (xs 1) (xs 2) (xs 3) hg) mf_X11_change lk_L_147 hF2.1 rfl rfl ⟨rfl, rfl⟩ ⟨Nat.le_of_ble_eq_true rfl, Nat.le_of_ble_eq_true rfl⟩ hl.1 (Nat.le_of_ble_eq_true rfl) dL_law_613 ⟨Nat.le_of_ble_eq_true rfl, Nat.le_of_ble_eq_true rfl⟩) hS (fun _ _ h => h) (fun _ h => h) (fun r7 G3 t7 H locs ht7 _ hp7 hW7 _ _ hS => ?_)
  obtain ⟨hk7, hFw⟩ := hp7
  rw [hk7]
  subst ht7
  replace hW : GW z ad2 G3 t7.heap := hW7
  refine lv_istore (lv' := [(6, .int b9), (5, .int k), (4, .int 0), (0, .ref b), (1, .ref (ad 0 0)), (2, .ref (A 0)), (3, .ref (A 13))]) hx hb dL_law_616 hl (by decide) rfl (fun ls hl => ?_)
  refine lv_aload_n hx hb dL_law_618 rfl (lv_at hl 5 rfl) ?_
  obtain ⟨⟨fs9, hk0, -⟩, -⟩ := id hFw
  refine nb_ci (nb_runVr (As := []) (rest := []) hA2 hx hb hml hown hSW hS hW (m_thrown9 l z _ _ hA2 A hFw) mf_X11_thrown lk_L_123 hk0 rfl rfl ⟨rfl, rfl⟩ ⟨Nat.le_of_ble_eq_true rfl, Nat.le_of_ble_eq_true rfl⟩ hl.1 (Nat.le_of_ble_eq_true rfl) dL_law_619 ⟨Nat.le_of_ble_eq_true rfl, Nat.le_of_ble_eq_true rfl⟩) hS (fun H locs hW hS => ?_)
  refine lv_iload hx hb dL_law_622 (lv_at hl 1 rfl) ?_
  refine lv_icmp_eq (tgt := 629) hx hb dL_law_624 (by decide) (fun _ => ?_) (fun hc => absurd rfl hc)
  refine lv_iload hx hb dL_law_629 (lv_at hl 1 rfl) ?_
  refine lv_if_ne (tgt := 646) hx hb dL_law_631 (by decide) (fun _ => ?_) (fun ck => absurd ck hkb)
  refine lv_goto (tgt := 2307) hx hb dL_law_646 (by decide) ?_
  refine W.widen (k := 5000) (n := 50000) (Nat.le_of_ble_eq_true rfl) (Nat.le_of_ble_eq_true rfl) ?_
  exact kk _ _ _ hS (lv_sub hl [2, 3] rfl)
set_option maxRecDepth 100000 in
set_option maxHeartbeats 4000000 in
theorem lc_put (h : LX p l e s m meth c b xs z o ad X A) (hW : GW z ad (GC z ad N0 X u00) H) (hS : va_S (zA z) s.heap H locs) (hl : lv_has ls 9 [(4, .int 0), (0, .ref b), (1, .ref (ad 0 0)), (2, .ref (A 0)), (3, .ref (A 13))]) (hag : ∃ k w9 b9, R_put (xs 1) k w9 0 ∧ g_X11_put (mW w9) (xs 1) = some (b9, k) ∧ k ≠ 0)
    (kk : ∀ (H1 : Heap) (locs1 : List Loc) (ls1 : Array Slot), va_S (zA z) s.heap H1 locs1 → lv_has ls1 9 [(4, .int 0), (0, .ref b)] → W p l e room_1 s m #[Value.ref b] below meth c H1 locs1 5000 50000 Q (F0 m 2307 ls1 [])) : W p l e room_1 s m #[Value.ref b] below meth c H locs 1000 10000 Q (F0 m 649 ls []) := by
  obtain ⟨hx, hb, hml, hown, hSW, hSO, hfl, hA, hF, hA9, hX, hbl, hbA⟩ := h
  obtain ⟨hT, hK, hST, hB0⟩ := id hSW
  refine lv_aload_n hx hb dL_law_649 rfl (lv_at hl 2 rfl) ?_
  refine lv_aload_n hx hb dL_law_650 rfl (lv_at hl 1 rfl) ?_
  refine lv_iload hx hb dL_law_651 (lv_at hl 0 rfl) ?_
  refine lv_iconst (v := 1) hx hb dL_law_653 (by decide) ?_
  refine lv_iadd hx hb dL_law_654 ?_
  refine lv_topc (v := 1) (by decide) ?_
  refine va_sld hx hb hX hbl hbA hS (inb_in (by decide)) dL_law_655 ?_
  rw [show xs ((1 : Int32).toNatClampNeg) = xs 1 from rfl]
  refine lv_aload_n hx hb dL_law_656 rfl (lv_at hl 4 rfl) ?_
  obtain ⟨k, w9, b9, hR, hg, hkb⟩ := hag
  refine va_calli (nb_runW (As := [.ref (ad 0 0), .int (xs 1), .ref (A 13)]) (rest := []) hx hb hml hown hSW hSO hS hW (w_put l hfl z o ad X hA A 0 hF (xs 1) hR) mfw_put (List.mem_of_getElem? (i := 762) (by decide +kernel)) rfl ⟨rfl, rfl⟩ ⟨Nat.le_of_ble_eq_true rfl, Nat.le_of_ble_eq_true rfl⟩ hl.1 (Nat.le_of_ble_eq_true rfl) dL_law_657 ⟨Nat.le_of_ble_eq_true rfl, Nat.le_of_ble_eq_true rfl⟩) hS (fun _ _ h => h) (fun _ h => h) (fun r9 v9 t9 H locs ht9 _ hp9 hW9 _ _ hS => ?_)
  obtain ⟨hk9, hA2, hF2⟩ := hp9
  rw [hk9]
  subst ht9
  obtain ⟨ad2, G2⟩ := v9
  replace hW : GW z ad2 G2 t9.heap := hW9
  refine lv_istore (lv' := [(5, .int k), (4, .int 0), (0, .ref b), (1, .ref (ad 0 0)), (2, .ref (A 0)), (3, .ref (A 13))]) hx hb dL_law_660 hl (by decide) rfl (fun ls hl => ?_)
  refine lv_aload_n hx hb dL_law_662 rfl (lv_at hl 4 rfl) ?_
  refine lv_aload_n hx hb dL_law_663 rfl (lv_at hl 2 rfl) ?_
  refine lv_iload hx hb dL_law_664 (lv_at hl 1 rfl) ?_
  refine lv_iconst (v := 1) hx hb dL_law_666 (by decide) ?_
  refine lv_iadd hx hb dL_law_667 ?_
  refine lv_topc (v := 1) (by decide) ?_
  refine va_sld hx hb hX hbl hbA hS (inb_in (by decide)) dL_law_668 ?_
  rw [show xs ((1 : Int32).toNatClampNeg) = xs 1 from rfl]
  refine va_calli (nb_runVr (As := [.int (xs 1)]) (rest := []) hA2 hx hb hml hown hSW hS hW (m_X11_put l z ad2 G2 hA2 A (mW w9) hF2 (xs 1) hg) mf_X11_put lk_L_150 hF2.1 rfl rfl ⟨rfl, rfl⟩ ⟨Nat.le_of_ble_eq_true rfl, Nat.le_of_ble_eq_true rfl⟩ hl.1 (Nat.le_of_ble_eq_true rfl) dL_law_669 ⟨Nat.le_of_ble_eq_true rfl, Nat.le_of_ble_eq_true rfl⟩) hS (fun _ _ h => h) (fun _ h => h) (fun r7 G3 t7 H locs ht7 _ hp7 hW7 _ _ hS => ?_)
  obtain ⟨hk7, hFw⟩ := hp7
  rw [hk7]
  subst ht7
  replace hW : GW z ad2 G3 t7.heap := hW7
  refine lv_istore (lv' := [(6, .int b9), (5, .int k), (4, .int 0), (0, .ref b), (1, .ref (ad 0 0)), (2, .ref (A 0)), (3, .ref (A 13))]) hx hb dL_law_672 hl (by decide) rfl (fun ls hl => ?_)
  refine lv_aload_n hx hb dL_law_674 rfl (lv_at hl 5 rfl) ?_
  obtain ⟨⟨fs9, hk0, -⟩, -⟩ := id hFw
  refine nb_ci (nb_runVr (As := []) (rest := []) hA2 hx hb hml hown hSW hS hW (m_thrown9 l z _ _ hA2 A hFw) mf_X11_thrown lk_L_123 hk0 rfl rfl ⟨rfl, rfl⟩ ⟨Nat.le_of_ble_eq_true rfl, Nat.le_of_ble_eq_true rfl⟩ hl.1 (Nat.le_of_ble_eq_true rfl) dL_law_675 ⟨Nat.le_of_ble_eq_true rfl, Nat.le_of_ble_eq_true rfl⟩) hS (fun H locs hW hS => ?_)
  refine lv_iload hx hb dL_law_678 (lv_at hl 1 rfl) ?_
  refine lv_icmp_eq (tgt := 685) hx hb dL_law_680 (by decide) (fun _ => ?_) (fun hc => absurd rfl hc)
  refine lv_iload hx hb dL_law_685 (lv_at hl 1 rfl) ?_
  refine lv_if_ne (tgt := 702) hx hb dL_law_687 (by decide) (fun _ => ?_) (fun ck => absurd ck hkb)
  refine lv_goto (tgt := 2307) hx hb dL_law_702 (by decide) ?_
  refine W.widen (k := 5000) (n := 50000) (Nat.le_of_ble_eq_true rfl) (Nat.le_of_ble_eq_true rfl) ?_
  exact kk _ _ _ hS (lv_sub hl [2, 3] rfl)
set_option maxRecDepth 100000 in
set_option maxHeartbeats 4000000 in
theorem lc_cut (h : LX p l e s m meth c b xs z o ad X A) (hW : GW z ad (GC z ad N0 X u00) H) (hS : va_S (zA z) s.heap H locs) (hl : lv_has ls 9 [(4, .int 0), (0, .ref b), (1, .ref (ad 0 0)), (2, .ref (A 0)), (3, .ref (A 13))]) (hag : ∃ k w9 b9, R_cut (xs 1) k w9 0 ∧ g_X11_cut (mW w9) (xs 1) = some (b9, k) ∧ k ≠ 0)
    (kk : ∀ (H1 : Heap) (locs1 : List Loc) (ls1 : Array Slot), va_S (zA z) s.heap H1 locs1 → lv_has ls1 9 [(4, .int 0), (0, .ref b)] → W p l e room_1 s m #[Value.ref b] below meth c H1 locs1 5000 50000 Q (F0 m 2307 ls1 [])) : W p l e room_1 s m #[Value.ref b] below meth c H locs 1000 10000 Q (F0 m 705 ls []) := by
  obtain ⟨hx, hb, hml, hown, hSW, hSO, hfl, hA, hF, hA9, hX, hbl, hbA⟩ := h
  obtain ⟨hT, hK, hST, hB0⟩ := id hSW
  refine lv_aload_n hx hb dL_law_705 rfl (lv_at hl 2 rfl) ?_
  refine lv_aload_n hx hb dL_law_706 rfl (lv_at hl 1 rfl) ?_
  refine lv_iload hx hb dL_law_707 (lv_at hl 0 rfl) ?_
  refine lv_iconst (v := 1) hx hb dL_law_709 (by decide) ?_
  refine lv_iadd hx hb dL_law_710 ?_
  refine lv_topc (v := 1) (by decide) ?_
  refine va_sld hx hb hX hbl hbA hS (inb_in (by decide)) dL_law_711 ?_
  rw [show xs ((1 : Int32).toNatClampNeg) = xs 1 from rfl]
  refine lv_aload_n hx hb dL_law_712 rfl (lv_at hl 4 rfl) ?_
  obtain ⟨k, w9, b9, hR, hg, hkb⟩ := hag
  refine va_calli (nb_runW (As := [.ref (ad 0 0), .int (xs 1), .ref (A 13)]) (rest := []) hx hb hml hown hSW hSO hS hW (w_cut l hfl z o ad X hA A 0 hF (xs 1) hR) mfw_cut (List.mem_of_getElem? (i := 774) (by decide +kernel)) rfl ⟨rfl, rfl⟩ ⟨Nat.le_of_ble_eq_true rfl, Nat.le_of_ble_eq_true rfl⟩ hl.1 (Nat.le_of_ble_eq_true rfl) dL_law_713 ⟨Nat.le_of_ble_eq_true rfl, Nat.le_of_ble_eq_true rfl⟩) hS (fun _ _ h => h) (fun _ h => h) (fun r9 v9 t9 H locs ht9 _ hp9 hW9 _ _ hS => ?_)
  obtain ⟨hk9, hA2, hF2⟩ := hp9
  rw [hk9]
  subst ht9
  obtain ⟨ad2, G2⟩ := v9
  replace hW : GW z ad2 G2 t9.heap := hW9
  refine lv_istore (lv' := [(5, .int k), (4, .int 0), (0, .ref b), (1, .ref (ad 0 0)), (2, .ref (A 0)), (3, .ref (A 13))]) hx hb dL_law_716 hl (by decide) rfl (fun ls hl => ?_)
  refine lv_aload_n hx hb dL_law_718 rfl (lv_at hl 4 rfl) ?_
  refine lv_aload_n hx hb dL_law_719 rfl (lv_at hl 2 rfl) ?_
  refine lv_iload hx hb dL_law_720 (lv_at hl 1 rfl) ?_
  refine lv_iconst (v := 1) hx hb dL_law_722 (by decide) ?_
  refine lv_iadd hx hb dL_law_723 ?_
  refine lv_topc (v := 1) (by decide) ?_
  refine va_sld hx hb hX hbl hbA hS (inb_in (by decide)) dL_law_724 ?_
  rw [show xs ((1 : Int32).toNatClampNeg) = xs 1 from rfl]
  refine va_calli (nb_runVr (As := [.int (xs 1)]) (rest := []) hA2 hx hb hml hown hSW hS hW (m_X11_cut l z ad2 G2 hA2 A (mW w9) hF2 (xs 1) hg) mf_X11_cut lk_L_153 hF2.1 rfl rfl ⟨rfl, rfl⟩ ⟨Nat.le_of_ble_eq_true rfl, Nat.le_of_ble_eq_true rfl⟩ hl.1 (Nat.le_of_ble_eq_true rfl) dL_law_725 ⟨Nat.le_of_ble_eq_true rfl, Nat.le_of_ble_eq_true rfl⟩) hS (fun _ _ h => h) (fun _ h => h) (fun r7 G3 t7 H locs ht7 _ hp7 hW7 _ _ hS => ?_)
  obtain ⟨hk7, hFw⟩ := hp7
  rw [hk7]
  subst ht7
  replace hW : GW z ad2 G3 t7.heap := hW7
  refine lv_istore (lv' := [(6, .int b9), (5, .int k), (4, .int 0), (0, .ref b), (1, .ref (ad 0 0)), (2, .ref (A 0)), (3, .ref (A 13))]) hx hb dL_law_728 hl (by decide) rfl (fun ls hl => ?_)
  refine lv_aload_n hx hb dL_law_730 rfl (lv_at hl 5 rfl) ?_
  obtain ⟨⟨fs9, hk0, -⟩, -⟩ := id hFw
  refine nb_ci (nb_runVr (As := []) (rest := []) hA2 hx hb hml hown hSW hS hW (m_thrown9 l z _ _ hA2 A hFw) mf_X11_thrown lk_L_123 hk0 rfl rfl ⟨rfl, rfl⟩ ⟨Nat.le_of_ble_eq_true rfl, Nat.le_of_ble_eq_true rfl⟩ hl.1 (Nat.le_of_ble_eq_true rfl) dL_law_731 ⟨Nat.le_of_ble_eq_true rfl, Nat.le_of_ble_eq_true rfl⟩) hS (fun H locs hW hS => ?_)
  refine lv_iload hx hb dL_law_734 (lv_at hl 1 rfl) ?_
  refine lv_icmp_eq (tgt := 741) hx hb dL_law_736 (by decide) (fun _ => ?_) (fun hc => absurd rfl hc)
  refine lv_iload hx hb dL_law_741 (lv_at hl 1 rfl) ?_
  refine lv_if_ne (tgt := 758) hx hb dL_law_743 (by decide) (fun _ => ?_) (fun ck => absurd ck hkb)
  refine lv_goto (tgt := 2307) hx hb dL_law_758 (by decide) ?_
  refine W.widen (k := 5000) (n := 50000) (Nat.le_of_ble_eq_true rfl) (Nat.le_of_ble_eq_true rfl) ?_
  exact kk _ _ _ hS (lv_sub hl [2, 3] rfl)
set_option maxRecDepth 100000 in
set_option maxHeartbeats 4000000 in
theorem lc_player (h : LX p l e s m meth c b xs z o ad X A) (hW : GW z ad (GC z ad N0 X u00) H) (hS : va_S (zA z) s.heap H locs) (hl : lv_has ls 9 [(4, .int 0), (0, .ref b), (1, .ref (ad 0 0)), (2, .ref (A 0)), (3, .ref (A 13))]) (hag : ∃ k w9 b9, R_player (xs 1) (xs 2) (xs 3) k w9 0 ∧ g_X11_player (mW w9) (xs 1) (xs 2) (xs 3) = some (b9, k) ∧ (k = 0 → w9 = b9))
    (kk : ∀ (H1 : Heap) (locs1 : List Loc) (ls1 : Array Slot), va_S (zA z) s.heap H1 locs1 → lv_has ls1 9 [(4, .int 0), (0, .ref b)] → W p l e room_1 s m #[Value.ref b] below meth c H1 locs1 5000 50000 Q (F0 m 2307 ls1 [])) : W p l e room_1 s m #[Value.ref b] below meth c H locs 1000 10000 Q (F0 m 761 ls []) := by
  obtain ⟨hx, hb, hml, hown, hSW, hSO, hfl, hA, hF, hA9, hX, hbl, hbA⟩ := h
  obtain ⟨hT, hK, hST, hB0⟩ := id hSW
  refine lv_aload_n hx hb dL_law_761 rfl (lv_at hl 2 rfl) ?_
  refine lv_aload_n hx hb dL_law_762 rfl (lv_at hl 1 rfl) ?_
  refine lv_iload hx hb dL_law_763 (lv_at hl 0 rfl) ?_
  refine lv_iconst (v := 1) hx hb dL_law_765 (by decide) ?_
  refine lv_iadd hx hb dL_law_766 ?_
  refine lv_topc (v := 1) (by decide) ?_
  refine va_sld hx hb hX hbl hbA hS (inb_in (by decide)) dL_law_767 ?_
  rw [show xs ((1 : Int32).toNatClampNeg) = xs 1 from rfl]
  refine lv_aload_n hx hb dL_law_768 rfl (lv_at hl 1 rfl) ?_
  refine lv_iload hx hb dL_law_769 (lv_at hl 0 rfl) ?_
  refine lv_iconst (v := 2) hx hb dL_law_771 (by decide) ?_
  refine lv_iadd hx hb dL_law_772 ?_
  refine lv_topc (v := 2) (by decide) ?_
  refine va_sld hx hb hX hbl hbA hS (inb_in (by decide)) dL_law_773 ?_
  rw [show xs ((2 : Int32).toNatClampNeg) = xs 2 from rfl]
  refine lv_aload_n hx hb dL_law_774 rfl (lv_at hl 1 rfl) ?_
  refine lv_iload hx hb dL_law_775 (lv_at hl 0 rfl) ?_
  refine lv_iconst (v := 3) hx hb dL_law_777 (by decide) ?_
  refine lv_iadd hx hb dL_law_778 ?_
  refine lv_topc (v := 3) (by decide) ?_
  refine va_sld hx hb hX hbl hbA hS (inb_in (by decide)) dL_law_779 ?_
  rw [show xs ((3 : Int32).toNatClampNeg) = xs 3 from rfl]
  refine lv_aload_n hx hb dL_law_780 rfl (lv_at hl 4 rfl) ?_
  obtain ⟨k, w9, b9, hR, hg, hkb⟩ := hag
  refine va_calli (nb_runW (As := [.ref (ad 0 0), .int (xs 1), .int (xs 2), .int (xs 3), .ref (A 13)]) (rest := []) hx hb hml hown hSW hSO hS hW (w_player l hfl z o ad X hA A 0 hF (xs 1) (xs 2) (xs 3) hR) mfw_player (List.mem_of_getElem? (i := 785) (by decide +kernel)) rfl ⟨rfl, rfl⟩ ⟨Nat.le_of_ble_eq_true rfl, Nat.le_of_ble_eq_true rfl⟩ hl.1 (Nat.le_of_ble_eq_true rfl) dL_law_781 ⟨Nat.le_of_ble_eq_true rfl, Nat.le_of_ble_eq_true rfl⟩) hS (fun _ _ h => h) (fun _ h => h) (fun r9 v9 t9 H locs ht9 _ hp9 hW9 _ _ hS => ?_)
  obtain ⟨hk9, hA2, hF2⟩ := hp9
  rw [hk9]
  subst ht9
  obtain ⟨ad2, G2⟩ := v9
  replace hW : GW z ad2 G2 t9.heap := hW9
  refine lv_istore (lv' := [(5, .int k), (4, .int 0), (0, .ref b), (1, .ref (ad 0 0)), (2, .ref (A 0)), (3, .ref (A 13))]) hx hb dL_law_784 hl (by decide) rfl (fun ls hl => ?_)
  refine lv_aload_n hx hb dL_law_786 rfl (lv_at hl 4 rfl) ?_
  refine lv_aload_n hx hb dL_law_787 rfl (lv_at hl 2 rfl) ?_
  refine lv_iload hx hb dL_law_788 (lv_at hl 1 rfl) ?_
  refine lv_iconst (v := 1) hx hb dL_law_790 (by decide) ?_
  refine lv_iadd hx hb dL_law_791 ?_
  refine lv_topc (v := 1) (by decide) ?_
  refine va_sld hx hb hX hbl hbA hS (inb_in (by decide)) dL_law_792 ?_
  rw [show xs ((1 : Int32).toNatClampNeg) = xs 1 from rfl]
  refine lv_aload_n hx hb dL_law_793 rfl (lv_at hl 2 rfl) ?_
  refine lv_iload hx hb dL_law_794 (lv_at hl 1 rfl) ?_
  refine lv_iconst (v := 2) hx hb dL_law_796 (by decide) ?_
  refine lv_iadd hx hb dL_law_797 ?_
  refine lv_topc (v := 2) (by decide) ?_
  refine va_sld hx hb hX hbl hbA hS (inb_in (by decide)) dL_law_798 ?_
  rw [show xs ((2 : Int32).toNatClampNeg) = xs 2 from rfl]
  refine lv_aload_n hx hb dL_law_799 rfl (lv_at hl 2 rfl) ?_
  refine lv_iload hx hb dL_law_800 (lv_at hl 1 rfl) ?_
  refine lv_iconst (v := 3) hx hb dL_law_802 (by decide) ?_
  refine lv_iadd hx hb dL_law_803 ?_
  refine lv_topc (v := 3) (by decide) ?_
  refine va_sld hx hb hX hbl hbA hS (inb_in (by decide)) dL_law_804 ?_
  rw [show xs ((3 : Int32).toNatClampNeg) = xs 3 from rfl]
  refine va_calli (nb_runVo (As := [.int (xs 1), .int (xs 2), .int (xs 3)]) (rest := []) hA2 hx hb hml hown hSW hSO hS hW (m_X11_player l z ad2 G2 hA2 A (mW w9) hF2 o hA9 (xs 1) (xs 2) (xs 3) hg) mf_X11_player lk_L_156 hF2.1 rfl rfl ⟨rfl, rfl⟩ ⟨Nat.le_of_ble_eq_true rfl, Nat.le_of_ble_eq_true rfl⟩ hl.1 (Nat.le_of_ble_eq_true rfl) dL_law_805 ⟨Nat.le_of_ble_eq_true rfl, Nat.le_of_ble_eq_true rfl⟩) hS (fun _ _ h => h) (fun _ h => h) (fun r7 G3 t7 H locs ht7 _ hp7 hW7 _ _ hS => ?_)
  obtain ⟨hk7, hFw⟩ := hp7
  rw [hk7]
  subst ht7
  replace hW : GW z ad2 G3 t7.heap := hW7
  refine lv_istore (lv' := [(6, .int b9), (5, .int k), (4, .int 0), (0, .ref b), (1, .ref (ad 0 0)), (2, .ref (A 0)), (3, .ref (A 13))]) hx hb dL_law_808 hl (by decide) rfl (fun ls hl => ?_)
  refine lv_aload_n hx hb dL_law_810 rfl (lv_at hl 5 rfl) ?_
  obtain ⟨⟨fs9, hk0, -⟩, -⟩ := id hFw
  refine nb_ci (nb_runVr (As := []) (rest := []) hA2 hx hb hml hown hSW hS hW (m_thrown9 l z _ _ hA2 A hFw) mf_X11_thrown lk_L_123 hk0 rfl rfl ⟨rfl, rfl⟩ ⟨Nat.le_of_ble_eq_true rfl, Nat.le_of_ble_eq_true rfl⟩ hl.1 (Nat.le_of_ble_eq_true rfl) dL_law_811 ⟨Nat.le_of_ble_eq_true rfl, Nat.le_of_ble_eq_true rfl⟩) hS (fun H locs hW hS => ?_)
  refine lv_iload hx hb dL_law_814 (lv_at hl 1 rfl) ?_
  refine lv_icmp_eq (tgt := 821) hx hb dL_law_816 (by decide) (fun _ => ?_) (fun hc => absurd rfl hc)
  refine lv_iload hx hb dL_law_821 (lv_at hl 1 rfl) ?_
  refine lv_if_ne (tgt := 838) hx hb dL_law_823 (by decide) (fun ck => ?_) (fun ck => ?_)
  · refine lv_goto (tgt := 2307) hx hb dL_law_838 (by decide) ?_
    refine W.widen (k := 5000) (n := 50000) (Nat.le_of_ble_eq_true rfl) (Nat.le_of_ble_eq_true rfl) ?_
    exact kk _ _ _ hS (lv_sub hl [2, 3] rfl)
  · refine lv_aload_n hx hb dL_law_826 rfl (lv_at hl 6 rfl) ?_
    refine lv_iconst (v := 0) hx hb dL_law_827 (by decide) ?_
    refine nb_outr hA2 hx hb hK hW hFw dL_law_828 ?_
    rw [show fmO (mW w9) = b9.toInt64 from congrArg Int32.toInt64 (hkb ck)]
    refine lv_iload hx hb dL_law_829 (lv_at hl 0 rfl) ?_
    refine lv_i2l hx hb dL_law_831 rfl ?_
    refine W.lcmp hx hb dL_law_832 ?_
    refine lv_topc (v := 0) lg_self ?_
    refine lv_if_eq (tgt := 838) hx hb dL_law_833 (by decide) (fun _ => ?_) (fun hc => absurd rfl hc)
    refine lv_goto (tgt := 2307) hx hb dL_law_838 (by decide) ?_
    refine W.widen (k := 5000) (n := 50000) (Nat.le_of_ble_eq_true rfl) (Nat.le_of_ble_eq_true rfl) ?_
    exact kk _ _ _ hS (lv_sub hl [2, 3] rfl)
set_option maxRecDepth 100000 in
set_option maxHeartbeats 4000000 in
theorem lc_give (h : LX p l e s m meth c b xs z o ad X A) (hW : GW z ad (GC z ad N0 X u00) H) (hS : va_S (zA z) s.heap H locs) (hl : lv_has ls 9 [(4, .int 0), (0, .ref b), (1, .ref (ad 0 0)), (2, .ref (A 0)), (3, .ref (A 13))]) (hag : ∃ k w9 b9, R_give (xs 1) (xs 2) k w9 0 ∧ g_X11_give (mW w9) (xs 1) (xs 2) = some (b9, k) ∧ k ≠ 0)
    (kk : ∀ (H1 : Heap) (locs1 : List Loc) (ls1 : Array Slot), va_S (zA z) s.heap H1 locs1 → lv_has ls1 9 [(4, .int 0), (0, .ref b)] → W p l e room_1 s m #[Value.ref b] below meth c H1 locs1 5000 50000 Q (F0 m 2307 ls1 [])) : W p l e room_1 s m #[Value.ref b] below meth c H locs 1000 10000 Q (F0 m 841 ls []) := by
  obtain ⟨hx, hb, hml, hown, hSW, hSO, hfl, hA, hF, hA9, hX, hbl, hbA⟩ := h
  obtain ⟨hT, hK, hST, hB0⟩ := id hSW
  refine lv_aload_n hx hb dL_law_841 rfl (lv_at hl 2 rfl) ?_
  refine lv_aload_n hx hb dL_law_842 rfl (lv_at hl 1 rfl) ?_
  refine lv_iload hx hb dL_law_843 (lv_at hl 0 rfl) ?_
  refine lv_iconst (v := 1) hx hb dL_law_845 (by decide) ?_
  refine lv_iadd hx hb dL_law_846 ?_
  refine lv_topc (v := 1) (by decide) ?_
  refine va_sld hx hb hX hbl hbA hS (inb_in (by decide)) dL_law_847 ?_
  rw [show xs ((1 : Int32).toNatClampNeg) = xs 1 from rfl]
  refine lv_aload_n hx hb dL_law_848 rfl (lv_at hl 1 rfl) ?_
  refine lv_iload hx hb dL_law_849 (lv_at hl 0 rfl) ?_
  refine lv_iconst (v := 2) hx hb dL_law_851 (by decide) ?_
  refine lv_iadd hx hb dL_law_852 ?_
  refine lv_topc (v := 2) (by decide) ?_
  refine va_sld hx hb hX hbl hbA hS (inb_in (by decide)) dL_law_853 ?_
  rw [show xs ((2 : Int32).toNatClampNeg) = xs 2 from rfl]
  refine lv_aload_n hx hb dL_law_854 rfl (lv_at hl 4 rfl) ?_
  obtain ⟨k, w9, b9, hR, hg, hkb⟩ := hag
  refine va_calli (nb_runW (As := [.ref (ad 0 0), .int (xs 1), .int (xs 2), .ref (A 13)]) (rest := []) hx hb hml hown hSW hSO hS hW (w_give l hfl z o ad X hA A 0 hF (xs 1) (xs 2) hR) mfw_give (List.mem_of_getElem? (i := 824) (by decide +kernel)) rfl ⟨rfl, rfl⟩ ⟨Nat.le_of_ble_eq_true rfl, Nat.le_of_ble_eq_true rfl⟩ hl.1 (Nat.le_of_ble_eq_true rfl) dL_law_855 ⟨Nat.le_of_ble_eq_true rfl, Nat.le_of_ble_eq_true rfl⟩) hS (fun _ _ h => h) (fun _ h => h) (fun r9 v9 t9 H locs ht9 _ hp9 hW9 _ _ hS => ?_)
  obtain ⟨hk9, hA2, hF2⟩ := hp9
  rw [hk9]
  subst ht9
  obtain ⟨ad2, G2⟩ := v9
  replace hW : GW z ad2 G2 t9.heap := hW9
  refine lv_istore (lv' := [(5, .int k), (4, .int 0), (0, .ref b), (1, .ref (ad 0 0)), (2, .ref (A 0)), (3, .ref (A 13))]) hx hb dL_law_858 hl (by decide) rfl (fun ls hl => ?_)
  refine lv_aload_n hx hb dL_law_860 rfl (lv_at hl 4 rfl) ?_
  refine lv_aload_n hx hb dL_law_861 rfl (lv_at hl 2 rfl) ?_
  refine lv_iload hx hb dL_law_862 (lv_at hl 1 rfl) ?_
  refine lv_iconst (v := 1) hx hb dL_law_864 (by decide) ?_
  refine lv_iadd hx hb dL_law_865 ?_
  refine lv_topc (v := 1) (by decide) ?_
  refine va_sld hx hb hX hbl hbA hS (inb_in (by decide)) dL_law_866 ?_
  rw [show xs ((1 : Int32).toNatClampNeg) = xs 1 from rfl]
  refine lv_aload_n hx hb dL_law_867 rfl (lv_at hl 2 rfl) ?_
  refine lv_iload hx hb dL_law_868 (lv_at hl 1 rfl) ?_
  refine lv_iconst (v := 2) hx hb dL_law_870 (by decide) ?_
  refine lv_iadd hx hb dL_law_871 ?_
  refine lv_topc (v := 2) (by decide) ?_
  refine va_sld hx hb hX hbl hbA hS (inb_in (by decide)) dL_law_872 ?_
  rw [show xs ((2 : Int32).toNatClampNeg) = xs 2 from rfl]
  refine va_calli (nb_runVr (As := [.int (xs 1), .int (xs 2)]) (rest := []) hA2 hx hb hml hown hSW hS hW (m_X11_give l z ad2 G2 hA2 A (mW w9) hF2 (xs 1) (xs 2) hg) mf_X11_give lk_L_159 hF2.1 rfl rfl ⟨rfl, rfl⟩ ⟨Nat.le_of_ble_eq_true rfl, Nat.le_of_ble_eq_true rfl⟩ hl.1 (Nat.le_of_ble_eq_true rfl) dL_law_873 ⟨Nat.le_of_ble_eq_true rfl, Nat.le_of_ble_eq_true rfl⟩) hS (fun _ _ h => h) (fun _ h => h) (fun r7 G3 t7 H locs ht7 _ hp7 hW7 _ _ hS => ?_)
  obtain ⟨hk7, hFw⟩ := hp7
  rw [hk7]
  subst ht7
  replace hW : GW z ad2 G3 t7.heap := hW7
  refine lv_istore (lv' := [(6, .int b9), (5, .int k), (4, .int 0), (0, .ref b), (1, .ref (ad 0 0)), (2, .ref (A 0)), (3, .ref (A 13))]) hx hb dL_law_876 hl (by decide) rfl (fun ls hl => ?_)
  refine lv_aload_n hx hb dL_law_878 rfl (lv_at hl 5 rfl) ?_
  obtain ⟨⟨fs9, hk0, -⟩, -⟩ := id hFw
  refine nb_ci (nb_runVr (As := []) (rest := []) hA2 hx hb hml hown hSW hS hW (m_thrown9 l z _ _ hA2 A hFw) mf_X11_thrown lk_L_123 hk0 rfl rfl ⟨rfl, rfl⟩ ⟨Nat.le_of_ble_eq_true rfl, Nat.le_of_ble_eq_true rfl⟩ hl.1 (Nat.le_of_ble_eq_true rfl) dL_law_879 ⟨Nat.le_of_ble_eq_true rfl, Nat.le_of_ble_eq_true rfl⟩) hS (fun H locs hW hS => ?_)
  refine lv_iload hx hb dL_law_882 (lv_at hl 1 rfl) ?_
  refine lv_icmp_eq (tgt := 889) hx hb dL_law_884 (by decide) (fun _ => ?_) (fun hc => absurd rfl hc)
  refine lv_iload hx hb dL_law_889 (lv_at hl 1 rfl) ?_
  refine lv_if_ne (tgt := 906) hx hb dL_law_891 (by decide) (fun _ => ?_) (fun ck => absurd ck hkb)
  refine lv_goto (tgt := 2307) hx hb dL_law_906 (by decide) ?_
  refine W.widen (k := 5000) (n := 50000) (Nat.le_of_ble_eq_true rfl) (Nat.le_of_ble_eq_true rfl) ?_
  exact kk _ _ _ hS (lv_sub hl [2, 3] rfl)
set_option maxRecDepth 100000 in
set_option maxHeartbeats 4000000 in
theorem lc_absent (h : LX p l e s m meth c b xs z o ad X A) (hW : GW z ad (GC z ad N0 X u00) H) (hS : va_S (zA z) s.heap H locs) (hl : lv_has ls 9 [(4, .int 0), (0, .ref b), (1, .ref (ad 0 0)), (2, .ref (A 0)), (3, .ref (A 13))]) (hag : ∀ {q : Int32}, q = 0 ∨ q = 1 → ∃ k w9 b9, R_absent (xs 1) q k w9 0 ∧ g_X11_absent (mW w9) (xs 1) q = some (b9, k) ∧ k ≠ 0)
    (kk : ∀ (H1 : Heap) (locs1 : List Loc) (ls1 : Array Slot), va_S (zA z) s.heap H1 locs1 → lv_has ls1 9 [(4, .int 0), (0, .ref b)] → W p l e room_1 s m #[Value.ref b] below meth c H1 locs1 5000 50000 Q (F0 m 2307 ls1 [])) : W p l e room_1 s m #[Value.ref b] below meth c H locs 1000 10000 Q (F0 m 909 ls []) := by
  obtain ⟨hx, hb, hml, hown, hSW, hSO, hfl, hA, hF, hA9, hX, hbl, hbA⟩ := h
  obtain ⟨hT, hK, hST, hB0⟩ := id hSW
  refine lv_aload_n hx hb dL_law_909 rfl (lv_at hl 2 rfl) ?_
  refine lv_aload_n hx hb dL_law_910 rfl (lv_at hl 1 rfl) ?_
  refine lv_iload hx hb dL_law_911 (lv_at hl 0 rfl) ?_
  refine lv_iconst (v := 1) hx hb dL_law_913 (by decide) ?_
  refine lv_iadd hx hb dL_law_914 ?_
  refine lv_topc (v := 1) (by decide) ?_
  refine va_sld hx hb hX hbl hbA hS (inb_in (by decide)) dL_law_915 ?_
  rw [show xs ((1 : Int32).toNatClampNeg) = xs 1 from rfl]
  refine lv_aload_n hx hb dL_law_916 rfl (lv_at hl 1 rfl) ?_
  refine lv_iload hx hb dL_law_917 (lv_at hl 0 rfl) ?_
  refine lv_iconst (v := 2) hx hb dL_law_919 (by decide) ?_
  refine lv_iadd hx hb dL_law_920 ?_
  refine lv_topc (v := 2) (by decide) ?_
  refine va_sld hx hb hX hbl hbA hS (inb_in (by decide)) dL_law_921 ?_
  rw [show xs ((2 : Int32).toNatClampNeg) = xs 2 from rfl]
  refine lv_if_eq (tgt := 929) hx hb dL_law_922 (by decide) (fun cz => ?_) (fun cz => ?_)
  · refine lv_iconst (v := 0) hx hb dL_law_929 (by decide) ?_
    refine lv_aload_n hx hb dL_law_930 rfl (lv_at hl 4 rfl) ?_
    obtain ⟨k, w9, b9, hR, hg, hkb⟩ := (hag (Or.inl rfl))
    refine va_calli (nb_runW (As := [.ref (ad 0 0), .int (xs 1), .int 0, .ref (A 13)]) (rest := []) hx hb hml hown hSW hSO hS hW (w_absent l hfl z o ad X hA A 0 hF (xs 1) 0 hR) mfw_absent (List.mem_of_getElem? (i := 832) (by decide +kernel)) rfl ⟨rfl, rfl⟩ ⟨Nat.le_of_ble_eq_true rfl, Nat.le_of_ble_eq_true rfl⟩ hl.1 (Nat.le_of_ble_eq_true rfl) dL_law_931 ⟨Nat.le_of_ble_eq_true rfl, Nat.le_of_ble_eq_true rfl⟩) hS (fun _ _ h => h) (fun _ h => h) (fun r9 v9 t9 H locs ht9 _ hp9 hW9 _ _ hS => ?_)
    obtain ⟨hk9, hA2, hF2⟩ := hp9
    rw [hk9]
    subst ht9
    obtain ⟨ad2, G2⟩ := v9
    replace hW : GW z ad2 G2 t9.heap := hW9
    refine lv_istore (lv' := [(5, .int k), (4, .int 0), (0, .ref b), (1, .ref (ad 0 0)), (2, .ref (A 0)), (3, .ref (A 13))]) hx hb dL_law_934 hl (by decide) rfl (fun ls hl => ?_)
    refine lv_aload_n hx hb dL_law_936 rfl (lv_at hl 4 rfl) ?_
    refine lv_aload_n hx hb dL_law_937 rfl (lv_at hl 2 rfl) ?_
    refine lv_iload hx hb dL_law_938 (lv_at hl 1 rfl) ?_
    refine lv_iconst (v := 1) hx hb dL_law_940 (by decide) ?_
    refine lv_iadd hx hb dL_law_941 ?_
    refine lv_topc (v := 1) (by decide) ?_
    refine va_sld hx hb hX hbl hbA hS (inb_in (by decide)) dL_law_942 ?_
    rw [show xs ((1 : Int32).toNatClampNeg) = xs 1 from rfl]
    refine lv_aload_n hx hb dL_law_943 rfl (lv_at hl 2 rfl) ?_
    refine lv_iload hx hb dL_law_944 (lv_at hl 1 rfl) ?_
    refine lv_iconst (v := 2) hx hb dL_law_946 (by decide) ?_
    refine lv_iadd hx hb dL_law_947 ?_
    refine lv_topc (v := 2) (by decide) ?_
    refine va_sld hx hb hX hbl hbA hS (inb_in (by decide)) dL_law_948 ?_
    rw [show xs ((2 : Int32).toNatClampNeg) = xs 2 from rfl]
    refine lv_if_eq (tgt := 956) hx hb dL_law_949 (by decide) (fun _ => ?_) (fun hc => absurd cz hc)
    refine lv_iconst (v := 0) hx hb dL_law_956 (by decide) ?_
    refine va_calli (nb_runVr (As := [.int (xs 1), .int 0]) (rest := []) hA2 hx hb hml hown hSW hS hW (m_X11_absent l z ad2 G2 hA2 A (mW w9) hF2 (xs 1) 0 hg) mf_X11_absent lk_L_163 hF2.1 rfl rfl ⟨rfl, rfl⟩ ⟨Nat.le_of_ble_eq_true rfl, Nat.le_of_ble_eq_true rfl⟩ hl.1 (Nat.le_of_ble_eq_true rfl) dL_law_957 ⟨Nat.le_of_ble_eq_true rfl, Nat.le_of_ble_eq_true rfl⟩) hS (fun _ _ h => h) (fun _ h => h) (fun r7 G3 t7 H locs ht7 _ hp7 hW7 _ _ hS => ?_)
    obtain ⟨hk7, hFw⟩ := hp7
    rw [hk7]
    subst ht7
    replace hW : GW z ad2 G3 t7.heap := hW7
    refine lv_istore (lv' := [(6, .int b9), (5, .int k), (4, .int 0), (0, .ref b), (1, .ref (ad 0 0)), (2, .ref (A 0)), (3, .ref (A 13))]) hx hb dL_law_960 hl (by decide) rfl (fun ls hl => ?_)
    refine lv_aload_n hx hb dL_law_962 rfl (lv_at hl 5 rfl) ?_
    obtain ⟨⟨fs9, hk0, -⟩, -⟩ := id hFw
    refine nb_ci (nb_runVr (As := []) (rest := []) hA2 hx hb hml hown hSW hS hW (m_thrown9 l z _ _ hA2 A hFw) mf_X11_thrown lk_L_123 hk0 rfl rfl ⟨rfl, rfl⟩ ⟨Nat.le_of_ble_eq_true rfl, Nat.le_of_ble_eq_true rfl⟩ hl.1 (Nat.le_of_ble_eq_true rfl) dL_law_963 ⟨Nat.le_of_ble_eq_true rfl, Nat.le_of_ble_eq_true rfl⟩) hS (fun H locs hW hS => ?_)
    refine lv_iload hx hb dL_law_966 (lv_at hl 1 rfl) ?_
    refine lv_icmp_eq (tgt := 973) hx hb dL_law_968 (by decide) (fun _ => ?_) (fun hc => absurd rfl hc)
    refine lv_iload hx hb dL_law_973 (lv_at hl 1 rfl) ?_
    refine lv_if_ne (tgt := 997) hx hb dL_law_975 (by decide) (fun _ => ?_) (fun ck => absurd ck hkb)
    refine lv_goto (tgt := 2307) hx hb dL_law_997 (by decide) ?_
    refine W.widen (k := 5000) (n := 50000) (Nat.le_of_ble_eq_true rfl) (Nat.le_of_ble_eq_true rfl) ?_
    exact kk _ _ _ hS (lv_sub hl [2, 3] rfl)
  · refine lv_iconst (v := 1) hx hb dL_law_925 (by decide) ?_
    refine lv_goto (tgt := 930) hx hb dL_law_926 (by decide) ?_
    refine lv_aload_n hx hb dL_law_930 rfl (lv_at hl 4 rfl) ?_
    obtain ⟨k, w9, b9, hR, hg, hkb⟩ := (hag (Or.inr rfl))
    refine va_calli (nb_runW (As := [.ref (ad 0 0), .int (xs 1), .int 1, .ref (A 13)]) (rest := []) hx hb hml hown hSW hSO hS hW (w_absent l hfl z o ad X hA A 0 hF (xs 1) 1 hR) mfw_absent (List.mem_of_getElem? (i := 832) (by decide +kernel)) rfl ⟨rfl, rfl⟩ ⟨Nat.le_of_ble_eq_true rfl, Nat.le_of_ble_eq_true rfl⟩ hl.1 (Nat.le_of_ble_eq_true rfl) dL_law_931 ⟨Nat.le_of_ble_eq_true rfl, Nat.le_of_ble_eq_true rfl⟩) hS (fun _ _ h => h) (fun _ h => h) (fun r9 v9 t9 H locs ht9 _ hp9 hW9 _ _ hS => ?_)
    obtain ⟨hk9, hA2, hF2⟩ := hp9
    rw [hk9]
    subst ht9
    obtain ⟨ad2, G2⟩ := v9
    replace hW : GW z ad2 G2 t9.heap := hW9
    refine lv_istore (lv' := [(5, .int k), (4, .int 0), (0, .ref b), (1, .ref (ad 0 0)), (2, .ref (A 0)), (3, .ref (A 13))]) hx hb dL_law_934 hl (by decide) rfl (fun ls hl => ?_)
    refine lv_aload_n hx hb dL_law_936 rfl (lv_at hl 4 rfl) ?_
    refine lv_aload_n hx hb dL_law_937 rfl (lv_at hl 2 rfl) ?_
    refine lv_iload hx hb dL_law_938 (lv_at hl 1 rfl) ?_
    refine lv_iconst (v := 1) hx hb dL_law_940 (by decide) ?_
    refine lv_iadd hx hb dL_law_941 ?_
    refine lv_topc (v := 1) (by decide) ?_
    refine va_sld hx hb hX hbl hbA hS (inb_in (by decide)) dL_law_942 ?_
    rw [show xs ((1 : Int32).toNatClampNeg) = xs 1 from rfl]
    refine lv_aload_n hx hb dL_law_943 rfl (lv_at hl 2 rfl) ?_
    refine lv_iload hx hb dL_law_944 (lv_at hl 1 rfl) ?_
    refine lv_iconst (v := 2) hx hb dL_law_946 (by decide) ?_
    refine lv_iadd hx hb dL_law_947 ?_
    refine lv_topc (v := 2) (by decide) ?_
    refine va_sld hx hb hX hbl hbA hS (inb_in (by decide)) dL_law_948 ?_
    rw [show xs ((2 : Int32).toNatClampNeg) = xs 2 from rfl]
    refine lv_if_eq (tgt := 956) hx hb dL_law_949 (by decide) (fun hc => absurd hc cz) (fun _ => ?_)
    refine lv_iconst (v := 1) hx hb dL_law_952 (by decide) ?_
    refine lv_goto (tgt := 957) hx hb dL_law_953 (by decide) ?_
    refine va_calli (nb_runVr (As := [.int (xs 1), .int 1]) (rest := []) hA2 hx hb hml hown hSW hS hW (m_X11_absent l z ad2 G2 hA2 A (mW w9) hF2 (xs 1) 1 hg) mf_X11_absent lk_L_163 hF2.1 rfl rfl ⟨rfl, rfl⟩ ⟨Nat.le_of_ble_eq_true rfl, Nat.le_of_ble_eq_true rfl⟩ hl.1 (Nat.le_of_ble_eq_true rfl) dL_law_957 ⟨Nat.le_of_ble_eq_true rfl, Nat.le_of_ble_eq_true rfl⟩) hS (fun _ _ h => h) (fun _ h => h) (fun r7 G3 t7 H locs ht7 _ hp7 hW7 _ _ hS => ?_)
    obtain ⟨hk7, hFw⟩ := hp7
    rw [hk7]
    subst ht7
    replace hW : GW z ad2 G3 t7.heap := hW7
    refine lv_istore (lv' := [(6, .int b9), (5, .int k), (4, .int 0), (0, .ref b), (1, .ref (ad 0 0)), (2, .ref (A 0)), (3, .ref (A 13))]) hx hb dL_law_960 hl (by decide) rfl (fun ls hl => ?_)
    refine lv_aload_n hx hb dL_law_962 rfl (lv_at hl 5 rfl) ?_
    obtain ⟨⟨fs9, hk0, -⟩, -⟩ := id hFw
    refine nb_ci (nb_runVr (As := []) (rest := []) hA2 hx hb hml hown hSW hS hW (m_thrown9 l z _ _ hA2 A hFw) mf_X11_thrown lk_L_123 hk0 rfl rfl ⟨rfl, rfl⟩ ⟨Nat.le_of_ble_eq_true rfl, Nat.le_of_ble_eq_true rfl⟩ hl.1 (Nat.le_of_ble_eq_true rfl) dL_law_963 ⟨Nat.le_of_ble_eq_true rfl, Nat.le_of_ble_eq_true rfl⟩) hS (fun H locs hW hS => ?_)
    refine lv_iload hx hb dL_law_966 (lv_at hl 1 rfl) ?_
    refine lv_icmp_eq (tgt := 973) hx hb dL_law_968 (by decide) (fun _ => ?_) (fun hc => absurd rfl hc)
    refine lv_iload hx hb dL_law_973 (lv_at hl 1 rfl) ?_
    refine lv_if_ne (tgt := 997) hx hb dL_law_975 (by decide) (fun _ => ?_) (fun ck => absurd ck hkb)
    refine lv_goto (tgt := 2307) hx hb dL_law_997 (by decide) ?_
    refine W.widen (k := 5000) (n := 50000) (Nat.le_of_ble_eq_true rfl) (Nat.le_of_ble_eq_true rfl) ?_
    exact kk _ _ _ hS (lv_sub hl [2, 3] rfl)
set_option maxRecDepth 100000 in
set_option maxHeartbeats 4000000 in
theorem lc_teach (h : LX p l e s m meth c b xs z o ad X A) (hW : GW z ad (GC z ad N0 X u00) H) (hS : va_S (zA z) s.heap H locs) (hl : lv_has ls 9 [(4, .int 0), (0, .ref b), (1, .ref (ad 0 0)), (2, .ref (A 0)), (3, .ref (A 13))]) (hag : ∃ k w9 b9, R_teach (xs 1) (xs 2) (xs 3) k w9 0 ∧ g_X11_teach (mW w9) (xs 1) (xs 2) (xs 3) = some (b9, k) ∧ k ≠ 0)
    (kk : ∀ (H1 : Heap) (locs1 : List Loc) (ls1 : Array Slot), va_S (zA z) s.heap H1 locs1 → lv_has ls1 9 [(4, .int 0), (0, .ref b)] → W p l e room_1 s m #[Value.ref b] below meth c H1 locs1 5000 50000 Q (F0 m 2307 ls1 [])) : W p l e room_1 s m #[Value.ref b] below meth c H locs 1000 10000 Q (F0 m 1000 ls []) := by
  obtain ⟨hx, hb, hml, hown, hSW, hSO, hfl, hA, hF, hA9, hX, hbl, hbA⟩ := h
  obtain ⟨hT, hK, hST, hB0⟩ := id hSW
  refine lv_aload_n hx hb dL_law_1000 rfl (lv_at hl 2 rfl) ?_
  refine lv_aload_n hx hb dL_law_1001 rfl (lv_at hl 1 rfl) ?_
  refine lv_iload hx hb dL_law_1002 (lv_at hl 0 rfl) ?_
  refine lv_iconst (v := 1) hx hb dL_law_1004 (by decide) ?_
  refine lv_iadd hx hb dL_law_1005 ?_
  refine lv_topc (v := 1) (by decide) ?_
  refine va_sld hx hb hX hbl hbA hS (inb_in (by decide)) dL_law_1006 ?_
  rw [show xs ((1 : Int32).toNatClampNeg) = xs 1 from rfl]
  refine lv_aload_n hx hb dL_law_1007 rfl (lv_at hl 1 rfl) ?_
  refine lv_iload hx hb dL_law_1008 (lv_at hl 0 rfl) ?_
  refine lv_iconst (v := 2) hx hb dL_law_1010 (by decide) ?_
  refine lv_iadd hx hb dL_law_1011 ?_
  refine lv_topc (v := 2) (by decide) ?_
  refine va_sld hx hb hX hbl hbA hS (inb_in (by decide)) dL_law_1012 ?_
  rw [show xs ((2 : Int32).toNatClampNeg) = xs 2 from rfl]
  refine lv_aload_n hx hb dL_law_1013 rfl (lv_at hl 1 rfl) ?_
  refine lv_iload hx hb dL_law_1014 (lv_at hl 0 rfl) ?_
  refine lv_iconst (v := 3) hx hb dL_law_1016 (by decide) ?_
  refine lv_iadd hx hb dL_law_1017 ?_
  refine lv_topc (v := 3) (by decide) ?_
  refine va_sld hx hb hX hbl hbA hS (inb_in (by decide)) dL_law_1018 ?_
  rw [show xs ((3 : Int32).toNatClampNeg) = xs 3 from rfl]
  refine lv_aload_n hx hb dL_law_1019 rfl (lv_at hl 4 rfl) ?_
  obtain ⟨k, w9, b9, hR, hg, hkb⟩ := hag
  refine va_calli (nb_runW (As := [.ref (ad 0 0), .int (xs 1), .int (xs 2), .int (xs 3), .ref (A 13)]) (rest := []) hx hb hml hown hSW hSO hS hW (w_teach l hfl z o ad X hA A 0 hF (xs 1) (xs 2) (xs 3) hR) mfw_teach (List.mem_of_getElem? (i := 839) (by decide +kernel)) rfl ⟨rfl, rfl⟩ ⟨Nat.le_of_ble_eq_true rfl, Nat.le_of_ble_eq_true rfl⟩ hl.1 (Nat.le_of_ble_eq_true rfl) dL_law_1020 ⟨Nat.le_of_ble_eq_true rfl, Nat.le_of_ble_eq_true rfl⟩) hS (fun _ _ h => h) (fun _ h => h) (fun r9 v9 t9 H locs ht9 _ hp9 hW9 _ _ hS => ?_)
  obtain ⟨hk9, hA2, hF2⟩ := hp9
  rw [hk9]
  subst ht9
  obtain ⟨ad2, G2⟩ := v9
  replace hW : GW z ad2 G2 t9.heap := hW9
  refine lv_istore (lv' := [(5, .int k), (4, .int 0), (0, .ref b), (1, .ref (ad 0 0)), (2, .ref (A 0)), (3, .ref (A 13))]) hx hb dL_law_1023 hl (by decide) rfl (fun ls hl => ?_)
  refine lv_aload_n hx hb dL_law_1025 rfl (lv_at hl 4 rfl) ?_
  refine lv_aload_n hx hb dL_law_1026 rfl (lv_at hl 2 rfl) ?_
  refine lv_iload hx hb dL_law_1027 (lv_at hl 1 rfl) ?_
  refine lv_iconst (v := 1) hx hb dL_law_1029 (by decide) ?_
  refine lv_iadd hx hb dL_law_1030 ?_
  refine lv_topc (v := 1) (by decide) ?_
  refine va_sld hx hb hX hbl hbA hS (inb_in (by decide)) dL_law_1031 ?_
  rw [show xs ((1 : Int32).toNatClampNeg) = xs 1 from rfl]
  refine lv_aload_n hx hb dL_law_1032 rfl (lv_at hl 2 rfl) ?_
  refine lv_iload hx hb dL_law_1033 (lv_at hl 1 rfl) ?_
  refine lv_iconst (v := 2) hx hb dL_law_1035 (by decide) ?_
  refine lv_iadd hx hb dL_law_1036 ?_
  refine lv_topc (v := 2) (by decide) ?_
  refine va_sld hx hb hX hbl hbA hS (inb_in (by decide)) dL_law_1037 ?_
  rw [show xs ((2 : Int32).toNatClampNeg) = xs 2 from rfl]
  refine lv_aload_n hx hb dL_law_1038 rfl (lv_at hl 2 rfl) ?_
  refine lv_iload hx hb dL_law_1039 (lv_at hl 1 rfl) ?_
  refine lv_iconst (v := 3) hx hb dL_law_1041 (by decide) ?_
  refine lv_iadd hx hb dL_law_1042 ?_
  refine lv_topc (v := 3) (by decide) ?_
  refine va_sld hx hb hX hbl hbA hS (inb_in (by decide)) dL_law_1043 ?_
  rw [show xs ((3 : Int32).toNatClampNeg) = xs 3 from rfl]
  refine va_calli (nb_runVr (As := [.int (xs 1), .int (xs 2), .int (xs 3)]) (rest := []) hA2 hx hb hml hown hSW hS hW (m_X11_teach l z ad2 G2 hA2 A (mW w9) hF2 (xs 1) (xs 2) (xs 3) hg) mf_X11_teach lk_L_166 hF2.1 rfl rfl ⟨rfl, rfl⟩ ⟨Nat.le_of_ble_eq_true rfl, Nat.le_of_ble_eq_true rfl⟩ hl.1 (Nat.le_of_ble_eq_true rfl) dL_law_1044 ⟨Nat.le_of_ble_eq_true rfl, Nat.le_of_ble_eq_true rfl⟩) hS (fun _ _ h => h) (fun _ h => h) (fun r7 G3 t7 H locs ht7 _ hp7 hW7 _ _ hS => ?_)
  obtain ⟨hk7, hFw⟩ := hp7
  rw [hk7]
  subst ht7
  replace hW : GW z ad2 G3 t7.heap := hW7
  refine lv_istore (lv' := [(6, .int b9), (5, .int k), (4, .int 0), (0, .ref b), (1, .ref (ad 0 0)), (2, .ref (A 0)), (3, .ref (A 13))]) hx hb dL_law_1047 hl (by decide) rfl (fun ls hl => ?_)
  refine lv_aload_n hx hb dL_law_1049 rfl (lv_at hl 5 rfl) ?_
  obtain ⟨⟨fs9, hk0, -⟩, -⟩ := id hFw
  refine nb_ci (nb_runVr (As := []) (rest := []) hA2 hx hb hml hown hSW hS hW (m_thrown9 l z _ _ hA2 A hFw) mf_X11_thrown lk_L_123 hk0 rfl rfl ⟨rfl, rfl⟩ ⟨Nat.le_of_ble_eq_true rfl, Nat.le_of_ble_eq_true rfl⟩ hl.1 (Nat.le_of_ble_eq_true rfl) dL_law_1050 ⟨Nat.le_of_ble_eq_true rfl, Nat.le_of_ble_eq_true rfl⟩) hS (fun H locs hW hS => ?_)
  refine lv_iload hx hb dL_law_1053 (lv_at hl 1 rfl) ?_
  refine lv_icmp_eq (tgt := 1060) hx hb dL_law_1055 (by decide) (fun _ => ?_) (fun hc => absurd rfl hc)
  refine lv_iload hx hb dL_law_1060 (lv_at hl 1 rfl) ?_
  refine lv_if_ne (tgt := 1077) hx hb dL_law_1062 (by decide) (fun _ => ?_) (fun ck => absurd ck hkb)
  refine lv_goto (tgt := 2307) hx hb dL_law_1077 (by decide) ?_
  refine W.widen (k := 5000) (n := 50000) (Nat.le_of_ble_eq_true rfl) (Nat.le_of_ble_eq_true rfl) ?_
  exact kk _ _ _ hS (lv_sub hl [2, 3] rfl)
set_option maxRecDepth 100000 in
set_option maxHeartbeats 4000000 in
theorem lc_rehearse (h : LX p l e s m meth c b xs z o ad X A) (hW : GW z ad (GC z ad N0 X u00) H) (hS : va_S (zA z) s.heap H locs) (hl : lv_has ls 9 [(4, .int 0), (0, .ref b), (1, .ref (ad 0 0)), (2, .ref (A 0)), (3, .ref (A 13))]) (hag : ∃ k w9 b9, R_rehearse (xs 1) k w9 0 ∧ g_X11_rehearse_ (mW w9) (xs 1) = some (b9, k) ∧ (k = 0 → w9 = b9))
    (kk : ∀ (H1 : Heap) (locs1 : List Loc) (ls1 : Array Slot), va_S (zA z) s.heap H1 locs1 → lv_has ls1 9 [(4, .int 0), (0, .ref b)] → W p l e room_1 s m #[Value.ref b] below meth c H1 locs1 5000 50000 Q (F0 m 2307 ls1 [])) : W p l e room_1 s m #[Value.ref b] below meth c H locs 1000 10000 Q (F0 m 1080 ls []) := by
  obtain ⟨hx, hb, hml, hown, hSW, hSO, hfl, hA, hF, hA9, hX, hbl, hbA⟩ := h
  obtain ⟨hT, hK, hST, hB0⟩ := id hSW
  refine lv_aload_n hx hb dL_law_1080 rfl (lv_at hl 2 rfl) ?_
  refine lv_aload_n hx hb dL_law_1081 rfl (lv_at hl 1 rfl) ?_
  refine lv_iload hx hb dL_law_1082 (lv_at hl 0 rfl) ?_
  refine lv_iconst (v := 1) hx hb dL_law_1084 (by decide) ?_
  refine lv_iadd hx hb dL_law_1085 ?_
  refine lv_topc (v := 1) (by decide) ?_
  refine va_sld hx hb hX hbl hbA hS (inb_in (by decide)) dL_law_1086 ?_
  rw [show xs ((1 : Int32).toNatClampNeg) = xs 1 from rfl]
  refine lv_aload_n hx hb dL_law_1087 rfl (lv_at hl 4 rfl) ?_
  obtain ⟨k, w9, b9, hR, hg, hkb⟩ := hag
  refine va_calli (nb_runW (As := [.ref (ad 0 0), .int (xs 1), .ref (A 13)]) (rest := []) hx hb hml hown hSW hSO hS hW (w_rehearse l hfl z o ad X hA A 0 hF (xs 1) hR) mfw_rehearse (List.mem_of_getElem? (i := 849) (by decide +kernel)) rfl ⟨rfl, rfl⟩ ⟨Nat.le_of_ble_eq_true rfl, Nat.le_of_ble_eq_true rfl⟩ hl.1 (Nat.le_of_ble_eq_true rfl) dL_law_1088 ⟨Nat.le_of_ble_eq_true rfl, Nat.le_of_ble_eq_true rfl⟩) hS (fun _ _ h => h) (fun _ h => h) (fun r9 v9 t9 H locs ht9 _ hp9 hW9 _ _ hS => ?_)
  obtain ⟨hk9, hA2, hF2⟩ := hp9
  rw [hk9]
  subst ht9
  obtain ⟨ad2, G2⟩ := v9
  replace hW : GW z ad2 G2 t9.heap := hW9
  refine lv_istore (lv' := [(5, .int k), (4, .int 0), (0, .ref b), (1, .ref (ad 0 0)), (2, .ref (A 0)), (3, .ref (A 13))]) hx hb dL_law_1091 hl (by decide) rfl (fun ls hl => ?_)
  refine lv_aload_n hx hb dL_law_1093 rfl (lv_at hl 4 rfl) ?_
  refine lv_aload_n hx hb dL_law_1094 rfl (lv_at hl 2 rfl) ?_
  refine lv_iload hx hb dL_law_1095 (lv_at hl 1 rfl) ?_
  refine lv_iconst (v := 1) hx hb dL_law_1097 (by decide) ?_
  refine lv_iadd hx hb dL_law_1098 ?_
  refine lv_topc (v := 1) (by decide) ?_
  refine va_sld hx hb hX hbl hbA hS (inb_in (by decide)) dL_law_1099 ?_
  rw [show xs ((1 : Int32).toNatClampNeg) = xs 1 from rfl]
  refine va_calli (nb_runVr (As := [.int (xs 1)]) (rest := []) hA2 hx hb hml hown hSW hS hW (m_X11_rehearse_ l z ad2 G2 hA2 A (mW w9) hF2 (xs 1) hg) mf_X11_rehearse_ lk_L_169 hF2.1 rfl rfl ⟨rfl, rfl⟩ ⟨Nat.le_of_ble_eq_true rfl, Nat.le_of_ble_eq_true rfl⟩ hl.1 (Nat.le_of_ble_eq_true rfl) dL_law_1100 ⟨Nat.le_of_ble_eq_true rfl, Nat.le_of_ble_eq_true rfl⟩) hS (fun _ _ h => h) (fun _ h => h) (fun r7 G3 t7 H locs ht7 _ hp7 hW7 _ _ hS => ?_)
  obtain ⟨hk7, hFw⟩ := hp7
  rw [hk7]
  subst ht7
  replace hW : GW z ad2 G3 t7.heap := hW7
  refine lv_istore (lv' := [(6, .int b9), (5, .int k), (4, .int 0), (0, .ref b), (1, .ref (ad 0 0)), (2, .ref (A 0)), (3, .ref (A 13))]) hx hb dL_law_1103 hl (by decide) rfl (fun ls hl => ?_)
  refine lv_aload_n hx hb dL_law_1105 rfl (lv_at hl 5 rfl) ?_
  obtain ⟨⟨fs9, hk0, -⟩, -⟩ := id hFw
  refine nb_ci (nb_runVr (As := []) (rest := []) hA2 hx hb hml hown hSW hS hW (m_thrown9 l z _ _ hA2 A hFw) mf_X11_thrown lk_L_123 hk0 rfl rfl ⟨rfl, rfl⟩ ⟨Nat.le_of_ble_eq_true rfl, Nat.le_of_ble_eq_true rfl⟩ hl.1 (Nat.le_of_ble_eq_true rfl) dL_law_1106 ⟨Nat.le_of_ble_eq_true rfl, Nat.le_of_ble_eq_true rfl⟩) hS (fun H locs hW hS => ?_)
  refine lv_iload hx hb dL_law_1109 (lv_at hl 1 rfl) ?_
  refine lv_icmp_eq (tgt := 1116) hx hb dL_law_1111 (by decide) (fun _ => ?_) (fun hc => absurd rfl hc)
  refine lv_iload hx hb dL_law_1116 (lv_at hl 1 rfl) ?_
  refine lv_if_ne (tgt := 1133) hx hb dL_law_1118 (by decide) (fun ck => ?_) (fun ck => ?_)
  · refine lv_goto (tgt := 2307) hx hb dL_law_1133 (by decide) ?_
    refine W.widen (k := 5000) (n := 50000) (Nat.le_of_ble_eq_true rfl) (Nat.le_of_ble_eq_true rfl) ?_
    exact kk _ _ _ hS (lv_sub hl [2, 3] rfl)
  · refine lv_aload_n hx hb dL_law_1121 rfl (lv_at hl 6 rfl) ?_
    refine lv_iconst (v := 0) hx hb dL_law_1122 (by decide) ?_
    refine nb_outr hA2 hx hb hK hW hFw dL_law_1123 ?_
    rw [show fmO (mW w9) = b9.toInt64 from congrArg Int32.toInt64 (hkb ck)]
    refine lv_iload hx hb dL_law_1124 (lv_at hl 0 rfl) ?_
    refine lv_i2l hx hb dL_law_1126 rfl ?_
    refine W.lcmp hx hb dL_law_1127 ?_
    refine lv_topc (v := 0) lg_self ?_
    refine lv_if_eq (tgt := 1133) hx hb dL_law_1128 (by decide) (fun _ => ?_) (fun hc => absurd rfl hc)
    refine lv_goto (tgt := 2307) hx hb dL_law_1133 (by decide) ?_
    refine W.widen (k := 5000) (n := 50000) (Nat.le_of_ble_eq_true rfl) (Nat.le_of_ble_eq_true rfl) ?_
    exact kk _ _ _ hS (lv_sub hl [2, 3] rfl)
set_option maxRecDepth 100000 in
set_option maxHeartbeats 4000000 in
theorem lc_pass (h : LX p l e s m meth c b xs z o ad X A) (hW : GW z ad (GC z ad N0 X u00) H) (hS : va_S (zA z) s.heap H locs) (hl : lv_has ls 9 [(4, .int 0), (0, .ref b), (1, .ref (ad 0 0)), (2, .ref (A 0)), (3, .ref (A 13))]) (hag : ∃ k w9 b9, R_pass (xs 1) (xs 2) (xs 3) k w9 0 ∧ g_X11_pass (mW w9) (xs 1) (xs 2) (xs 3) = some (b9, k) ∧ (k = 0 → w9 = b9))
    (kk : ∀ (H1 : Heap) (locs1 : List Loc) (ls1 : Array Slot), va_S (zA z) s.heap H1 locs1 → lv_has ls1 9 [(4, .int 0), (0, .ref b)] → W p l e room_1 s m #[Value.ref b] below meth c H1 locs1 5000 50000 Q (F0 m 2307 ls1 [])) : W p l e room_1 s m #[Value.ref b] below meth c H locs 1000 10000 Q (F0 m 1136 ls []) := by
  obtain ⟨hx, hb, hml, hown, hSW, hSO, hfl, hA, hF, hA9, hX, hbl, hbA⟩ := h
  obtain ⟨hT, hK, hST, hB0⟩ := id hSW
  refine lv_aload_n hx hb dL_law_1136 rfl (lv_at hl 2 rfl) ?_
  refine lv_aload_n hx hb dL_law_1137 rfl (lv_at hl 1 rfl) ?_
  refine lv_iload hx hb dL_law_1138 (lv_at hl 0 rfl) ?_
  refine lv_iconst (v := 1) hx hb dL_law_1140 (by decide) ?_
  refine lv_iadd hx hb dL_law_1141 ?_
  refine lv_topc (v := 1) (by decide) ?_
  refine va_sld hx hb hX hbl hbA hS (inb_in (by decide)) dL_law_1142 ?_
  rw [show xs ((1 : Int32).toNatClampNeg) = xs 1 from rfl]
  refine lv_aload_n hx hb dL_law_1143 rfl (lv_at hl 1 rfl) ?_
  refine lv_iload hx hb dL_law_1144 (lv_at hl 0 rfl) ?_
  refine lv_iconst (v := 2) hx hb dL_law_1146 (by decide) ?_
  refine lv_iadd hx hb dL_law_1147 ?_
  refine lv_topc (v := 2) (by decide) ?_
  refine va_sld hx hb hX hbl hbA hS (inb_in (by decide)) dL_law_1148 ?_
  rw [show xs ((2 : Int32).toNatClampNeg) = xs 2 from rfl]
  refine lv_aload_n hx hb dL_law_1149 rfl (lv_at hl 1 rfl) ?_
  refine lv_iload hx hb dL_law_1150 (lv_at hl 0 rfl) ?_
  refine lv_iconst (v := 3) hx hb dL_law_1152 (by decide) ?_
  refine lv_iadd hx hb dL_law_1153 ?_
  refine lv_topc (v := 3) (by decide) ?_
  refine va_sld hx hb hX hbl hbA hS (inb_in (by decide)) dL_law_1154 ?_
  rw [show xs ((3 : Int32).toNatClampNeg) = xs 3 from rfl]
  refine lv_aload_n hx hb dL_law_1155 rfl (lv_at hl 4 rfl) ?_
  obtain ⟨k, w9, b9, hR, hg, hkb⟩ := hag
  refine va_calli (nb_runW (As := [.ref (ad 0 0), .int (xs 1), .int (xs 2), .int (xs 3), .ref (A 13)]) (rest := []) hx hb hml hown hSW hSO hS hW (w_pass l hfl z o ad X hA A 0 hF (xs 1) (xs 2) (xs 3) hR) mfw_pass (List.mem_of_getElem? (i := 866) (by decide +kernel)) rfl ⟨rfl, rfl⟩ ⟨Nat.le_of_ble_eq_true rfl, Nat.le_of_ble_eq_true rfl⟩ hl.1 (Nat.le_of_ble_eq_true rfl) dL_law_1156 ⟨Nat.le_of_ble_eq_true rfl, Nat.le_of_ble_eq_true rfl⟩) hS (fun _ _ h => h) (fun _ h => h) (fun r9 v9 t9 H locs ht9 _ hp9 hW9 _ _ hS => ?_)
  obtain ⟨hk9, hA2, hF2⟩ := hp9
  rw [hk9]
  subst ht9
  obtain ⟨ad2, G2⟩ := v9
  replace hW : GW z ad2 G2 t9.heap := hW9
  refine lv_istore (lv' := [(5, .int k), (4, .int 0), (0, .ref b), (1, .ref (ad 0 0)), (2, .ref (A 0)), (3, .ref (A 13))]) hx hb dL_law_1159 hl (by decide) rfl (fun ls hl => ?_)
  refine lv_aload_n hx hb dL_law_1161 rfl (lv_at hl 4 rfl) ?_
  refine lv_aload_n hx hb dL_law_1162 rfl (lv_at hl 2 rfl) ?_
  refine lv_iload hx hb dL_law_1163 (lv_at hl 1 rfl) ?_
  refine lv_iconst (v := 1) hx hb dL_law_1165 (by decide) ?_
  refine lv_iadd hx hb dL_law_1166 ?_
  refine lv_topc (v := 1) (by decide) ?_
  refine va_sld hx hb hX hbl hbA hS (inb_in (by decide)) dL_law_1167 ?_
  rw [show xs ((1 : Int32).toNatClampNeg) = xs 1 from rfl]
  refine lv_aload_n hx hb dL_law_1168 rfl (lv_at hl 2 rfl) ?_
  refine lv_iload hx hb dL_law_1169 (lv_at hl 1 rfl) ?_
  refine lv_iconst (v := 2) hx hb dL_law_1171 (by decide) ?_
  refine lv_iadd hx hb dL_law_1172 ?_
  refine lv_topc (v := 2) (by decide) ?_
  refine va_sld hx hb hX hbl hbA hS (inb_in (by decide)) dL_law_1173 ?_
  rw [show xs ((2 : Int32).toNatClampNeg) = xs 2 from rfl]
  refine lv_aload_n hx hb dL_law_1174 rfl (lv_at hl 2 rfl) ?_
  refine lv_iload hx hb dL_law_1175 (lv_at hl 1 rfl) ?_
  refine lv_iconst (v := 3) hx hb dL_law_1177 (by decide) ?_
  refine lv_iadd hx hb dL_law_1178 ?_
  refine lv_topc (v := 3) (by decide) ?_
  refine va_sld hx hb hX hbl hbA hS (inb_in (by decide)) dL_law_1179 ?_
  rw [show xs ((3 : Int32).toNatClampNeg) = xs 3 from rfl]
  refine va_calli (nb_runVr (As := [.int (xs 1), .int (xs 2), .int (xs 3)]) (rest := []) hA2 hx hb hml hown hSW hS hW (m_X11_pass l z ad2 G2 hA2 A (mW w9) hF2 (xs 1) (xs 2) (xs 3) hg) mf_X11_pass lk_L_172 hF2.1 rfl rfl ⟨rfl, rfl⟩ ⟨Nat.le_of_ble_eq_true rfl, Nat.le_of_ble_eq_true rfl⟩ hl.1 (Nat.le_of_ble_eq_true rfl) dL_law_1180 ⟨Nat.le_of_ble_eq_true rfl, Nat.le_of_ble_eq_true rfl⟩) hS (fun _ _ h => h) (fun _ h => h) (fun r7 G3 t7 H locs ht7 _ hp7 hW7 _ _ hS => ?_)
  obtain ⟨hk7, hFw⟩ := hp7
  rw [hk7]
  subst ht7
  replace hW : GW z ad2 G3 t7.heap := hW7
  refine lv_istore (lv' := [(6, .int b9), (5, .int k), (4, .int 0), (0, .ref b), (1, .ref (ad 0 0)), (2, .ref (A 0)), (3, .ref (A 13))]) hx hb dL_law_1183 hl (by decide) rfl (fun ls hl => ?_)
  refine lv_aload_n hx hb dL_law_1185 rfl (lv_at hl 5 rfl) ?_
  obtain ⟨⟨fs9, hk0, -⟩, -⟩ := id hFw
  refine nb_ci (nb_runVr (As := []) (rest := []) hA2 hx hb hml hown hSW hS hW (m_thrown9 l z _ _ hA2 A hFw) mf_X11_thrown lk_L_123 hk0 rfl rfl ⟨rfl, rfl⟩ ⟨Nat.le_of_ble_eq_true rfl, Nat.le_of_ble_eq_true rfl⟩ hl.1 (Nat.le_of_ble_eq_true rfl) dL_law_1186 ⟨Nat.le_of_ble_eq_true rfl, Nat.le_of_ble_eq_true rfl⟩) hS (fun H locs hW hS => ?_)
  refine lv_iload hx hb dL_law_1189 (lv_at hl 1 rfl) ?_
  refine lv_icmp_eq (tgt := 1196) hx hb dL_law_1191 (by decide) (fun _ => ?_) (fun hc => absurd rfl hc)
  refine lv_iload hx hb dL_law_1196 (lv_at hl 1 rfl) ?_
  refine lv_if_ne (tgt := 1213) hx hb dL_law_1198 (by decide) (fun ck => ?_) (fun ck => ?_)
  · refine lv_goto (tgt := 2307) hx hb dL_law_1213 (by decide) ?_
    refine W.widen (k := 5000) (n := 50000) (Nat.le_of_ble_eq_true rfl) (Nat.le_of_ble_eq_true rfl) ?_
    exact kk _ _ _ hS (lv_sub hl [2, 3] rfl)
  · refine lv_aload_n hx hb dL_law_1201 rfl (lv_at hl 6 rfl) ?_
    refine lv_iconst (v := 0) hx hb dL_law_1202 (by decide) ?_
    refine nb_outr hA2 hx hb hK hW hFw dL_law_1203 ?_
    rw [show fmO (mW w9) = b9.toInt64 from congrArg Int32.toInt64 (hkb ck)]
    refine lv_iload hx hb dL_law_1204 (lv_at hl 0 rfl) ?_
    refine lv_i2l hx hb dL_law_1206 rfl ?_
    refine W.lcmp hx hb dL_law_1207 ?_
    refine lv_topc (v := 0) lg_self ?_
    refine lv_if_eq (tgt := 1213) hx hb dL_law_1208 (by decide) (fun _ => ?_) (fun hc => absurd rfl hc)
    refine lv_goto (tgt := 2307) hx hb dL_law_1213 (by decide) ?_
    refine W.widen (k := 5000) (n := 50000) (Nat.le_of_ble_eq_true rfl) (Nat.le_of_ble_eq_true rfl) ?_
    exact kk _ _ _ hS (lv_sub hl [2, 3] rfl)
set_option maxRecDepth 100000 in
set_option maxHeartbeats 4000000 in
theorem lc_sponsor (h : LX p l e s m meth c b xs z o ad X A) (hW : GW z ad (GC z ad N0 X u00) H) (hS : va_S (zA z) s.heap H locs) (hl : lv_has ls 9 [(4, .int 0), (0, .ref b), (1, .ref (ad 0 0)), (2, .ref (A 0)), (3, .ref (A 13))]) (hag : ∃ k w9 b9, R_sponsor (xs 1) k w9 0 ∧ g_X11_sponsor (mW w9) (xs 1) = some (b9, k) ∧ (k = 0 → w9 = b9))
    (kk : ∀ (H1 : Heap) (locs1 : List Loc) (ls1 : Array Slot), va_S (zA z) s.heap H1 locs1 → lv_has ls1 9 [(4, .int 0), (0, .ref b)] → W p l e room_1 s m #[Value.ref b] below meth c H1 locs1 5000 50000 Q (F0 m 2307 ls1 [])) : W p l e room_1 s m #[Value.ref b] below meth c H locs 1000 10000 Q (F0 m 1216 ls []) := by
  obtain ⟨hx, hb, hml, hown, hSW, hSO, hfl, hA, hF, hA9, hX, hbl, hbA⟩ := h
  obtain ⟨hT, hK, hST, hB0⟩ := id hSW
  refine lv_aload_n hx hb dL_law_1216 rfl (lv_at hl 2 rfl) ?_
  refine lv_aload_n hx hb dL_law_1217 rfl (lv_at hl 1 rfl) ?_
  refine lv_iload hx hb dL_law_1218 (lv_at hl 0 rfl) ?_
  refine lv_iconst (v := 1) hx hb dL_law_1220 (by decide) ?_
  refine lv_iadd hx hb dL_law_1221 ?_
  refine lv_topc (v := 1) (by decide) ?_
  refine va_sld hx hb hX hbl hbA hS (inb_in (by decide)) dL_law_1222 ?_
  rw [show xs ((1 : Int32).toNatClampNeg) = xs 1 from rfl]
  refine lv_aload_n hx hb dL_law_1223 rfl (lv_at hl 4 rfl) ?_
  obtain ⟨k, w9, b9, hR, hg, hkb⟩ := hag
  refine va_calli (nb_runW (As := [.ref (ad 0 0), .int (xs 1), .ref (A 13)]) (rest := []) hx hb hml hown hSW hSO hS hW (w_sponsor l hfl z o ad X hA A 0 hF (xs 1) hR) mfw_sponsor (List.mem_of_getElem? (i := 887) (by decide +kernel)) rfl ⟨rfl, rfl⟩ ⟨Nat.le_of_ble_eq_true rfl, Nat.le_of_ble_eq_true rfl⟩ hl.1 (Nat.le_of_ble_eq_true rfl) dL_law_1224 ⟨Nat.le_of_ble_eq_true rfl, Nat.le_of_ble_eq_true rfl⟩) hS (fun _ _ h => h) (fun _ h => h) (fun r9 v9 t9 H locs ht9 _ hp9 hW9 _ _ hS => ?_)
  obtain ⟨hk9, hA2, hF2⟩ := hp9
  rw [hk9]
  subst ht9
  obtain ⟨ad2, G2⟩ := v9
  replace hW : GW z ad2 G2 t9.heap := hW9
  refine lv_istore (lv' := [(5, .int k), (4, .int 0), (0, .ref b), (1, .ref (ad 0 0)), (2, .ref (A 0)), (3, .ref (A 13))]) hx hb dL_law_1227 hl (by decide) rfl (fun ls hl => ?_)
  refine lv_aload_n hx hb dL_law_1229 rfl (lv_at hl 4 rfl) ?_
  refine lv_aload_n hx hb dL_law_1230 rfl (lv_at hl 2 rfl) ?_
  refine lv_iload hx hb dL_law_1231 (lv_at hl 1 rfl) ?_
  refine lv_iconst (v := 1) hx hb dL_law_1233 (by decide) ?_
  refine lv_iadd hx hb dL_law_1234 ?_
  refine lv_topc (v := 1) (by decide) ?_
  refine va_sld hx hb hX hbl hbA hS (inb_in (by decide)) dL_law_1235 ?_
  rw [show xs ((1 : Int32).toNatClampNeg) = xs 1 from rfl]
  refine va_calli (nb_runVr (As := [.int (xs 1)]) (rest := []) hA2 hx hb hml hown hSW hS hW (m_X11_sponsor l z ad2 G2 hA2 A (mW w9) hF2 (xs 1) hg) mf_X11_sponsor lk_L_175 hF2.1 rfl rfl ⟨rfl, rfl⟩ ⟨Nat.le_of_ble_eq_true rfl, Nat.le_of_ble_eq_true rfl⟩ hl.1 (Nat.le_of_ble_eq_true rfl) dL_law_1236 ⟨Nat.le_of_ble_eq_true rfl, Nat.le_of_ble_eq_true rfl⟩) hS (fun _ _ h => h) (fun _ h => h) (fun r7 G3 t7 H locs ht7 _ hp7 hW7 _ _ hS => ?_)
  obtain ⟨hk7, hFw⟩ := hp7
  rw [hk7]
  subst ht7
  replace hW : GW z ad2 G3 t7.heap := hW7
  refine lv_istore (lv' := [(6, .int b9), (5, .int k), (4, .int 0), (0, .ref b), (1, .ref (ad 0 0)), (2, .ref (A 0)), (3, .ref (A 13))]) hx hb dL_law_1239 hl (by decide) rfl (fun ls hl => ?_)
  refine lv_aload_n hx hb dL_law_1241 rfl (lv_at hl 5 rfl) ?_
  obtain ⟨⟨fs9, hk0, -⟩, -⟩ := id hFw
  refine nb_ci (nb_runVr (As := []) (rest := []) hA2 hx hb hml hown hSW hS hW (m_thrown9 l z _ _ hA2 A hFw) mf_X11_thrown lk_L_123 hk0 rfl rfl ⟨rfl, rfl⟩ ⟨Nat.le_of_ble_eq_true rfl, Nat.le_of_ble_eq_true rfl⟩ hl.1 (Nat.le_of_ble_eq_true rfl) dL_law_1242 ⟨Nat.le_of_ble_eq_true rfl, Nat.le_of_ble_eq_true rfl⟩) hS (fun H locs hW hS => ?_)
  refine lv_iload hx hb dL_law_1245 (lv_at hl 1 rfl) ?_
  refine lv_icmp_eq (tgt := 1252) hx hb dL_law_1247 (by decide) (fun _ => ?_) (fun hc => absurd rfl hc)
  refine lv_iload hx hb dL_law_1252 (lv_at hl 1 rfl) ?_
  refine lv_if_ne (tgt := 1269) hx hb dL_law_1254 (by decide) (fun ck => ?_) (fun ck => ?_)
  · refine lv_goto (tgt := 2307) hx hb dL_law_1269 (by decide) ?_
    refine W.widen (k := 5000) (n := 50000) (Nat.le_of_ble_eq_true rfl) (Nat.le_of_ble_eq_true rfl) ?_
    exact kk _ _ _ hS (lv_sub hl [2, 3] rfl)
  · refine lv_aload_n hx hb dL_law_1257 rfl (lv_at hl 6 rfl) ?_
    refine lv_iconst (v := 0) hx hb dL_law_1258 (by decide) ?_
    refine nb_outr hA2 hx hb hK hW hFw dL_law_1259 ?_
    rw [show fmO (mW w9) = b9.toInt64 from congrArg Int32.toInt64 (hkb ck)]
    refine lv_iload hx hb dL_law_1260 (lv_at hl 0 rfl) ?_
    refine lv_i2l hx hb dL_law_1262 rfl ?_
    refine W.lcmp hx hb dL_law_1263 ?_
    refine lv_topc (v := 0) lg_self ?_
    refine lv_if_eq (tgt := 1269) hx hb dL_law_1264 (by decide) (fun _ => ?_) (fun hc => absurd rfl hc)
    refine lv_goto (tgt := 2307) hx hb dL_law_1269 (by decide) ?_
    refine W.widen (k := 5000) (n := 50000) (Nat.le_of_ble_eq_true rfl) (Nat.le_of_ble_eq_true rfl) ?_
    exact kk _ _ _ hS (lv_sub hl [2, 3] rfl)
set_option maxRecDepth 100000 in
set_option maxHeartbeats 4000000 in
theorem lc_rival (h : LX p l e s m meth c b xs z o ad X A) (hW : GW z ad (GC z ad N0 X u00) H) (hS : va_S (zA z) s.heap H locs) (hl : lv_has ls 9 [(4, .int 0), (0, .ref b), (1, .ref (ad 0 0)), (2, .ref (A 0)), (3, .ref (A 13))]) (hag : ∃ k w9 b9, R_rival (xs 1) k w9 0 ∧ g_X11_rival (mW w9) (xs 1) = some (b9, k) ∧ (k = 0 → w9 = b9))
    (kk : ∀ (H1 : Heap) (locs1 : List Loc) (ls1 : Array Slot), va_S (zA z) s.heap H1 locs1 → lv_has ls1 9 [(4, .int 0), (0, .ref b)] → W p l e room_1 s m #[Value.ref b] below meth c H1 locs1 5000 50000 Q (F0 m 2307 ls1 [])) : W p l e room_1 s m #[Value.ref b] below meth c H locs 1000 10000 Q (F0 m 1272 ls []) := by
  obtain ⟨hx, hb, hml, hown, hSW, hSO, hfl, hA, hF, hA9, hX, hbl, hbA⟩ := h
  obtain ⟨hT, hK, hST, hB0⟩ := id hSW
  refine lv_aload_n hx hb dL_law_1272 rfl (lv_at hl 2 rfl) ?_
  refine lv_aload_n hx hb dL_law_1273 rfl (lv_at hl 1 rfl) ?_
  refine lv_iload hx hb dL_law_1274 (lv_at hl 0 rfl) ?_
  refine lv_iconst (v := 1) hx hb dL_law_1276 (by decide) ?_
  refine lv_iadd hx hb dL_law_1277 ?_
  refine lv_topc (v := 1) (by decide) ?_
  refine va_sld hx hb hX hbl hbA hS (inb_in (by decide)) dL_law_1278 ?_
  rw [show xs ((1 : Int32).toNatClampNeg) = xs 1 from rfl]
  refine lv_aload_n hx hb dL_law_1279 rfl (lv_at hl 4 rfl) ?_
  obtain ⟨k, w9, b9, hR, hg, hkb⟩ := hag
  refine va_calli (nb_runW (As := [.ref (ad 0 0), .int (xs 1), .ref (A 13)]) (rest := []) hx hb hml hown hSW hSO hS hW (w_rival l hfl z o ad X hA A 0 hF (xs 1) hR) mfw_rival (List.mem_of_getElem? (i := 895) (by decide +kernel)) rfl ⟨rfl, rfl⟩ ⟨Nat.le_of_ble_eq_true rfl, Nat.le_of_ble_eq_true rfl⟩ hl.1 (Nat.le_of_ble_eq_true rfl) dL_law_1280 ⟨Nat.le_of_ble_eq_true rfl, Nat.le_of_ble_eq_true rfl⟩) hS (fun _ _ h => h) (fun _ h => h) (fun r9 v9 t9 H locs ht9 _ hp9 hW9 _ _ hS => ?_)
  obtain ⟨hk9, hA2, hF2⟩ := hp9
  rw [hk9]
  subst ht9
  obtain ⟨ad2, G2⟩ := v9
  replace hW : GW z ad2 G2 t9.heap := hW9
  refine lv_istore (lv' := [(5, .int k), (4, .int 0), (0, .ref b), (1, .ref (ad 0 0)), (2, .ref (A 0)), (3, .ref (A 13))]) hx hb dL_law_1283 hl (by decide) rfl (fun ls hl => ?_)
  refine lv_aload_n hx hb dL_law_1285 rfl (lv_at hl 4 rfl) ?_
  refine lv_aload_n hx hb dL_law_1286 rfl (lv_at hl 2 rfl) ?_
  refine lv_iload hx hb dL_law_1287 (lv_at hl 1 rfl) ?_
  refine lv_iconst (v := 1) hx hb dL_law_1289 (by decide) ?_
  refine lv_iadd hx hb dL_law_1290 ?_
  refine lv_topc (v := 1) (by decide) ?_
  refine va_sld hx hb hX hbl hbA hS (inb_in (by decide)) dL_law_1291 ?_
  rw [show xs ((1 : Int32).toNatClampNeg) = xs 1 from rfl]
  refine va_calli (nb_runVo (As := [.int (xs 1)]) (rest := []) hA2 hx hb hml hown hSW hSO hS hW (m_X11_rival l z ad2 G2 hA2 A (mW w9) hF2 o hA9 (xs 1) hg) mf_X11_rival lk_L_178 hF2.1 rfl rfl ⟨rfl, rfl⟩ ⟨Nat.le_of_ble_eq_true rfl, Nat.le_of_ble_eq_true rfl⟩ hl.1 (Nat.le_of_ble_eq_true rfl) dL_law_1292 ⟨Nat.le_of_ble_eq_true rfl, Nat.le_of_ble_eq_true rfl⟩) hS (fun _ _ h => h) (fun _ h => h) (fun r7 G3 t7 H locs ht7 _ hp7 hW7 _ _ hS => ?_)
  obtain ⟨hk7, hFw⟩ := hp7
  rw [hk7]
  subst ht7
  replace hW : GW z ad2 G3 t7.heap := hW7
  refine lv_istore (lv' := [(6, .int b9), (5, .int k), (4, .int 0), (0, .ref b), (1, .ref (ad 0 0)), (2, .ref (A 0)), (3, .ref (A 13))]) hx hb dL_law_1295 hl (by decide) rfl (fun ls hl => ?_)
  refine lv_aload_n hx hb dL_law_1297 rfl (lv_at hl 5 rfl) ?_
  obtain ⟨⟨fs9, hk0, -⟩, -⟩ := id hFw
  refine nb_ci (nb_runVr (As := []) (rest := []) hA2 hx hb hml hown hSW hS hW (m_thrown9 l z _ _ hA2 A hFw) mf_X11_thrown lk_L_123 hk0 rfl rfl ⟨rfl, rfl⟩ ⟨Nat.le_of_ble_eq_true rfl, Nat.le_of_ble_eq_true rfl⟩ hl.1 (Nat.le_of_ble_eq_true rfl) dL_law_1298 ⟨Nat.le_of_ble_eq_true rfl, Nat.le_of_ble_eq_true rfl⟩) hS (fun H locs hW hS => ?_)
  refine lv_iload hx hb dL_law_1301 (lv_at hl 1 rfl) ?_
  refine lv_icmp_eq (tgt := 1308) hx hb dL_law_1303 (by decide) (fun _ => ?_) (fun hc => absurd rfl hc)
  refine lv_iload hx hb dL_law_1308 (lv_at hl 1 rfl) ?_
  refine lv_if_ne (tgt := 1325) hx hb dL_law_1310 (by decide) (fun ck => ?_) (fun ck => ?_)
  · refine lv_goto (tgt := 2307) hx hb dL_law_1325 (by decide) ?_
    refine W.widen (k := 5000) (n := 50000) (Nat.le_of_ble_eq_true rfl) (Nat.le_of_ble_eq_true rfl) ?_
    exact kk _ _ _ hS (lv_sub hl [2, 3] rfl)
  · refine lv_aload_n hx hb dL_law_1313 rfl (lv_at hl 6 rfl) ?_
    refine lv_iconst (v := 0) hx hb dL_law_1314 (by decide) ?_
    refine nb_outr hA2 hx hb hK hW hFw dL_law_1315 ?_
    rw [show fmO (mW w9) = b9.toInt64 from congrArg Int32.toInt64 (hkb ck)]
    refine lv_iload hx hb dL_law_1316 (lv_at hl 0 rfl) ?_
    refine lv_i2l hx hb dL_law_1318 rfl ?_
    refine W.lcmp hx hb dL_law_1319 ?_
    refine lv_topc (v := 0) lg_self ?_
    refine lv_if_eq (tgt := 1325) hx hb dL_law_1320 (by decide) (fun _ => ?_) (fun hc => absurd rfl hc)
    refine lv_goto (tgt := 2307) hx hb dL_law_1325 (by decide) ?_
    refine W.widen (k := 5000) (n := 50000) (Nat.le_of_ble_eq_true rfl) (Nat.le_of_ble_eq_true rfl) ?_
    exact kk _ _ _ hS (lv_sub hl [2, 3] rfl)
set_option maxRecDepth 100000 in
set_option maxHeartbeats 4000000 in
theorem lc_lean (h : LX p l e s m meth c b xs z o ad X A) (hW : GW z ad (GC z ad N0 X u00) H) (hS : va_S (zA z) s.heap H locs) (hl : lv_has ls 9 [(4, .int 0), (0, .ref b), (1, .ref (ad 0 0)), (2, .ref (A 0)), (3, .ref (A 13))]) (hag : ∃ k w9 b9, R_lean (xs 1) (xs 2) k w9 0 ∧ g_X11_lean (mW w9) (xs 1) (xs 2) = some (b9, k) ∧ (k = 0 → w9 = b9))
    (kk : ∀ (H1 : Heap) (locs1 : List Loc) (ls1 : Array Slot), va_S (zA z) s.heap H1 locs1 → lv_has ls1 9 [(4, .int 0), (0, .ref b)] → W p l e room_1 s m #[Value.ref b] below meth c H1 locs1 5000 50000 Q (F0 m 2307 ls1 [])) : W p l e room_1 s m #[Value.ref b] below meth c H locs 1000 10000 Q (F0 m 1328 ls []) := by
  obtain ⟨hx, hb, hml, hown, hSW, hSO, hfl, hA, hF, hA9, hX, hbl, hbA⟩ := h
  obtain ⟨hT, hK, hST, hB0⟩ := id hSW
  refine lv_aload_n hx hb dL_law_1328 rfl (lv_at hl 2 rfl) ?_
  refine lv_aload_n hx hb dL_law_1329 rfl (lv_at hl 1 rfl) ?_
  refine lv_iload hx hb dL_law_1330 (lv_at hl 0 rfl) ?_
  refine lv_iconst (v := 1) hx hb dL_law_1332 (by decide) ?_
  refine lv_iadd hx hb dL_law_1333 ?_
  refine lv_topc (v := 1) (by decide) ?_
  refine va_sld hx hb hX hbl hbA hS (inb_in (by decide)) dL_law_1334 ?_
  rw [show xs ((1 : Int32).toNatClampNeg) = xs 1 from rfl]
  refine lv_aload_n hx hb dL_law_1335 rfl (lv_at hl 1 rfl) ?_
  refine lv_iload hx hb dL_law_1336 (lv_at hl 0 rfl) ?_
  refine lv_iconst (v := 2) hx hb dL_law_1338 (by decide) ?_
  refine lv_iadd hx hb dL_law_1339 ?_
  refine lv_topc (v := 2) (by decide) ?_
  refine va_sld hx hb hX hbl hbA hS (inb_in (by decide)) dL_law_1340 ?_
  rw [show xs ((2 : Int32).toNatClampNeg) = xs 2 from rfl]
  refine lv_aload_n hx hb dL_law_1341 rfl (lv_at hl 4 rfl) ?_
  obtain ⟨k, w9, b9, hR, hg, hkb⟩ := hag
  refine va_calli (nb_runW (As := [.ref (ad 0 0), .int (xs 1), .int (xs 2), .ref (A 13)]) (rest := []) hx hb hml hown hSW hSO hS hW (w_lean l hfl z o ad X hA A 0 hF (xs 1) (xs 2) hR) mfw_lean (List.mem_of_getElem? (i := 904) (by decide +kernel)) rfl ⟨rfl, rfl⟩ ⟨Nat.le_of_ble_eq_true rfl, Nat.le_of_ble_eq_true rfl⟩ hl.1 (Nat.le_of_ble_eq_true rfl) dL_law_1342 ⟨Nat.le_of_ble_eq_true rfl, Nat.le_of_ble_eq_true rfl⟩) hS (fun _ _ h => h) (fun _ h => h) (fun r9 v9 t9 H locs ht9 _ hp9 hW9 _ _ hS => ?_)
  obtain ⟨hk9, hA2, hF2⟩ := hp9
  rw [hk9]
  subst ht9
  obtain ⟨ad2, G2⟩ := v9
  replace hW : GW z ad2 G2 t9.heap := hW9
  refine lv_istore (lv' := [(5, .int k), (4, .int 0), (0, .ref b), (1, .ref (ad 0 0)), (2, .ref (A 0)), (3, .ref (A 13))]) hx hb dL_law_1345 hl (by decide) rfl (fun ls hl => ?_)
  refine lv_aload_n hx hb dL_law_1347 rfl (lv_at hl 4 rfl) ?_
  refine lv_aload_n hx hb dL_law_1348 rfl (lv_at hl 2 rfl) ?_
  refine lv_iload hx hb dL_law_1349 (lv_at hl 1 rfl) ?_
  refine lv_iconst (v := 1) hx hb dL_law_1351 (by decide) ?_
  refine lv_iadd hx hb dL_law_1352 ?_
  refine lv_topc (v := 1) (by decide) ?_
  refine va_sld hx hb hX hbl hbA hS (inb_in (by decide)) dL_law_1353 ?_
  rw [show xs ((1 : Int32).toNatClampNeg) = xs 1 from rfl]
  refine lv_aload_n hx hb dL_law_1354 rfl (lv_at hl 2 rfl) ?_
  refine lv_iload hx hb dL_law_1355 (lv_at hl 1 rfl) ?_
  refine lv_iconst (v := 2) hx hb dL_law_1357 (by decide) ?_
  refine lv_iadd hx hb dL_law_1358 ?_
  refine lv_topc (v := 2) (by decide) ?_
  refine va_sld hx hb hX hbl hbA hS (inb_in (by decide)) dL_law_1359 ?_
  rw [show xs ((2 : Int32).toNatClampNeg) = xs 2 from rfl]
  refine va_calli (nb_runVr (As := [.int (xs 1), .int (xs 2)]) (rest := []) hA2 hx hb hml hown hSW hS hW (m_X11_lean l z ad2 G2 hA2 A (mW w9) hF2 (xs 1) (xs 2) hg) mf_X11_lean lk_L_181 hF2.1 rfl rfl ⟨rfl, rfl⟩ ⟨Nat.le_of_ble_eq_true rfl, Nat.le_of_ble_eq_true rfl⟩ hl.1 (Nat.le_of_ble_eq_true rfl) dL_law_1360 ⟨Nat.le_of_ble_eq_true rfl, Nat.le_of_ble_eq_true rfl⟩) hS (fun _ _ h => h) (fun _ h => h) (fun r7 G3 t7 H locs ht7 _ hp7 hW7 _ _ hS => ?_)
  obtain ⟨hk7, hFw⟩ := hp7
  rw [hk7]
  subst ht7
  replace hW : GW z ad2 G3 t7.heap := hW7
  refine lv_istore (lv' := [(6, .int b9), (5, .int k), (4, .int 0), (0, .ref b), (1, .ref (ad 0 0)), (2, .ref (A 0)), (3, .ref (A 13))]) hx hb dL_law_1363 hl (by decide) rfl (fun ls hl => ?_)
  refine lv_aload_n hx hb dL_law_1365 rfl (lv_at hl 5 rfl) ?_
  obtain ⟨⟨fs9, hk0, -⟩, -⟩ := id hFw
  refine nb_ci (nb_runVr (As := []) (rest := []) hA2 hx hb hml hown hSW hS hW (m_thrown9 l z _ _ hA2 A hFw) mf_X11_thrown lk_L_123 hk0 rfl rfl ⟨rfl, rfl⟩ ⟨Nat.le_of_ble_eq_true rfl, Nat.le_of_ble_eq_true rfl⟩ hl.1 (Nat.le_of_ble_eq_true rfl) dL_law_1366 ⟨Nat.le_of_ble_eq_true rfl, Nat.le_of_ble_eq_true rfl⟩) hS (fun H locs hW hS => ?_)
  refine lv_iload hx hb dL_law_1369 (lv_at hl 1 rfl) ?_
  refine lv_icmp_eq (tgt := 1376) hx hb dL_law_1371 (by decide) (fun _ => ?_) (fun hc => absurd rfl hc)
  refine lv_iload hx hb dL_law_1376 (lv_at hl 1 rfl) ?_
  refine lv_if_ne (tgt := 1393) hx hb dL_law_1378 (by decide) (fun ck => ?_) (fun ck => ?_)
  · refine lv_goto (tgt := 2307) hx hb dL_law_1393 (by decide) ?_
    refine W.widen (k := 5000) (n := 50000) (Nat.le_of_ble_eq_true rfl) (Nat.le_of_ble_eq_true rfl) ?_
    exact kk _ _ _ hS (lv_sub hl [2, 3] rfl)
  · refine lv_aload_n hx hb dL_law_1381 rfl (lv_at hl 6 rfl) ?_
    refine lv_iconst (v := 0) hx hb dL_law_1382 (by decide) ?_
    refine nb_outr hA2 hx hb hK hW hFw dL_law_1383 ?_
    rw [show fmO (mW w9) = b9.toInt64 from congrArg Int32.toInt64 (hkb ck)]
    refine lv_iload hx hb dL_law_1384 (lv_at hl 0 rfl) ?_
    refine lv_i2l hx hb dL_law_1386 rfl ?_
    refine W.lcmp hx hb dL_law_1387 ?_
    refine lv_topc (v := 0) lg_self ?_
    refine lv_if_eq (tgt := 1393) hx hb dL_law_1388 (by decide) (fun _ => ?_) (fun hc => absurd rfl hc)
    refine lv_goto (tgt := 2307) hx hb dL_law_1393 (by decide) ?_
    refine W.widen (k := 5000) (n := 50000) (Nat.le_of_ble_eq_true rfl) (Nat.le_of_ble_eq_true rfl) ?_
    exact kk _ _ _ hS (lv_sub hl [2, 3] rfl)
set_option maxRecDepth 100000 in
set_option maxHeartbeats 4000000 in
theorem lc_play (h : LX p l e s m meth c b xs z o ad X A) (hW : GW z ad (GC z ad N0 X u00) H) (hS : va_S (zA z) s.heap H locs) (hl : lv_has ls 9 [(4, .int 0), (0, .ref b), (1, .ref (ad 0 0)), (2, .ref (A 0)), (3, .ref (A 13))]) (hag : ∃ k w9 b9, R_play k w9 0 ∧ g_X11_play (mW w9) = some (b9, k) ∧ k ≠ 0)
    (kk : ∀ (H1 : Heap) (locs1 : List Loc) (ls1 : Array Slot), va_S (zA z) s.heap H1 locs1 → lv_has ls1 9 [(4, .int 0), (0, .ref b)] → W p l e room_1 s m #[Value.ref b] below meth c H1 locs1 5000 50000 Q (F0 m 2307 ls1 [])) : W p l e room_1 s m #[Value.ref b] below meth c H locs 1000 10000 Q (F0 m 1396 ls []) := by
  obtain ⟨hx, hb, hml, hown, hSW, hSO, hfl, hA, hF, hA9, hX, hbl, hbA⟩ := h
  obtain ⟨hT, hK, hST, hB0⟩ := id hSW
  refine lv_aload_n hx hb dL_law_1396 rfl (lv_at hl 2 rfl) ?_
  refine lv_aload_n hx hb dL_law_1397 rfl (lv_at hl 4 rfl) ?_
  obtain ⟨k, w9, b9, hR, hg, hkb⟩ := hag
  refine va_calli (nb_runW (As := [.ref (ad 0 0), .ref (A 13)]) (rest := []) hx hb hml hown hSW hSO hS hW (w_play l hfl z o ad X hA A 0 hF hR) mfw_play (List.mem_of_getElem? (i := 913) (by decide +kernel)) rfl ⟨rfl, rfl⟩ ⟨Nat.le_of_ble_eq_true rfl, Nat.le_of_ble_eq_true rfl⟩ hl.1 (Nat.le_of_ble_eq_true rfl) dL_law_1398 ⟨Nat.le_of_ble_eq_true rfl, Nat.le_of_ble_eq_true rfl⟩) hS (fun _ _ h => h) (fun _ h => h) (fun r9 v9 t9 H locs ht9 _ hp9 hW9 _ _ hS => ?_)
  obtain ⟨hk9, hA2, hF2⟩ := hp9
  rw [hk9]
  subst ht9
  obtain ⟨ad2, G2⟩ := v9
  replace hW : GW z ad2 G2 t9.heap := hW9
  refine lv_istore (lv' := [(5, .int k), (4, .int 0), (0, .ref b), (1, .ref (ad 0 0)), (2, .ref (A 0)), (3, .ref (A 13))]) hx hb dL_law_1401 hl (by decide) rfl (fun ls hl => ?_)
  refine lv_aload_n hx hb dL_law_1403 rfl (lv_at hl 4 rfl) ?_
  refine va_calli (nb_runVr (As := []) (rest := []) hA2 hx hb hml hown hSW hS hW (m_X11_play l z ad2 G2 hA2 A (mW w9) hF2 hg) mf_X11_play lk_L_185 hF2.1 rfl rfl ⟨rfl, rfl⟩ ⟨Nat.le_of_ble_eq_true rfl, Nat.le_of_ble_eq_true rfl⟩ hl.1 (Nat.le_of_ble_eq_true rfl) dL_law_1404 ⟨Nat.le_of_ble_eq_true rfl, Nat.le_of_ble_eq_true rfl⟩) hS (fun _ _ h => h) (fun _ h => h) (fun r7 G3 t7 H locs ht7 _ hp7 hW7 _ _ hS => ?_)
  obtain ⟨hk7, hFw⟩ := hp7
  rw [hk7]
  subst ht7
  replace hW : GW z ad2 G3 t7.heap := hW7
  refine lv_istore (lv' := [(6, .int b9), (5, .int k), (4, .int 0), (0, .ref b), (1, .ref (ad 0 0)), (2, .ref (A 0)), (3, .ref (A 13))]) hx hb dL_law_1407 hl (by decide) rfl (fun ls hl => ?_)
  refine lv_aload_n hx hb dL_law_1409 rfl (lv_at hl 5 rfl) ?_
  obtain ⟨⟨fs9, hk0, -⟩, -⟩ := id hFw
  refine nb_ci (nb_runVr (As := []) (rest := []) hA2 hx hb hml hown hSW hS hW (m_thrown9 l z _ _ hA2 A hFw) mf_X11_thrown lk_L_123 hk0 rfl rfl ⟨rfl, rfl⟩ ⟨Nat.le_of_ble_eq_true rfl, Nat.le_of_ble_eq_true rfl⟩ hl.1 (Nat.le_of_ble_eq_true rfl) dL_law_1410 ⟨Nat.le_of_ble_eq_true rfl, Nat.le_of_ble_eq_true rfl⟩) hS (fun H locs hW hS => ?_)
  refine lv_iload hx hb dL_law_1413 (lv_at hl 1 rfl) ?_
  refine lv_icmp_eq (tgt := 1420) hx hb dL_law_1415 (by decide) (fun _ => ?_) (fun hc => absurd rfl hc)
  refine lv_iload hx hb dL_law_1420 (lv_at hl 1 rfl) ?_
  refine lv_if_ne (tgt := 1437) hx hb dL_law_1422 (by decide) (fun _ => ?_) (fun ck => absurd ck hkb)
  refine lv_goto (tgt := 2307) hx hb dL_law_1437 (by decide) ?_
  refine W.widen (k := 5000) (n := 50000) (Nat.le_of_ble_eq_true rfl) (Nat.le_of_ble_eq_true rfl) ?_
  exact kk _ _ _ hS (lv_sub hl [2, 3] rfl)
set_option maxRecDepth 100000 in
set_option maxHeartbeats 4000000 in
theorem lc_ofPan (h : LX p l e s m meth c b xs z o ad X A) (hW : GW z ad (GC z ad N0 X u00) H) (hS : va_S (zA z) s.heap H locs) (hl : lv_has ls 9 [(4, .int 0), (0, .ref b), (1, .ref (ad 0 0)), (2, .ref (A 0)), (3, .ref (A 13))]) (hag : ∃ k w9 b9, R_ofPan (xs 1) (xs 2) k w9 0 ∧ g_X11_ofPan (mW w9) (xs 1) (xs 2) = some (b9, k) ∧ k ≠ 0)
    (kk : ∀ (H1 : Heap) (locs1 : List Loc) (ls1 : Array Slot), va_S (zA z) s.heap H1 locs1 → lv_has ls1 9 [(4, .int 0), (0, .ref b)] → W p l e room_1 s m #[Value.ref b] below meth c H1 locs1 5000 50000 Q (F0 m 2307 ls1 [])) : W p l e room_1 s m #[Value.ref b] below meth c H locs 1000 10000 Q (F0 m 1440 ls []) := by
  obtain ⟨hx, hb, hml, hown, hSW, hSO, hfl, hA, hF, hA9, hX, hbl, hbA⟩ := h
  obtain ⟨hT, hK, hST, hB0⟩ := id hSW
  refine lv_aload_n hx hb dL_law_1440 rfl (lv_at hl 2 rfl) ?_
  refine lv_aload_n hx hb dL_law_1441 rfl (lv_at hl 1 rfl) ?_
  refine lv_iload hx hb dL_law_1442 (lv_at hl 0 rfl) ?_
  refine lv_iconst (v := 1) hx hb dL_law_1444 (by decide) ?_
  refine lv_iadd hx hb dL_law_1445 ?_
  refine lv_topc (v := 1) (by decide) ?_
  refine va_sld hx hb hX hbl hbA hS (inb_in (by decide)) dL_law_1446 ?_
  rw [show xs ((1 : Int32).toNatClampNeg) = xs 1 from rfl]
  refine lv_aload_n hx hb dL_law_1447 rfl (lv_at hl 1 rfl) ?_
  refine lv_iload hx hb dL_law_1448 (lv_at hl 0 rfl) ?_
  refine lv_iconst (v := 2) hx hb dL_law_1450 (by decide) ?_
  refine lv_iadd hx hb dL_law_1451 ?_
  refine lv_topc (v := 2) (by decide) ?_
  refine va_sld hx hb hX hbl hbA hS (inb_in (by decide)) dL_law_1452 ?_
  rw [show xs ((2 : Int32).toNatClampNeg) = xs 2 from rfl]
  refine lv_aload_n hx hb dL_law_1453 rfl (lv_at hl 4 rfl) ?_
  obtain ⟨k, w9, b9, hR, hg, hkb⟩ := hag
  refine va_calli (nb_runW (As := [.ref (ad 0 0), .int (xs 1), .int (xs 2), .ref (A 13)]) (rest := []) hx hb hml hown hSW hSO hS hW (w_ofPan l hfl z o ad X hA A 0 hF (xs 1) (xs 2) hR) mfw_ofPan (List.mem_of_getElem? (i := 939) (by decide +kernel)) rfl ⟨rfl, rfl⟩ ⟨Nat.le_of_ble_eq_true rfl, Nat.le_of_ble_eq_true rfl⟩ hl.1 (Nat.le_of_ble_eq_true rfl) dL_law_1454 ⟨Nat.le_of_ble_eq_true rfl, Nat.le_of_ble_eq_true rfl⟩) hS (fun _ _ h => h) (fun _ h => h) (fun r9 v9 t9 H locs ht9 _ hp9 hW9 _ _ hS => ?_)
  obtain ⟨hk9, hA2, hF2⟩ := hp9
  rw [hk9]
  subst ht9
  obtain ⟨ad2, G2⟩ := v9
  replace hW : GW z ad2 G2 t9.heap := hW9
  refine lv_istore (lv' := [(5, .int k), (4, .int 0), (0, .ref b), (1, .ref (ad 0 0)), (2, .ref (A 0)), (3, .ref (A 13))]) hx hb dL_law_1457 hl (by decide) rfl (fun ls hl => ?_)
  refine lv_aload_n hx hb dL_law_1459 rfl (lv_at hl 4 rfl) ?_
  refine lv_aload_n hx hb dL_law_1460 rfl (lv_at hl 2 rfl) ?_
  refine lv_iload hx hb dL_law_1461 (lv_at hl 1 rfl) ?_
  refine lv_iconst (v := 1) hx hb dL_law_1463 (by decide) ?_
  refine lv_iadd hx hb dL_law_1464 ?_
  refine lv_topc (v := 1) (by decide) ?_
  refine va_sld hx hb hX hbl hbA hS (inb_in (by decide)) dL_law_1465 ?_
  rw [show xs ((1 : Int32).toNatClampNeg) = xs 1 from rfl]
  refine lv_aload_n hx hb dL_law_1466 rfl (lv_at hl 2 rfl) ?_
  refine lv_iload hx hb dL_law_1467 (lv_at hl 1 rfl) ?_
  refine lv_iconst (v := 2) hx hb dL_law_1469 (by decide) ?_
  refine lv_iadd hx hb dL_law_1470 ?_
  refine lv_topc (v := 2) (by decide) ?_
  refine va_sld hx hb hX hbl hbA hS (inb_in (by decide)) dL_law_1471 ?_
  rw [show xs ((2 : Int32).toNatClampNeg) = xs 2 from rfl]
  refine va_calli (nb_runVr (As := [.int (xs 1), .int (xs 2)]) (rest := []) hA2 hx hb hml hown hSW hS hW (m_X11_ofPan l z ad2 G2 hA2 A (mW w9) hF2 (xs 1) (xs 2) hg) mf_X11_ofPan lk_L_188 hF2.1 rfl rfl ⟨rfl, rfl⟩ ⟨Nat.le_of_ble_eq_true rfl, Nat.le_of_ble_eq_true rfl⟩ hl.1 (Nat.le_of_ble_eq_true rfl) dL_law_1472 ⟨Nat.le_of_ble_eq_true rfl, Nat.le_of_ble_eq_true rfl⟩) hS (fun _ _ h => h) (fun _ h => h) (fun r7 G3 t7 H locs ht7 _ hp7 hW7 _ _ hS => ?_)
  obtain ⟨hk7, hFw⟩ := hp7
  rw [hk7]
  subst ht7
  replace hW : GW z ad2 G3 t7.heap := hW7
  refine lv_istore (lv' := [(6, .int b9), (5, .int k), (4, .int 0), (0, .ref b), (1, .ref (ad 0 0)), (2, .ref (A 0)), (3, .ref (A 13))]) hx hb dL_law_1475 hl (by decide) rfl (fun ls hl => ?_)
  refine lv_aload_n hx hb dL_law_1477 rfl (lv_at hl 5 rfl) ?_
  obtain ⟨⟨fs9, hk0, -⟩, -⟩ := id hFw
  refine nb_ci (nb_runVr (As := []) (rest := []) hA2 hx hb hml hown hSW hS hW (m_thrown9 l z _ _ hA2 A hFw) mf_X11_thrown lk_L_123 hk0 rfl rfl ⟨rfl, rfl⟩ ⟨Nat.le_of_ble_eq_true rfl, Nat.le_of_ble_eq_true rfl⟩ hl.1 (Nat.le_of_ble_eq_true rfl) dL_law_1478 ⟨Nat.le_of_ble_eq_true rfl, Nat.le_of_ble_eq_true rfl⟩) hS (fun H locs hW hS => ?_)
  refine lv_iload hx hb dL_law_1481 (lv_at hl 1 rfl) ?_
  refine lv_icmp_eq (tgt := 1488) hx hb dL_law_1483 (by decide) (fun _ => ?_) (fun hc => absurd rfl hc)
  refine lv_iload hx hb dL_law_1488 (lv_at hl 1 rfl) ?_
  refine lv_if_ne (tgt := 1505) hx hb dL_law_1490 (by decide) (fun _ => ?_) (fun ck => absurd ck hkb)
  refine lv_goto (tgt := 2307) hx hb dL_law_1505 (by decide) ?_
  refine W.widen (k := 5000) (n := 50000) (Nat.le_of_ble_eq_true rfl) (Nat.le_of_ble_eq_true rfl) ?_
  exact kk _ _ _ hS (lv_sub hl [2, 3] rfl)
set_option maxRecDepth 100000 in
set_option maxHeartbeats 4000000 in
theorem lc_off (h : LX p l e s m meth c b xs z o ad X A) (hW : GW z ad (GC z ad N0 X u00) H) (hS : va_S (zA z) s.heap H locs) (hl : lv_has ls 9 [(4, .int 0), (0, .ref b), (1, .ref (ad 0 0)), (2, .ref (A 0)), (3, .ref (A 13))]) (hag : ∃ k w9 b9, R_off (xs 1) (xs 2) k w9 0 ∧ g_X11_off (mW w9) (xs 1) (xs 2) = some (b9, k) ∧ k ≠ 0)
    (kk : ∀ (H1 : Heap) (locs1 : List Loc) (ls1 : Array Slot), va_S (zA z) s.heap H1 locs1 → lv_has ls1 9 [(4, .int 0), (0, .ref b)] → W p l e room_1 s m #[Value.ref b] below meth c H1 locs1 5000 50000 Q (F0 m 2307 ls1 [])) : W p l e room_1 s m #[Value.ref b] below meth c H locs 1000 10000 Q (F0 m 1508 ls []) := by
  obtain ⟨hx, hb, hml, hown, hSW, hSO, hfl, hA, hF, hA9, hX, hbl, hbA⟩ := h
  obtain ⟨hT, hK, hST, hB0⟩ := id hSW
  refine lv_aload_n hx hb dL_law_1508 rfl (lv_at hl 2 rfl) ?_
  refine lv_aload_n hx hb dL_law_1509 rfl (lv_at hl 1 rfl) ?_
  refine lv_iload hx hb dL_law_1510 (lv_at hl 0 rfl) ?_
  refine lv_iconst (v := 1) hx hb dL_law_1512 (by decide) ?_
  refine lv_iadd hx hb dL_law_1513 ?_
  refine lv_topc (v := 1) (by decide) ?_
  refine va_sld hx hb hX hbl hbA hS (inb_in (by decide)) dL_law_1514 ?_
  rw [show xs ((1 : Int32).toNatClampNeg) = xs 1 from rfl]
  refine lv_aload_n hx hb dL_law_1515 rfl (lv_at hl 1 rfl) ?_
  refine lv_iload hx hb dL_law_1516 (lv_at hl 0 rfl) ?_
  refine lv_iconst (v := 2) hx hb dL_law_1518 (by decide) ?_
  refine lv_iadd hx hb dL_law_1519 ?_
  refine lv_topc (v := 2) (by decide) ?_
  refine va_sld hx hb hX hbl hbA hS (inb_in (by decide)) dL_law_1520 ?_
  rw [show xs ((2 : Int32).toNatClampNeg) = xs 2 from rfl]
  refine lv_aload_n hx hb dL_law_1521 rfl (lv_at hl 4 rfl) ?_
  obtain ⟨k, w9, b9, hR, hg, hkb⟩ := hag
  refine va_calli (nb_runW (As := [.ref (ad 0 0), .int (xs 1), .int (xs 2), .ref (A 13)]) (rest := []) hx hb hml hown hSW hSO hS hW (w_off l hfl z o ad X hA A 0 hF (xs 1) (xs 2) hR) mfw_off (List.mem_of_getElem? (i := 943) (by decide +kernel)) rfl ⟨rfl, rfl⟩ ⟨Nat.le_of_ble_eq_true rfl, Nat.le_of_ble_eq_true rfl⟩ hl.1 (Nat.le_of_ble_eq_true rfl) dL_law_1522 ⟨Nat.le_of_ble_eq_true rfl, Nat.le_of_ble_eq_true rfl⟩) hS (fun _ _ h => h) (fun _ h => h) (fun r9 v9 t9 H locs ht9 _ hp9 hW9 _ _ hS => ?_)
  obtain ⟨hk9, hA2, hF2⟩ := hp9
  rw [hk9]
  subst ht9
  obtain ⟨ad2, G2⟩ := v9
  replace hW : GW z ad2 G2 t9.heap := hW9
  refine lv_istore (lv' := [(5, .int k), (4, .int 0), (0, .ref b), (1, .ref (ad 0 0)), (2, .ref (A 0)), (3, .ref (A 13))]) hx hb dL_law_1525 hl (by decide) rfl (fun ls hl => ?_)
  refine lv_aload_n hx hb dL_law_1527 rfl (lv_at hl 4 rfl) ?_
  refine lv_aload_n hx hb dL_law_1528 rfl (lv_at hl 2 rfl) ?_
  refine lv_iload hx hb dL_law_1529 (lv_at hl 1 rfl) ?_
  refine lv_iconst (v := 1) hx hb dL_law_1531 (by decide) ?_
  refine lv_iadd hx hb dL_law_1532 ?_
  refine lv_topc (v := 1) (by decide) ?_
  refine va_sld hx hb hX hbl hbA hS (inb_in (by decide)) dL_law_1533 ?_
  rw [show xs ((1 : Int32).toNatClampNeg) = xs 1 from rfl]
  refine lv_aload_n hx hb dL_law_1534 rfl (lv_at hl 2 rfl) ?_
  refine lv_iload hx hb dL_law_1535 (lv_at hl 1 rfl) ?_
  refine lv_iconst (v := 2) hx hb dL_law_1537 (by decide) ?_
  refine lv_iadd hx hb dL_law_1538 ?_
  refine lv_topc (v := 2) (by decide) ?_
  refine va_sld hx hb hX hbl hbA hS (inb_in (by decide)) dL_law_1539 ?_
  rw [show xs ((2 : Int32).toNatClampNeg) = xs 2 from rfl]
  refine va_calli (nb_runVr (As := [.int (xs 1), .int (xs 2)]) (rest := []) hA2 hx hb hml hown hSW hS hW (m_X11_off l z ad2 G2 hA2 A (mW w9) hF2 (xs 1) (xs 2) hg) mf_X11_off lk_L_191 hF2.1 rfl rfl ⟨rfl, rfl⟩ ⟨Nat.le_of_ble_eq_true rfl, Nat.le_of_ble_eq_true rfl⟩ hl.1 (Nat.le_of_ble_eq_true rfl) dL_law_1540 ⟨Nat.le_of_ble_eq_true rfl, Nat.le_of_ble_eq_true rfl⟩) hS (fun _ _ h => h) (fun _ h => h) (fun r7 G3 t7 H locs ht7 _ hp7 hW7 _ _ hS => ?_)
  obtain ⟨hk7, hFw⟩ := hp7
  rw [hk7]
  subst ht7
  replace hW : GW z ad2 G3 t7.heap := hW7
  refine lv_istore (lv' := [(6, .int b9), (5, .int k), (4, .int 0), (0, .ref b), (1, .ref (ad 0 0)), (2, .ref (A 0)), (3, .ref (A 13))]) hx hb dL_law_1543 hl (by decide) rfl (fun ls hl => ?_)
  refine lv_aload_n hx hb dL_law_1545 rfl (lv_at hl 5 rfl) ?_
  obtain ⟨⟨fs9, hk0, -⟩, -⟩ := id hFw
  refine nb_ci (nb_runVr (As := []) (rest := []) hA2 hx hb hml hown hSW hS hW (m_thrown9 l z _ _ hA2 A hFw) mf_X11_thrown lk_L_123 hk0 rfl rfl ⟨rfl, rfl⟩ ⟨Nat.le_of_ble_eq_true rfl, Nat.le_of_ble_eq_true rfl⟩ hl.1 (Nat.le_of_ble_eq_true rfl) dL_law_1546 ⟨Nat.le_of_ble_eq_true rfl, Nat.le_of_ble_eq_true rfl⟩) hS (fun H locs hW hS => ?_)
  refine lv_iload hx hb dL_law_1549 (lv_at hl 1 rfl) ?_
  refine lv_icmp_eq (tgt := 1556) hx hb dL_law_1551 (by decide) (fun _ => ?_) (fun hc => absurd rfl hc)
  refine lv_iload hx hb dL_law_1556 (lv_at hl 1 rfl) ?_
  refine lv_if_ne (tgt := 1573) hx hb dL_law_1558 (by decide) (fun _ => ?_) (fun ck => absurd ck hkb)
  refine lv_goto (tgt := 2307) hx hb dL_law_1573 (by decide) ?_
  refine W.widen (k := 5000) (n := 50000) (Nat.le_of_ble_eq_true rfl) (Nat.le_of_ble_eq_true rfl) ?_
  exact kk _ _ _ hS (lv_sub hl [2, 3] rfl)
set_option maxRecDepth 100000 in
set_option maxHeartbeats 4000000 in
theorem lc_ofPhrase (h : LX p l e s m meth c b xs z o ad X A) (hW : GW z ad (GC z ad N0 X u00) H) (hS : va_S (zA z) s.heap H locs) (hl : lv_has ls 9 [(4, .int 0), (0, .ref b), (1, .ref (ad 0 0)), (2, .ref (A 0)), (3, .ref (A 13))]) (hag : ∃ k w9 b9, R_ofPhrase (xs 1) (xs 2) k w9 0 ∧ g_X11_ofPhrase (mW w9) (xs 1) (xs 2) = some (b9, k) ∧ k ≠ 0)
    (kk : ∀ (H1 : Heap) (locs1 : List Loc) (ls1 : Array Slot), va_S (zA z) s.heap H1 locs1 → lv_has ls1 9 [(4, .int 0), (0, .ref b)] → W p l e room_1 s m #[Value.ref b] below meth c H1 locs1 5000 50000 Q (F0 m 2307 ls1 [])) : W p l e room_1 s m #[Value.ref b] below meth c H locs 1000 10000 Q (F0 m 1576 ls []) := by
  obtain ⟨hx, hb, hml, hown, hSW, hSO, hfl, hA, hF, hA9, hX, hbl, hbA⟩ := h
  obtain ⟨hT, hK, hST, hB0⟩ := id hSW
  refine lv_aload_n hx hb dL_law_1576 rfl (lv_at hl 2 rfl) ?_
  refine lv_aload_n hx hb dL_law_1577 rfl (lv_at hl 1 rfl) ?_
  refine lv_iload hx hb dL_law_1578 (lv_at hl 0 rfl) ?_
  refine lv_iconst (v := 1) hx hb dL_law_1580 (by decide) ?_
  refine lv_iadd hx hb dL_law_1581 ?_
  refine lv_topc (v := 1) (by decide) ?_
  refine va_sld hx hb hX hbl hbA hS (inb_in (by decide)) dL_law_1582 ?_
  rw [show xs ((1 : Int32).toNatClampNeg) = xs 1 from rfl]
  refine lv_aload_n hx hb dL_law_1583 rfl (lv_at hl 1 rfl) ?_
  refine lv_iload hx hb dL_law_1584 (lv_at hl 0 rfl) ?_
  refine lv_iconst (v := 2) hx hb dL_law_1586 (by decide) ?_
  refine lv_iadd hx hb dL_law_1587 ?_
  refine lv_topc (v := 2) (by decide) ?_
  refine va_sld hx hb hX hbl hbA hS (inb_in (by decide)) dL_law_1588 ?_
  rw [show xs ((2 : Int32).toNatClampNeg) = xs 2 from rfl]
  refine lv_aload_n hx hb dL_law_1589 rfl (lv_at hl 4 rfl) ?_
  obtain ⟨k, w9, b9, hR, hg, hkb⟩ := hag
  refine va_calli (nb_runW (As := [.ref (ad 0 0), .int (xs 1), .int (xs 2), .ref (A 13)]) (rest := []) hx hb hml hown hSW hSO hS hW (w_ofPhrase l hfl z o ad X hA A 0 hF (xs 1) (xs 2) hR) mfw_ofPhrase (List.mem_of_getElem? (i := 947) (by decide +kernel)) rfl ⟨rfl, rfl⟩ ⟨Nat.le_of_ble_eq_true rfl, Nat.le_of_ble_eq_true rfl⟩ hl.1 (Nat.le_of_ble_eq_true rfl) dL_law_1590 ⟨Nat.le_of_ble_eq_true rfl, Nat.le_of_ble_eq_true rfl⟩) hS (fun _ _ h => h) (fun _ h => h) (fun r9 v9 t9 H locs ht9 _ hp9 hW9 _ _ hS => ?_)
  obtain ⟨hk9, hA2, hF2⟩ := hp9
  rw [hk9]
  subst ht9
  obtain ⟨ad2, G2⟩ := v9
  replace hW : GW z ad2 G2 t9.heap := hW9
  refine lv_istore (lv' := [(5, .int k), (4, .int 0), (0, .ref b), (1, .ref (ad 0 0)), (2, .ref (A 0)), (3, .ref (A 13))]) hx hb dL_law_1593 hl (by decide) rfl (fun ls hl => ?_)
  refine lv_aload_n hx hb dL_law_1595 rfl (lv_at hl 4 rfl) ?_
  refine lv_aload_n hx hb dL_law_1596 rfl (lv_at hl 2 rfl) ?_
  refine lv_iload hx hb dL_law_1597 (lv_at hl 1 rfl) ?_
  refine lv_iconst (v := 1) hx hb dL_law_1599 (by decide) ?_
  refine lv_iadd hx hb dL_law_1600 ?_
  refine lv_topc (v := 1) (by decide) ?_
  refine va_sld hx hb hX hbl hbA hS (inb_in (by decide)) dL_law_1601 ?_
  rw [show xs ((1 : Int32).toNatClampNeg) = xs 1 from rfl]
  refine lv_aload_n hx hb dL_law_1602 rfl (lv_at hl 2 rfl) ?_
  refine lv_iload hx hb dL_law_1603 (lv_at hl 1 rfl) ?_
  refine lv_iconst (v := 2) hx hb dL_law_1605 (by decide) ?_
  refine lv_iadd hx hb dL_law_1606 ?_
  refine lv_topc (v := 2) (by decide) ?_
  refine va_sld hx hb hX hbl hbA hS (inb_in (by decide)) dL_law_1607 ?_
  rw [show xs ((2 : Int32).toNatClampNeg) = xs 2 from rfl]
  refine va_calli (nb_runVr (As := [.int (xs 1), .int (xs 2)]) (rest := []) hA2 hx hb hml hown hSW hS hW (m_X11_ofPhrase l z ad2 G2 hA2 A (mW w9) hF2 (xs 1) (xs 2) hg) mf_X11_ofPhrase lk_L_194 hF2.1 rfl rfl ⟨rfl, rfl⟩ ⟨Nat.le_of_ble_eq_true rfl, Nat.le_of_ble_eq_true rfl⟩ hl.1 (Nat.le_of_ble_eq_true rfl) dL_law_1608 ⟨Nat.le_of_ble_eq_true rfl, Nat.le_of_ble_eq_true rfl⟩) hS (fun _ _ h => h) (fun _ h => h) (fun r7 G3 t7 H locs ht7 _ hp7 hW7 _ _ hS => ?_)
  obtain ⟨hk7, hFw⟩ := hp7
  rw [hk7]
  subst ht7
  replace hW : GW z ad2 G3 t7.heap := hW7
  refine lv_istore (lv' := [(6, .int b9), (5, .int k), (4, .int 0), (0, .ref b), (1, .ref (ad 0 0)), (2, .ref (A 0)), (3, .ref (A 13))]) hx hb dL_law_1611 hl (by decide) rfl (fun ls hl => ?_)
  refine lv_aload_n hx hb dL_law_1613 rfl (lv_at hl 5 rfl) ?_
  obtain ⟨⟨fs9, hk0, -⟩, -⟩ := id hFw
  refine nb_ci (nb_runVr (As := []) (rest := []) hA2 hx hb hml hown hSW hS hW (m_thrown9 l z _ _ hA2 A hFw) mf_X11_thrown lk_L_123 hk0 rfl rfl ⟨rfl, rfl⟩ ⟨Nat.le_of_ble_eq_true rfl, Nat.le_of_ble_eq_true rfl⟩ hl.1 (Nat.le_of_ble_eq_true rfl) dL_law_1614 ⟨Nat.le_of_ble_eq_true rfl, Nat.le_of_ble_eq_true rfl⟩) hS (fun H locs hW hS => ?_)
  refine lv_iload hx hb dL_law_1617 (lv_at hl 1 rfl) ?_
  refine lv_icmp_eq (tgt := 1624) hx hb dL_law_1619 (by decide) (fun _ => ?_) (fun hc => absurd rfl hc)
  refine lv_iload hx hb dL_law_1624 (lv_at hl 1 rfl) ?_
  refine lv_if_ne (tgt := 1641) hx hb dL_law_1626 (by decide) (fun _ => ?_) (fun ck => absurd ck hkb)
  refine lv_goto (tgt := 2307) hx hb dL_law_1641 (by decide) ?_
  refine W.widen (k := 5000) (n := 50000) (Nat.le_of_ble_eq_true rfl) (Nat.le_of_ble_eq_true rfl) ?_
  exact kk _ _ _ hS (lv_sub hl [2, 3] rfl)
set_option maxRecDepth 100000 in
set_option maxHeartbeats 4000000 in
theorem lc_ofPlayer (h : LX p l e s m meth c b xs z o ad X A) (hW : GW z ad (GC z ad N0 X u00) H) (hS : va_S (zA z) s.heap H locs) (hl : lv_has ls 9 [(4, .int 0), (0, .ref b), (1, .ref (ad 0 0)), (2, .ref (A 0)), (3, .ref (A 13))]) (hag : ∃ k w9 b9, R_ofPlayer (xs 1) (xs 2) k w9 0 ∧ g_X11_ofPlayer (mW w9) (xs 1) (xs 2) = some (b9, k) ∧ k ≠ 0)
    (kk : ∀ (H1 : Heap) (locs1 : List Loc) (ls1 : Array Slot), va_S (zA z) s.heap H1 locs1 → lv_has ls1 9 [(4, .int 0), (0, .ref b)] → W p l e room_1 s m #[Value.ref b] below meth c H1 locs1 5000 50000 Q (F0 m 2307 ls1 [])) : W p l e room_1 s m #[Value.ref b] below meth c H locs 1000 10000 Q (F0 m 1644 ls []) := by
  obtain ⟨hx, hb, hml, hown, hSW, hSO, hfl, hA, hF, hA9, hX, hbl, hbA⟩ := h
  obtain ⟨hT, hK, hST, hB0⟩ := id hSW
  refine lv_aload_n hx hb dL_law_1644 rfl (lv_at hl 2 rfl) ?_
  refine lv_aload_n hx hb dL_law_1645 rfl (lv_at hl 1 rfl) ?_
  refine lv_iload hx hb dL_law_1646 (lv_at hl 0 rfl) ?_
  refine lv_iconst (v := 1) hx hb dL_law_1648 (by decide) ?_
  refine lv_iadd hx hb dL_law_1649 ?_
  refine lv_topc (v := 1) (by decide) ?_
  refine va_sld hx hb hX hbl hbA hS (inb_in (by decide)) dL_law_1650 ?_
  rw [show xs ((1 : Int32).toNatClampNeg) = xs 1 from rfl]
  refine lv_aload_n hx hb dL_law_1651 rfl (lv_at hl 1 rfl) ?_
  refine lv_iload hx hb dL_law_1652 (lv_at hl 0 rfl) ?_
  refine lv_iconst (v := 2) hx hb dL_law_1654 (by decide) ?_
  refine lv_iadd hx hb dL_law_1655 ?_
  refine lv_topc (v := 2) (by decide) ?_
  refine va_sld hx hb hX hbl hbA hS (inb_in (by decide)) dL_law_1656 ?_
  rw [show xs ((2 : Int32).toNatClampNeg) = xs 2 from rfl]
  refine lv_aload_n hx hb dL_law_1657 rfl (lv_at hl 4 rfl) ?_
  obtain ⟨k, w9, b9, hR, hg, hkb⟩ := hag
  refine va_calli (nb_runW (As := [.ref (ad 0 0), .int (xs 1), .int (xs 2), .ref (A 13)]) (rest := []) hx hb hml hown hSW hSO hS hW (w_ofPlayer l hfl z o ad X hA A 0 hF (xs 1) (xs 2) hR) mfw_ofPlayer (List.mem_of_getElem? (i := 951) (by decide +kernel)) rfl ⟨rfl, rfl⟩ ⟨Nat.le_of_ble_eq_true rfl, Nat.le_of_ble_eq_true rfl⟩ hl.1 (Nat.le_of_ble_eq_true rfl) dL_law_1658 ⟨Nat.le_of_ble_eq_true rfl, Nat.le_of_ble_eq_true rfl⟩) hS (fun _ _ h => h) (fun _ h => h) (fun r9 v9 t9 H locs ht9 _ hp9 hW9 _ _ hS => ?_)
  obtain ⟨hk9, hA2, hF2⟩ := hp9
  rw [hk9]
  subst ht9
  obtain ⟨ad2, G2⟩ := v9
  replace hW : GW z ad2 G2 t9.heap := hW9
  refine lv_istore (lv' := [(5, .int k), (4, .int 0), (0, .ref b), (1, .ref (ad 0 0)), (2, .ref (A 0)), (3, .ref (A 13))]) hx hb dL_law_1661 hl (by decide) rfl (fun ls hl => ?_)
  refine lv_aload_n hx hb dL_law_1663 rfl (lv_at hl 4 rfl) ?_
  refine lv_aload_n hx hb dL_law_1664 rfl (lv_at hl 2 rfl) ?_
  refine lv_iload hx hb dL_law_1665 (lv_at hl 1 rfl) ?_
  refine lv_iconst (v := 1) hx hb dL_law_1667 (by decide) ?_
  refine lv_iadd hx hb dL_law_1668 ?_
  refine lv_topc (v := 1) (by decide) ?_
  refine va_sld hx hb hX hbl hbA hS (inb_in (by decide)) dL_law_1669 ?_
  rw [show xs ((1 : Int32).toNatClampNeg) = xs 1 from rfl]
  refine lv_aload_n hx hb dL_law_1670 rfl (lv_at hl 2 rfl) ?_
  refine lv_iload hx hb dL_law_1671 (lv_at hl 1 rfl) ?_
  refine lv_iconst (v := 2) hx hb dL_law_1673 (by decide) ?_
  refine lv_iadd hx hb dL_law_1674 ?_
  refine lv_topc (v := 2) (by decide) ?_
  refine va_sld hx hb hX hbl hbA hS (inb_in (by decide)) dL_law_1675 ?_
  rw [show xs ((2 : Int32).toNatClampNeg) = xs 2 from rfl]
  refine va_calli (nb_runVr (As := [.int (xs 1), .int (xs 2)]) (rest := []) hA2 hx hb hml hown hSW hS hW (m_X11_ofPlayer l z ad2 G2 hA2 A (mW w9) hF2 (xs 1) (xs 2) hg) mf_X11_ofPlayer lk_L_197 hF2.1 rfl rfl ⟨rfl, rfl⟩ ⟨Nat.le_of_ble_eq_true rfl, Nat.le_of_ble_eq_true rfl⟩ hl.1 (Nat.le_of_ble_eq_true rfl) dL_law_1676 ⟨Nat.le_of_ble_eq_true rfl, Nat.le_of_ble_eq_true rfl⟩) hS (fun _ _ h => h) (fun _ h => h) (fun r7 G3 t7 H locs ht7 _ hp7 hW7 _ _ hS => ?_)
  obtain ⟨hk7, hFw⟩ := hp7
  rw [hk7]
  subst ht7
  replace hW : GW z ad2 G3 t7.heap := hW7
  refine lv_istore (lv' := [(6, .int b9), (5, .int k), (4, .int 0), (0, .ref b), (1, .ref (ad 0 0)), (2, .ref (A 0)), (3, .ref (A 13))]) hx hb dL_law_1679 hl (by decide) rfl (fun ls hl => ?_)
  refine lv_aload_n hx hb dL_law_1681 rfl (lv_at hl 5 rfl) ?_
  obtain ⟨⟨fs9, hk0, -⟩, -⟩ := id hFw
  refine nb_ci (nb_runVr (As := []) (rest := []) hA2 hx hb hml hown hSW hS hW (m_thrown9 l z _ _ hA2 A hFw) mf_X11_thrown lk_L_123 hk0 rfl rfl ⟨rfl, rfl⟩ ⟨Nat.le_of_ble_eq_true rfl, Nat.le_of_ble_eq_true rfl⟩ hl.1 (Nat.le_of_ble_eq_true rfl) dL_law_1682 ⟨Nat.le_of_ble_eq_true rfl, Nat.le_of_ble_eq_true rfl⟩) hS (fun H locs hW hS => ?_)
  refine lv_iload hx hb dL_law_1685 (lv_at hl 1 rfl) ?_
  refine lv_icmp_eq (tgt := 1692) hx hb dL_law_1687 (by decide) (fun _ => ?_) (fun hc => absurd rfl hc)
  refine lv_iload hx hb dL_law_1692 (lv_at hl 1 rfl) ?_
  refine lv_if_ne (tgt := 1709) hx hb dL_law_1694 (by decide) (fun _ => ?_) (fun ck => absurd ck hkb)
  refine lv_goto (tgt := 2307) hx hb dL_law_1709 (by decide) ?_
  refine W.widen (k := 5000) (n := 50000) (Nat.le_of_ble_eq_true rfl) (Nat.le_of_ble_eq_true rfl) ?_
  exact kk _ _ _ hS (lv_sub hl [2, 3] rfl)
set_option maxRecDepth 100000 in
set_option maxHeartbeats 4000000 in
theorem lc_memory (h : LX p l e s m meth c b xs z o ad X A) (hW : GW z ad (GC z ad N0 X u00) H) (hS : va_S (zA z) s.heap H locs) (hl : lv_has ls 9 [(4, .int 0), (0, .ref b), (1, .ref (ad 0 0)), (2, .ref (A 0)), (3, .ref (A 13))]) (hag : ∃ k w9 b9, R_memory (xs 1) (xs 2) k w9 0 ∧ g_X11_memory (mW w9) (xs 1) (xs 2) = some (b9, k) ∧ k ≠ 0)
    (kk : ∀ (H1 : Heap) (locs1 : List Loc) (ls1 : Array Slot), va_S (zA z) s.heap H1 locs1 → lv_has ls1 9 [(4, .int 0), (0, .ref b)] → W p l e room_1 s m #[Value.ref b] below meth c H1 locs1 5000 50000 Q (F0 m 2307 ls1 [])) : W p l e room_1 s m #[Value.ref b] below meth c H locs 1000 10000 Q (F0 m 1712 ls []) := by
  obtain ⟨hx, hb, hml, hown, hSW, hSO, hfl, hA, hF, hA9, hX, hbl, hbA⟩ := h
  obtain ⟨hT, hK, hST, hB0⟩ := id hSW
  refine lv_aload_n hx hb dL_law_1712 rfl (lv_at hl 2 rfl) ?_
  refine lv_aload_n hx hb dL_law_1713 rfl (lv_at hl 1 rfl) ?_
  refine lv_iload hx hb dL_law_1714 (lv_at hl 0 rfl) ?_
  refine lv_iconst (v := 1) hx hb dL_law_1716 (by decide) ?_
  refine lv_iadd hx hb dL_law_1717 ?_
  refine lv_topc (v := 1) (by decide) ?_
  refine va_sld hx hb hX hbl hbA hS (inb_in (by decide)) dL_law_1718 ?_
  rw [show xs ((1 : Int32).toNatClampNeg) = xs 1 from rfl]
  refine lv_aload_n hx hb dL_law_1719 rfl (lv_at hl 1 rfl) ?_
  refine lv_iload hx hb dL_law_1720 (lv_at hl 0 rfl) ?_
  refine lv_iconst (v := 2) hx hb dL_law_1722 (by decide) ?_
  refine lv_iadd hx hb dL_law_1723 ?_
  refine lv_topc (v := 2) (by decide) ?_
  refine va_sld hx hb hX hbl hbA hS (inb_in (by decide)) dL_law_1724 ?_
  rw [show xs ((2 : Int32).toNatClampNeg) = xs 2 from rfl]
  refine lv_aload_n hx hb dL_law_1725 rfl (lv_at hl 4 rfl) ?_
  obtain ⟨k, w9, b9, hR, hg, hkb⟩ := hag
  refine va_calli (nb_runW (As := [.ref (ad 0 0), .int (xs 1), .int (xs 2), .ref (A 13)]) (rest := []) hx hb hml hown hSW hSO hS hW (w_memory l hfl z o ad X hA A 0 hF (xs 1) (xs 2) hR) mfw_memory (List.mem_of_getElem? (i := 955) (by decide +kernel)) rfl ⟨rfl, rfl⟩ ⟨Nat.le_of_ble_eq_true rfl, Nat.le_of_ble_eq_true rfl⟩ hl.1 (Nat.le_of_ble_eq_true rfl) dL_law_1726 ⟨Nat.le_of_ble_eq_true rfl, Nat.le_of_ble_eq_true rfl⟩) hS (fun _ _ h => h) (fun _ h => h) (fun r9 v9 t9 H locs ht9 _ hp9 hW9 _ _ hS => ?_)
  obtain ⟨hk9, hA2, hF2⟩ := hp9
  rw [hk9]
  subst ht9
  obtain ⟨ad2, G2⟩ := v9
  replace hW : GW z ad2 G2 t9.heap := hW9
  refine lv_istore (lv' := [(5, .int k), (4, .int 0), (0, .ref b), (1, .ref (ad 0 0)), (2, .ref (A 0)), (3, .ref (A 13))]) hx hb dL_law_1729 hl (by decide) rfl (fun ls hl => ?_)
  refine lv_aload_n hx hb dL_law_1731 rfl (lv_at hl 4 rfl) ?_
  refine lv_aload_n hx hb dL_law_1732 rfl (lv_at hl 2 rfl) ?_
  refine lv_iload hx hb dL_law_1733 (lv_at hl 1 rfl) ?_
  refine lv_iconst (v := 1) hx hb dL_law_1735 (by decide) ?_
  refine lv_iadd hx hb dL_law_1736 ?_
  refine lv_topc (v := 1) (by decide) ?_
  refine va_sld hx hb hX hbl hbA hS (inb_in (by decide)) dL_law_1737 ?_
  rw [show xs ((1 : Int32).toNatClampNeg) = xs 1 from rfl]
  refine lv_aload_n hx hb dL_law_1738 rfl (lv_at hl 2 rfl) ?_
  refine lv_iload hx hb dL_law_1739 (lv_at hl 1 rfl) ?_
  refine lv_iconst (v := 2) hx hb dL_law_1741 (by decide) ?_
  refine lv_iadd hx hb dL_law_1742 ?_
  refine lv_topc (v := 2) (by decide) ?_
  refine va_sld hx hb hX hbl hbA hS (inb_in (by decide)) dL_law_1743 ?_
  rw [show xs ((2 : Int32).toNatClampNeg) = xs 2 from rfl]
  refine va_calli (nb_runVr (As := [.int (xs 1), .int (xs 2)]) (rest := []) hA2 hx hb hml hown hSW hS hW (m_X11_memory l z ad2 G2 hA2 A (mW w9) hF2 (xs 1) (xs 2) hg) mf_X11_memory lk_L_200 hF2.1 rfl rfl ⟨rfl, rfl⟩ ⟨Nat.le_of_ble_eq_true rfl, Nat.le_of_ble_eq_true rfl⟩ hl.1 (Nat.le_of_ble_eq_true rfl) dL_law_1744 ⟨Nat.le_of_ble_eq_true rfl, Nat.le_of_ble_eq_true rfl⟩) hS (fun _ _ h => h) (fun _ h => h) (fun r7 G3 t7 H locs ht7 _ hp7 hW7 _ _ hS => ?_)
  obtain ⟨hk7, hFw⟩ := hp7
  rw [hk7]
  subst ht7
  replace hW : GW z ad2 G3 t7.heap := hW7
  refine lv_istore (lv' := [(6, .int b9), (5, .int k), (4, .int 0), (0, .ref b), (1, .ref (ad 0 0)), (2, .ref (A 0)), (3, .ref (A 13))]) hx hb dL_law_1747 hl (by decide) rfl (fun ls hl => ?_)
  refine lv_aload_n hx hb dL_law_1749 rfl (lv_at hl 5 rfl) ?_
  obtain ⟨⟨fs9, hk0, -⟩, -⟩ := id hFw
  refine nb_ci (nb_runVr (As := []) (rest := []) hA2 hx hb hml hown hSW hS hW (m_thrown9 l z _ _ hA2 A hFw) mf_X11_thrown lk_L_123 hk0 rfl rfl ⟨rfl, rfl⟩ ⟨Nat.le_of_ble_eq_true rfl, Nat.le_of_ble_eq_true rfl⟩ hl.1 (Nat.le_of_ble_eq_true rfl) dL_law_1750 ⟨Nat.le_of_ble_eq_true rfl, Nat.le_of_ble_eq_true rfl⟩) hS (fun H locs hW hS => ?_)
  refine lv_iload hx hb dL_law_1753 (lv_at hl 1 rfl) ?_
  refine lv_icmp_eq (tgt := 1760) hx hb dL_law_1755 (by decide) (fun _ => ?_) (fun hc => absurd rfl hc)
  refine lv_iload hx hb dL_law_1760 (lv_at hl 1 rfl) ?_
  refine lv_if_ne (tgt := 1777) hx hb dL_law_1762 (by decide) (fun _ => ?_) (fun ck => absurd ck hkb)
  refine lv_goto (tgt := 2307) hx hb dL_law_1777 (by decide) ?_
  refine W.widen (k := 5000) (n := 50000) (Nat.le_of_ble_eq_true rfl) (Nat.le_of_ble_eq_true rfl) ?_
  exact kk _ _ _ hS (lv_sub hl [2, 3] rfl)
set_option maxRecDepth 100000 in
set_option maxHeartbeats 4000000 in
theorem lc_ofPlace (h : LX p l e s m meth c b xs z o ad X A) (hW : GW z ad (GC z ad N0 X u00) H) (hS : va_S (zA z) s.heap H locs) (hl : lv_has ls 9 [(4, .int 0), (0, .ref b), (1, .ref (ad 0 0)), (2, .ref (A 0)), (3, .ref (A 13))]) (hag : ∃ k w9 b9, R_ofPlace (xs 1) (xs 2) k w9 0 ∧ g_X11_ofPlace (mW w9) (xs 1) (xs 2) = some (b9, k) ∧ k ≠ 0)
    (kk : ∀ (H1 : Heap) (locs1 : List Loc) (ls1 : Array Slot), va_S (zA z) s.heap H1 locs1 → lv_has ls1 9 [(4, .int 0), (0, .ref b)] → W p l e room_1 s m #[Value.ref b] below meth c H1 locs1 5000 50000 Q (F0 m 2307 ls1 [])) : W p l e room_1 s m #[Value.ref b] below meth c H locs 1000 10000 Q (F0 m 1780 ls []) := by
  obtain ⟨hx, hb, hml, hown, hSW, hSO, hfl, hA, hF, hA9, hX, hbl, hbA⟩ := h
  obtain ⟨hT, hK, hST, hB0⟩ := id hSW
  refine lv_aload_n hx hb dL_law_1780 rfl (lv_at hl 2 rfl) ?_
  refine lv_aload_n hx hb dL_law_1781 rfl (lv_at hl 1 rfl) ?_
  refine lv_iload hx hb dL_law_1782 (lv_at hl 0 rfl) ?_
  refine lv_iconst (v := 1) hx hb dL_law_1784 (by decide) ?_
  refine lv_iadd hx hb dL_law_1785 ?_
  refine lv_topc (v := 1) (by decide) ?_
  refine va_sld hx hb hX hbl hbA hS (inb_in (by decide)) dL_law_1786 ?_
  rw [show xs ((1 : Int32).toNatClampNeg) = xs 1 from rfl]
  refine lv_aload_n hx hb dL_law_1787 rfl (lv_at hl 1 rfl) ?_
  refine lv_iload hx hb dL_law_1788 (lv_at hl 0 rfl) ?_
  refine lv_iconst (v := 2) hx hb dL_law_1790 (by decide) ?_
  refine lv_iadd hx hb dL_law_1791 ?_
  refine lv_topc (v := 2) (by decide) ?_
  refine va_sld hx hb hX hbl hbA hS (inb_in (by decide)) dL_law_1792 ?_
  rw [show xs ((2 : Int32).toNatClampNeg) = xs 2 from rfl]
  refine lv_aload_n hx hb dL_law_1793 rfl (lv_at hl 4 rfl) ?_
  obtain ⟨k, w9, b9, hR, hg, hkb⟩ := hag
  refine va_calli (nb_runW (As := [.ref (ad 0 0), .int (xs 1), .int (xs 2), .ref (A 13)]) (rest := []) hx hb hml hown hSW hSO hS hW (w_ofPlace l hfl z o ad X hA A 0 hF (xs 1) (xs 2) hR) mfw_ofPlace (List.mem_of_getElem? (i := 959) (by decide +kernel)) rfl ⟨rfl, rfl⟩ ⟨Nat.le_of_ble_eq_true rfl, Nat.le_of_ble_eq_true rfl⟩ hl.1 (Nat.le_of_ble_eq_true rfl) dL_law_1794 ⟨Nat.le_of_ble_eq_true rfl, Nat.le_of_ble_eq_true rfl⟩) hS (fun _ _ h => h) (fun _ h => h) (fun r9 v9 t9 H locs ht9 _ hp9 hW9 _ _ hS => ?_)
  obtain ⟨hk9, hA2, hF2⟩ := hp9
  rw [hk9]
  subst ht9
  obtain ⟨ad2, G2⟩ := v9
  replace hW : GW z ad2 G2 t9.heap := hW9
  refine lv_istore (lv' := [(5, .int k), (4, .int 0), (0, .ref b), (1, .ref (ad 0 0)), (2, .ref (A 0)), (3, .ref (A 13))]) hx hb dL_law_1797 hl (by decide) rfl (fun ls hl => ?_)
  refine lv_aload_n hx hb dL_law_1799 rfl (lv_at hl 4 rfl) ?_
  refine lv_aload_n hx hb dL_law_1800 rfl (lv_at hl 2 rfl) ?_
  refine lv_iload hx hb dL_law_1801 (lv_at hl 1 rfl) ?_
  refine lv_iconst (v := 1) hx hb dL_law_1803 (by decide) ?_
  refine lv_iadd hx hb dL_law_1804 ?_
  refine lv_topc (v := 1) (by decide) ?_
  refine va_sld hx hb hX hbl hbA hS (inb_in (by decide)) dL_law_1805 ?_
  rw [show xs ((1 : Int32).toNatClampNeg) = xs 1 from rfl]
  refine lv_aload_n hx hb dL_law_1806 rfl (lv_at hl 2 rfl) ?_
  refine lv_iload hx hb dL_law_1807 (lv_at hl 1 rfl) ?_
  refine lv_iconst (v := 2) hx hb dL_law_1809 (by decide) ?_
  refine lv_iadd hx hb dL_law_1810 ?_
  refine lv_topc (v := 2) (by decide) ?_
  refine va_sld hx hb hX hbl hbA hS (inb_in (by decide)) dL_law_1811 ?_
  rw [show xs ((2 : Int32).toNatClampNeg) = xs 2 from rfl]
  refine va_calli (nb_runVr (As := [.int (xs 1), .int (xs 2)]) (rest := []) hA2 hx hb hml hown hSW hS hW (m_X11_ofPlace l z ad2 G2 hA2 A (mW w9) hF2 (xs 1) (xs 2) hg) mf_X11_ofPlace lk_L_203 hF2.1 rfl rfl ⟨rfl, rfl⟩ ⟨Nat.le_of_ble_eq_true rfl, Nat.le_of_ble_eq_true rfl⟩ hl.1 (Nat.le_of_ble_eq_true rfl) dL_law_1812 ⟨Nat.le_of_ble_eq_true rfl, Nat.le_of_ble_eq_true rfl⟩) hS (fun _ _ h => h) (fun _ h => h) (fun r7 G3 t7 H locs ht7 _ hp7 hW7 _ _ hS => ?_)
  obtain ⟨hk7, hFw⟩ := hp7
  rw [hk7]
  subst ht7
  replace hW : GW z ad2 G3 t7.heap := hW7
  refine lv_istore (lv' := [(6, .int b9), (5, .int k), (4, .int 0), (0, .ref b), (1, .ref (ad 0 0)), (2, .ref (A 0)), (3, .ref (A 13))]) hx hb dL_law_1815 hl (by decide) rfl (fun ls hl => ?_)
  refine lv_aload_n hx hb dL_law_1817 rfl (lv_at hl 5 rfl) ?_
  obtain ⟨⟨fs9, hk0, -⟩, -⟩ := id hFw
  refine nb_ci (nb_runVr (As := []) (rest := []) hA2 hx hb hml hown hSW hS hW (m_thrown9 l z _ _ hA2 A hFw) mf_X11_thrown lk_L_123 hk0 rfl rfl ⟨rfl, rfl⟩ ⟨Nat.le_of_ble_eq_true rfl, Nat.le_of_ble_eq_true rfl⟩ hl.1 (Nat.le_of_ble_eq_true rfl) dL_law_1818 ⟨Nat.le_of_ble_eq_true rfl, Nat.le_of_ble_eq_true rfl⟩) hS (fun H locs hW hS => ?_)
  refine lv_iload hx hb dL_law_1821 (lv_at hl 1 rfl) ?_
  refine lv_icmp_eq (tgt := 1828) hx hb dL_law_1823 (by decide) (fun _ => ?_) (fun hc => absurd rfl hc)
  refine lv_iload hx hb dL_law_1828 (lv_at hl 1 rfl) ?_
  refine lv_if_ne (tgt := 1845) hx hb dL_law_1830 (by decide) (fun _ => ?_) (fun ck => absurd ck hkb)
  refine lv_goto (tgt := 2307) hx hb dL_law_1845 (by decide) ?_
  refine W.widen (k := 5000) (n := 50000) (Nat.le_of_ble_eq_true rfl) (Nat.le_of_ble_eq_true rfl) ?_
  exact kk _ _ _ hS (lv_sub hl [2, 3] rfl)
set_option maxRecDepth 100000 in
set_option maxHeartbeats 4000000 in
theorem lc_mark (h : LX p l e s m meth c b xs z o ad X A) (hW : GW z ad (GC z ad N0 X u00) H) (hS : va_S (zA z) s.heap H locs) (hl : lv_has ls 9 [(4, .int 0), (0, .ref b), (1, .ref (ad 0 0)), (2, .ref (A 0)), (3, .ref (A 13))]) (hag : ∃ k w9 b9, R_mark (xs 1) k w9 0 ∧ g_X11_mark_ (mW w9) (xs 1) = some (b9, k) ∧ (k = 0 → w9 = b9))
    (kk : ∀ (H1 : Heap) (locs1 : List Loc) (ls1 : Array Slot), va_S (zA z) s.heap H1 locs1 → lv_has ls1 9 [(4, .int 0), (0, .ref b)] → W p l e room_1 s m #[Value.ref b] below meth c H1 locs1 5000 50000 Q (F0 m 2307 ls1 [])) : W p l e room_1 s m #[Value.ref b] below meth c H locs 1000 10000 Q (F0 m 1848 ls []) := by
  obtain ⟨hx, hb, hml, hown, hSW, hSO, hfl, hA, hF, hA9, hX, hbl, hbA⟩ := h
  obtain ⟨hT, hK, hST, hB0⟩ := id hSW
  refine lv_aload_n hx hb dL_law_1848 rfl (lv_at hl 2 rfl) ?_
  refine lv_aload_n hx hb dL_law_1849 rfl (lv_at hl 1 rfl) ?_
  refine lv_iload hx hb dL_law_1850 (lv_at hl 0 rfl) ?_
  refine lv_iconst (v := 1) hx hb dL_law_1852 (by decide) ?_
  refine lv_iadd hx hb dL_law_1853 ?_
  refine lv_topc (v := 1) (by decide) ?_
  refine va_sld hx hb hX hbl hbA hS (inb_in (by decide)) dL_law_1854 ?_
  rw [show xs ((1 : Int32).toNatClampNeg) = xs 1 from rfl]
  refine lv_aload_n hx hb dL_law_1855 rfl (lv_at hl 4 rfl) ?_
  obtain ⟨k, w9, b9, hR, hg, hkb⟩ := hag
  refine va_calli (nb_runW (As := [.ref (ad 0 0), .int (xs 1), .ref (A 13)]) (rest := []) hx hb hml hown hSW hSO hS hW (w_mark l hfl z o ad X hA A 0 hF (xs 1) hR) mfw_mark (List.mem_of_getElem? (i := 963) (by decide +kernel)) rfl ⟨rfl, rfl⟩ ⟨Nat.le_of_ble_eq_true rfl, Nat.le_of_ble_eq_true rfl⟩ hl.1 (Nat.le_of_ble_eq_true rfl) dL_law_1856 ⟨Nat.le_of_ble_eq_true rfl, Nat.le_of_ble_eq_true rfl⟩) hS (fun _ _ h => h) (fun _ h => h) (fun r9 v9 t9 H locs ht9 _ hp9 hW9 _ _ hS => ?_)
  obtain ⟨hk9, hA2, hF2⟩ := hp9
  rw [hk9]
  subst ht9
  obtain ⟨ad2, G2⟩ := v9
  replace hW : GW z ad2 G2 t9.heap := hW9
  refine lv_istore (lv' := [(5, .int k), (4, .int 0), (0, .ref b), (1, .ref (ad 0 0)), (2, .ref (A 0)), (3, .ref (A 13))]) hx hb dL_law_1859 hl (by decide) rfl (fun ls hl => ?_)
  refine lv_aload_n hx hb dL_law_1861 rfl (lv_at hl 4 rfl) ?_
  refine lv_aload_n hx hb dL_law_1862 rfl (lv_at hl 2 rfl) ?_
  refine lv_iload hx hb dL_law_1863 (lv_at hl 1 rfl) ?_
  refine lv_iconst (v := 1) hx hb dL_law_1865 (by decide) ?_
  refine lv_iadd hx hb dL_law_1866 ?_
  refine lv_topc (v := 1) (by decide) ?_
  refine va_sld hx hb hX hbl hbA hS (inb_in (by decide)) dL_law_1867 ?_
  rw [show xs ((1 : Int32).toNatClampNeg) = xs 1 from rfl]
  refine va_calli (nb_runVr (As := [.int (xs 1)]) (rest := []) hA2 hx hb hml hown hSW hS hW (m_X11_mark_ l z ad2 G2 hA2 A (mW w9) hF2 (xs 1) hg) mf_X11_mark_ lk_L_206 hF2.1 rfl rfl ⟨rfl, rfl⟩ ⟨Nat.le_of_ble_eq_true rfl, Nat.le_of_ble_eq_true rfl⟩ hl.1 (Nat.le_of_ble_eq_true rfl) dL_law_1868 ⟨Nat.le_of_ble_eq_true rfl, Nat.le_of_ble_eq_true rfl⟩) hS (fun _ _ h => h) (fun _ h => h) (fun r7 G3 t7 H locs ht7 _ hp7 hW7 _ _ hS => ?_)
  obtain ⟨hk7, hFw⟩ := hp7
  rw [hk7]
  subst ht7
  replace hW : GW z ad2 G3 t7.heap := hW7
  refine lv_istore (lv' := [(6, .int b9), (5, .int k), (4, .int 0), (0, .ref b), (1, .ref (ad 0 0)), (2, .ref (A 0)), (3, .ref (A 13))]) hx hb dL_law_1871 hl (by decide) rfl (fun ls hl => ?_)
  refine lv_aload_n hx hb dL_law_1873 rfl (lv_at hl 5 rfl) ?_
  obtain ⟨⟨fs9, hk0, -⟩, -⟩ := id hFw
  refine nb_ci (nb_runVr (As := []) (rest := []) hA2 hx hb hml hown hSW hS hW (m_thrown9 l z _ _ hA2 A hFw) mf_X11_thrown lk_L_123 hk0 rfl rfl ⟨rfl, rfl⟩ ⟨Nat.le_of_ble_eq_true rfl, Nat.le_of_ble_eq_true rfl⟩ hl.1 (Nat.le_of_ble_eq_true rfl) dL_law_1874 ⟨Nat.le_of_ble_eq_true rfl, Nat.le_of_ble_eq_true rfl⟩) hS (fun H locs hW hS => ?_)
  refine lv_iload hx hb dL_law_1877 (lv_at hl 1 rfl) ?_
  refine lv_icmp_eq (tgt := 1884) hx hb dL_law_1879 (by decide) (fun _ => ?_) (fun hc => absurd rfl hc)
  refine lv_iload hx hb dL_law_1884 (lv_at hl 1 rfl) ?_
  refine lv_if_ne (tgt := 1901) hx hb dL_law_1886 (by decide) (fun ck => ?_) (fun ck => ?_)
  · refine lv_goto (tgt := 2307) hx hb dL_law_1901 (by decide) ?_
    refine W.widen (k := 5000) (n := 50000) (Nat.le_of_ble_eq_true rfl) (Nat.le_of_ble_eq_true rfl) ?_
    exact kk _ _ _ hS (lv_sub hl [2, 3] rfl)
  · refine lv_aload_n hx hb dL_law_1889 rfl (lv_at hl 6 rfl) ?_
    refine lv_iconst (v := 0) hx hb dL_law_1890 (by decide) ?_
    refine nb_outr hA2 hx hb hK hW hFw dL_law_1891 ?_
    rw [show fmO (mW w9) = b9.toInt64 from congrArg Int32.toInt64 (hkb ck)]
    refine lv_iload hx hb dL_law_1892 (lv_at hl 0 rfl) ?_
    refine lv_i2l hx hb dL_law_1894 rfl ?_
    refine W.lcmp hx hb dL_law_1895 ?_
    refine lv_topc (v := 0) lg_self ?_
    refine lv_if_eq (tgt := 1901) hx hb dL_law_1896 (by decide) (fun _ => ?_) (fun hc => absurd rfl hc)
    refine lv_goto (tgt := 2307) hx hb dL_law_1901 (by decide) ?_
    refine W.widen (k := 5000) (n := 50000) (Nat.le_of_ble_eq_true rfl) (Nat.le_of_ble_eq_true rfl) ?_
    exact kk _ _ _ hS (lv_sub hl [2, 3] rfl)
set_option maxRecDepth 100000 in
set_option maxHeartbeats 4000000 in
theorem lc_ofRound (h : LX p l e s m meth c b xs z o ad X A) (hW : GW z ad (GC z ad N0 X u00) H) (hS : va_S (zA z) s.heap H locs) (hl : lv_has ls 9 [(4, .int 0), (0, .ref b), (1, .ref (ad 0 0)), (2, .ref (A 0)), (3, .ref (A 13))]) (hag : ∃ k w9 b9, R_ofRound (xs 1) (xs 2) k w9 0 ∧ g_X11_ofRound (mW w9) (xs 1) (xs 2) = some (b9, k) ∧ (k = 0 → w9 = b9))
    (kk : ∀ (H1 : Heap) (locs1 : List Loc) (ls1 : Array Slot), va_S (zA z) s.heap H1 locs1 → lv_has ls1 9 [(4, .int 0), (0, .ref b)] → W p l e room_1 s m #[Value.ref b] below meth c H1 locs1 5000 50000 Q (F0 m 2307 ls1 [])) : W p l e room_1 s m #[Value.ref b] below meth c H locs 1000 10000 Q (F0 m 1904 ls []) := by
  obtain ⟨hx, hb, hml, hown, hSW, hSO, hfl, hA, hF, hA9, hX, hbl, hbA⟩ := h
  obtain ⟨hT, hK, hST, hB0⟩ := id hSW
  refine lv_aload_n hx hb dL_law_1904 rfl (lv_at hl 2 rfl) ?_
  refine lv_aload_n hx hb dL_law_1905 rfl (lv_at hl 1 rfl) ?_
  refine lv_iload hx hb dL_law_1906 (lv_at hl 0 rfl) ?_
  refine lv_iconst (v := 1) hx hb dL_law_1908 (by decide) ?_
  refine lv_iadd hx hb dL_law_1909 ?_
  refine lv_topc (v := 1) (by decide) ?_
  refine va_sld hx hb hX hbl hbA hS (inb_in (by decide)) dL_law_1910 ?_
  rw [show xs ((1 : Int32).toNatClampNeg) = xs 1 from rfl]
  refine lv_aload_n hx hb dL_law_1911 rfl (lv_at hl 1 rfl) ?_
  refine lv_iload hx hb dL_law_1912 (lv_at hl 0 rfl) ?_
  refine lv_iconst (v := 2) hx hb dL_law_1914 (by decide) ?_
  refine lv_iadd hx hb dL_law_1915 ?_
  refine lv_topc (v := 2) (by decide) ?_
  refine va_sld hx hb hX hbl hbA hS (inb_in (by decide)) dL_law_1916 ?_
  rw [show xs ((2 : Int32).toNatClampNeg) = xs 2 from rfl]
  refine lv_aload_n hx hb dL_law_1917 rfl (lv_at hl 4 rfl) ?_
  obtain ⟨k, w9, b9, hR, hg, hkb⟩ := hag
  refine va_calli (nb_runW (As := [.ref (ad 0 0), .int (xs 1), .int (xs 2), .ref (A 13)]) (rest := []) hx hb hml hown hSW hSO hS hW (w_ofRound l hfl z o ad X hA A 0 hF (xs 1) (xs 2) hR) mfw_ofRound (List.mem_of_getElem? (i := 967) (by decide +kernel)) rfl ⟨rfl, rfl⟩ ⟨Nat.le_of_ble_eq_true rfl, Nat.le_of_ble_eq_true rfl⟩ hl.1 (Nat.le_of_ble_eq_true rfl) dL_law_1918 ⟨Nat.le_of_ble_eq_true rfl, Nat.le_of_ble_eq_true rfl⟩) hS (fun _ _ h => h) (fun _ h => h) (fun r9 v9 t9 H locs ht9 _ hp9 hW9 _ _ hS => ?_)
  obtain ⟨hk9, hA2, hF2⟩ := hp9
  rw [hk9]
  subst ht9
  obtain ⟨ad2, G2⟩ := v9
  replace hW : GW z ad2 G2 t9.heap := hW9
  refine lv_istore (lv' := [(5, .int k), (4, .int 0), (0, .ref b), (1, .ref (ad 0 0)), (2, .ref (A 0)), (3, .ref (A 13))]) hx hb dL_law_1921 hl (by decide) rfl (fun ls hl => ?_)
  refine lv_aload_n hx hb dL_law_1923 rfl (lv_at hl 4 rfl) ?_
  refine lv_aload_n hx hb dL_law_1924 rfl (lv_at hl 2 rfl) ?_
  refine lv_iload hx hb dL_law_1925 (lv_at hl 1 rfl) ?_
  refine lv_iconst (v := 1) hx hb dL_law_1927 (by decide) ?_
  refine lv_iadd hx hb dL_law_1928 ?_
  refine lv_topc (v := 1) (by decide) ?_
  refine va_sld hx hb hX hbl hbA hS (inb_in (by decide)) dL_law_1929 ?_
  rw [show xs ((1 : Int32).toNatClampNeg) = xs 1 from rfl]
  refine lv_aload_n hx hb dL_law_1930 rfl (lv_at hl 2 rfl) ?_
  refine lv_iload hx hb dL_law_1931 (lv_at hl 1 rfl) ?_
  refine lv_iconst (v := 2) hx hb dL_law_1933 (by decide) ?_
  refine lv_iadd hx hb dL_law_1934 ?_
  refine lv_topc (v := 2) (by decide) ?_
  refine va_sld hx hb hX hbl hbA hS (inb_in (by decide)) dL_law_1935 ?_
  rw [show xs ((2 : Int32).toNatClampNeg) = xs 2 from rfl]
  refine va_calli (nb_runVr (As := [.int (xs 1), .int (xs 2)]) (rest := []) hA2 hx hb hml hown hSW hS hW (m_X11_ofRound l z ad2 G2 hA2 A (mW w9) hF2 (xs 1) (xs 2) hg) mf_X11_ofRound lk_L_209 hF2.1 rfl rfl ⟨rfl, rfl⟩ ⟨Nat.le_of_ble_eq_true rfl, Nat.le_of_ble_eq_true rfl⟩ hl.1 (Nat.le_of_ble_eq_true rfl) dL_law_1936 ⟨Nat.le_of_ble_eq_true rfl, Nat.le_of_ble_eq_true rfl⟩) hS (fun _ _ h => h) (fun _ h => h) (fun r7 G3 t7 H locs ht7 _ hp7 hW7 _ _ hS => ?_)
  obtain ⟨hk7, hFw⟩ := hp7
  rw [hk7]
  subst ht7
  replace hW : GW z ad2 G3 t7.heap := hW7
  refine lv_istore (lv' := [(6, .int b9), (5, .int k), (4, .int 0), (0, .ref b), (1, .ref (ad 0 0)), (2, .ref (A 0)), (3, .ref (A 13))]) hx hb dL_law_1939 hl (by decide) rfl (fun ls hl => ?_)
  refine lv_aload_n hx hb dL_law_1941 rfl (lv_at hl 5 rfl) ?_
  obtain ⟨⟨fs9, hk0, -⟩, -⟩ := id hFw
  refine nb_ci (nb_runVr (As := []) (rest := []) hA2 hx hb hml hown hSW hS hW (m_thrown9 l z _ _ hA2 A hFw) mf_X11_thrown lk_L_123 hk0 rfl rfl ⟨rfl, rfl⟩ ⟨Nat.le_of_ble_eq_true rfl, Nat.le_of_ble_eq_true rfl⟩ hl.1 (Nat.le_of_ble_eq_true rfl) dL_law_1942 ⟨Nat.le_of_ble_eq_true rfl, Nat.le_of_ble_eq_true rfl⟩) hS (fun H locs hW hS => ?_)
  refine lv_iload hx hb dL_law_1945 (lv_at hl 1 rfl) ?_
  refine lv_icmp_eq (tgt := 1952) hx hb dL_law_1947 (by decide) (fun _ => ?_) (fun hc => absurd rfl hc)
  refine lv_iload hx hb dL_law_1952 (lv_at hl 1 rfl) ?_
  refine lv_if_ne (tgt := 1969) hx hb dL_law_1954 (by decide) (fun ck => ?_) (fun ck => ?_)
  · refine lv_goto (tgt := 2307) hx hb dL_law_1969 (by decide) ?_
    refine W.widen (k := 5000) (n := 50000) (Nat.le_of_ble_eq_true rfl) (Nat.le_of_ble_eq_true rfl) ?_
    exact kk _ _ _ hS (lv_sub hl [2, 3] rfl)
  · refine lv_aload_n hx hb dL_law_1957 rfl (lv_at hl 6 rfl) ?_
    refine lv_iconst (v := 0) hx hb dL_law_1958 (by decide) ?_
    refine nb_outr hA2 hx hb hK hW hFw dL_law_1959 ?_
    rw [show fmO (mW w9) = b9.toInt64 from congrArg Int32.toInt64 (hkb ck)]
    refine lv_iload hx hb dL_law_1960 (lv_at hl 0 rfl) ?_
    refine lv_i2l hx hb dL_law_1962 rfl ?_
    refine W.lcmp hx hb dL_law_1963 ?_
    refine lv_topc (v := 0) lg_self ?_
    refine lv_if_eq (tgt := 1969) hx hb dL_law_1964 (by decide) (fun _ => ?_) (fun hc => absurd rfl hc)
    refine lv_goto (tgt := 2307) hx hb dL_law_1969 (by decide) ?_
    refine W.widen (k := 5000) (n := 50000) (Nat.le_of_ble_eq_true rfl) (Nat.le_of_ble_eq_true rfl) ?_
    exact kk _ _ _ hS (lv_sub hl [2, 3] rfl)
set_option maxRecDepth 100000 in
set_option maxHeartbeats 4000000 in
theorem lc_many (h : LX p l e s m meth c b xs z o ad X A) (hW : GW z ad (GC z ad N0 X u00) H) (hS : va_S (zA z) s.heap H locs) (hl : lv_has ls 9 [(4, .int 0), (0, .ref b), (1, .ref (ad 0 0)), (2, .ref (A 0)), (3, .ref (A 13))]) (hag : ∃ k w9 b9, R_many (xs 1) k w9 0 ∧ g_X11_many (mW w9) (xs 1) = some (b9, k) ∧ (k = 0 → w9 = b9))
    (kk : ∀ (H1 : Heap) (locs1 : List Loc) (ls1 : Array Slot), va_S (zA z) s.heap H1 locs1 → lv_has ls1 9 [(4, .int 0), (0, .ref b)] → W p l e room_1 s m #[Value.ref b] below meth c H1 locs1 5000 50000 Q (F0 m 2307 ls1 [])) : W p l e room_1 s m #[Value.ref b] below meth c H locs 1000 10000 Q (F0 m 1972 ls []) := by
  obtain ⟨hx, hb, hml, hown, hSW, hSO, hfl, hA, hF, hA9, hX, hbl, hbA⟩ := h
  obtain ⟨hT, hK, hST, hB0⟩ := id hSW
  refine lv_aload_n hx hb dL_law_1972 rfl (lv_at hl 2 rfl) ?_
  refine lv_aload_n hx hb dL_law_1973 rfl (lv_at hl 1 rfl) ?_
  refine lv_iload hx hb dL_law_1974 (lv_at hl 0 rfl) ?_
  refine lv_iconst (v := 1) hx hb dL_law_1976 (by decide) ?_
  refine lv_iadd hx hb dL_law_1977 ?_
  refine lv_topc (v := 1) (by decide) ?_
  refine va_sld hx hb hX hbl hbA hS (inb_in (by decide)) dL_law_1978 ?_
  rw [show xs ((1 : Int32).toNatClampNeg) = xs 1 from rfl]
  refine lv_aload_n hx hb dL_law_1979 rfl (lv_at hl 4 rfl) ?_
  obtain ⟨k, w9, b9, hR, hg, hkb⟩ := hag
  refine va_calli (nb_runW (As := [.ref (ad 0 0), .int (xs 1), .ref (A 13)]) (rest := []) hx hb hml hown hSW hSO hS hW (w_many l hfl z o ad X hA A 0 hF (xs 1) hR) mfw_many (List.mem_of_getElem? (i := 971) (by decide +kernel)) rfl ⟨rfl, rfl⟩ ⟨Nat.le_of_ble_eq_true rfl, Nat.le_of_ble_eq_true rfl⟩ hl.1 (Nat.le_of_ble_eq_true rfl) dL_law_1980 ⟨Nat.le_of_ble_eq_true rfl, Nat.le_of_ble_eq_true rfl⟩) hS (fun _ _ h => h) (fun _ h => h) (fun r9 v9 t9 H locs ht9 _ hp9 hW9 _ _ hS => ?_)
  obtain ⟨hk9, hA2, hF2⟩ := hp9
  rw [hk9]
  subst ht9
  obtain ⟨ad2, G2⟩ := v9
  replace hW : GW z ad2 G2 t9.heap := hW9
  refine lv_istore (lv' := [(5, .int k), (4, .int 0), (0, .ref b), (1, .ref (ad 0 0)), (2, .ref (A 0)), (3, .ref (A 13))]) hx hb dL_law_1983 hl (by decide) rfl (fun ls hl => ?_)
  refine lv_aload_n hx hb dL_law_1985 rfl (lv_at hl 4 rfl) ?_
  refine lv_aload_n hx hb dL_law_1986 rfl (lv_at hl 2 rfl) ?_
  refine lv_iload hx hb dL_law_1987 (lv_at hl 1 rfl) ?_
  refine lv_iconst (v := 1) hx hb dL_law_1989 (by decide) ?_
  refine lv_iadd hx hb dL_law_1990 ?_
  refine lv_topc (v := 1) (by decide) ?_
  refine va_sld hx hb hX hbl hbA hS (inb_in (by decide)) dL_law_1991 ?_
  rw [show xs ((1 : Int32).toNatClampNeg) = xs 1 from rfl]
  refine va_calli (nb_runVr (As := [.int (xs 1)]) (rest := []) hA2 hx hb hml hown hSW hS hW (m_X11_many l z ad2 G2 hA2 A (mW w9) hF2 (xs 1) hg) mf_X11_many lk_L_212 hF2.1 rfl rfl ⟨rfl, rfl⟩ ⟨Nat.le_of_ble_eq_true rfl, Nat.le_of_ble_eq_true rfl⟩ hl.1 (Nat.le_of_ble_eq_true rfl) dL_law_1992 ⟨Nat.le_of_ble_eq_true rfl, Nat.le_of_ble_eq_true rfl⟩) hS (fun _ _ h => h) (fun _ h => h) (fun r7 G3 t7 H locs ht7 _ hp7 hW7 _ _ hS => ?_)
  obtain ⟨hk7, hFw⟩ := hp7
  rw [hk7]
  subst ht7
  replace hW : GW z ad2 G3 t7.heap := hW7
  refine lv_istore (lv' := [(6, .int b9), (5, .int k), (4, .int 0), (0, .ref b), (1, .ref (ad 0 0)), (2, .ref (A 0)), (3, .ref (A 13))]) hx hb dL_law_1995 hl (by decide) rfl (fun ls hl => ?_)
  refine lv_aload_n hx hb dL_law_1997 rfl (lv_at hl 5 rfl) ?_
  obtain ⟨⟨fs9, hk0, -⟩, -⟩ := id hFw
  refine nb_ci (nb_runVr (As := []) (rest := []) hA2 hx hb hml hown hSW hS hW (m_thrown9 l z _ _ hA2 A hFw) mf_X11_thrown lk_L_123 hk0 rfl rfl ⟨rfl, rfl⟩ ⟨Nat.le_of_ble_eq_true rfl, Nat.le_of_ble_eq_true rfl⟩ hl.1 (Nat.le_of_ble_eq_true rfl) dL_law_1998 ⟨Nat.le_of_ble_eq_true rfl, Nat.le_of_ble_eq_true rfl⟩) hS (fun H locs hW hS => ?_)
  refine lv_iload hx hb dL_law_2001 (lv_at hl 1 rfl) ?_
  refine lv_icmp_eq (tgt := 2008) hx hb dL_law_2003 (by decide) (fun _ => ?_) (fun hc => absurd rfl hc)
  refine lv_iload hx hb dL_law_2008 (lv_at hl 1 rfl) ?_
  refine lv_if_ne (tgt := 2025) hx hb dL_law_2010 (by decide) (fun ck => ?_) (fun ck => ?_)
  · refine lv_goto (tgt := 2307) hx hb dL_law_2025 (by decide) ?_
    refine W.widen (k := 5000) (n := 50000) (Nat.le_of_ble_eq_true rfl) (Nat.le_of_ble_eq_true rfl) ?_
    exact kk _ _ _ hS (lv_sub hl [2, 3] rfl)
  · refine lv_aload_n hx hb dL_law_2013 rfl (lv_at hl 6 rfl) ?_
    refine lv_iconst (v := 0) hx hb dL_law_2014 (by decide) ?_
    refine nb_outr hA2 hx hb hK hW hFw dL_law_2015 ?_
    rw [show fmO (mW w9) = b9.toInt64 from congrArg Int32.toInt64 (hkb ck)]
    refine lv_iload hx hb dL_law_2016 (lv_at hl 0 rfl) ?_
    refine lv_i2l hx hb dL_law_2018 rfl ?_
    refine W.lcmp hx hb dL_law_2019 ?_
    refine lv_topc (v := 0) lg_self ?_
    refine lv_if_eq (tgt := 2025) hx hb dL_law_2020 (by decide) (fun _ => ?_) (fun hc => absurd rfl hc)
    refine lv_goto (tgt := 2307) hx hb dL_law_2025 (by decide) ?_
    refine W.widen (k := 5000) (n := 50000) (Nat.le_of_ble_eq_true rfl) (Nat.le_of_ble_eq_true rfl) ?_
    exact kk _ _ _ hS (lv_sub hl [2, 3] rfl)
set_option maxRecDepth 100000 in
set_option maxHeartbeats 4000000 in
theorem lc_meanMemory (h : LX p l e s m meth c b xs z o ad X A) (hW : GW z ad (GC z ad N0 X u00) H) (hS : va_S (zA z) s.heap H locs) (hl : lv_has ls 9 [(4, .int 0), (0, .ref b), (1, .ref (ad 0 0)), (2, .ref (A 0)), (3, .ref (A 13))]) (hag : ∃ r8 u8 t8, f_X7_meanMemory N0 u00 = some (r8, u8) ∧ g_X11_meanMemory (mW 0) = some (r8, t8)) (hd0 : ∀ {r8 u8}, f_X7_meanMemory N0 u00 = some (r8, u8) → Op.cmpValue (FP.dcmp r8 r8) .l = 0)
    (kk : ∀ (H1 : Heap) (locs1 : List Loc) (ls1 : Array Slot), va_S (zA z) s.heap H1 locs1 → lv_has ls1 9 [(4, .int 0), (0, .ref b)] → W p l e room_1 s m #[Value.ref b] below meth c H1 locs1 5000 50000 Q (F0 m 2307 ls1 [])) : W p l e room_1 s m #[Value.ref b] below meth c H locs 1000 10000 Q (F0 m 2028 ls []) := by
  obtain ⟨hx, hb, hml, hown, hSW, hSO, hfl, hA, hF, hA9, hX, hbl, hbA⟩ := h
  obtain ⟨hT, hK, hST, hB0⟩ := id hSW
  refine lv_aload_n hx hb dL_law_2028 rfl (lv_at hl 2 rfl) ?_
  obtain ⟨r8, u8, t8, hf, hg⟩ := hag
  refine nb_cd (nb_runV (As := []) (rest := []) (kd := 0) (k := 0) hx hb hml hown hSW hS hW (c_X7_meanMemory l z ad N0 X u00 hf) mf_X7_meanMemory lk_L_213 (by rfl) rfl rfl ⟨rfl, rfl⟩ ⟨Nat.le_of_ble_eq_true rfl, Nat.le_of_ble_eq_true rfl⟩ hl.1 (Nat.le_of_ble_eq_true rfl) dL_law_2029 ⟨Nat.le_of_ble_eq_true rfl, Nat.le_of_ble_eq_true rfl⟩) hS (fun H locs hW hS => ?_)
  have hF2 := hF.gc (ad' := ad) (N' := N0) (u' := u8)
  have hA2 := hA
  refine lv_dstore (lv' := [(5, .double r8), (4, .int 0), (0, .ref b), (1, .ref (ad 0 0)), (2, .ref (A 0)), (3, .ref (A 13))]) hx hb dL_law_2032 hl (by decide) rfl (fun ls hl => ?_)
  refine lv_aload_n hx hb dL_law_2034 rfl (lv_at hl 4 rfl) ?_
  refine va_calld (nb_runVr (As := []) (rest := []) hA2 hx hb hml hown hSW hS hW (m_X11_meanMemory l z ad _ hA2 A (mW 0) hF2 hg) mf_X11_meanMemory lk_L_217 hF2.1 rfl rfl ⟨rfl, rfl⟩ ⟨Nat.le_of_ble_eq_true rfl, Nat.le_of_ble_eq_true rfl⟩ hl.1 (Nat.le_of_ble_eq_true rfl) dL_law_2035 ⟨Nat.le_of_ble_eq_true rfl, Nat.le_of_ble_eq_true rfl⟩) hS (fun _ _ h => h) (fun _ h => h) (fun r7 G3 t7 H locs ht7 _ hp7 hW7 _ _ hS => ?_)
  obtain ⟨hk7, hFw⟩ := hp7
  rw [hk7]
  subst ht7
  replace hW : GW z ad G3 t7.heap := hW7
  refine lv_dstore (lv' := [(7, .double r8), (5, .double r8), (4, .int 0), (0, .ref b), (1, .ref (ad 0 0)), (2, .ref (A 0)), (3, .ref (A 13))]) hx hb dL_law_2038 hl (by decide) rfl (fun ls hl => ?_)
  refine lv_dload hx hb dL_law_2040 (lv_at hl 1 rfl) ?_
  refine lv_dload hx hb dL_law_2042 (lv_at hl 0 rfl) ?_
  refine lv_dcmp hx hb dL_law_2044 ?_
  refine lv_topc (v := 0) (hd0 hf) ?_
  refine lv_if_eq (tgt := 2066) hx hb dL_law_2045 (by decide) (fun _ => ?_) (fun hc => absurd rfl hc)
  refine lv_goto (tgt := 2307) hx hb dL_law_2066 (by decide) ?_
  refine W.widen (k := 5000) (n := 50000) (Nat.le_of_ble_eq_true rfl) (Nat.le_of_ble_eq_true rfl) ?_
  exact kk _ _ _ hS (lv_sub hl [2, 3] rfl)
set_option maxRecDepth 100000 in
set_option maxHeartbeats 4000000 in
theorem lc_wouldTotal (h : LX p l e s m meth c b xs z o ad X A) (hW : GW z ad (GC z ad N0 X u00) H) (hS : va_S (zA z) s.heap H locs) (hl : lv_has ls 9 [(4, .int 0), (0, .ref b), (1, .ref (ad 0 0)), (2, .ref (A 0)), (3, .ref (A 13))]) (hag : ∃ k w9 b9, R_wouldTotal (xs 1) k w9 0 ∧ g_X11_wouldTotal (mW w9) (xs 1) = some (b9, k) ∧ (k = 0 → w9 = b9))
    (kk : ∀ (H1 : Heap) (locs1 : List Loc) (ls1 : Array Slot), va_S (zA z) s.heap H1 locs1 → lv_has ls1 9 [(4, .int 0), (0, .ref b)] → W p l e room_1 s m #[Value.ref b] below meth c H1 locs1 5000 50000 Q (F0 m 2307 ls1 [])) : W p l e room_1 s m #[Value.ref b] below meth c H locs 1000 10000 Q (F0 m 2069 ls []) := by
  obtain ⟨hx, hb, hml, hown, hSW, hSO, hfl, hA, hF, hA9, hX, hbl, hbA⟩ := h
  obtain ⟨hT, hK, hST, hB0⟩ := id hSW
  refine lv_aload_n hx hb dL_law_2069 rfl (lv_at hl 2 rfl) ?_
  refine lv_aload_n hx hb dL_law_2070 rfl (lv_at hl 1 rfl) ?_
  refine lv_iload hx hb dL_law_2071 (lv_at hl 0 rfl) ?_
  refine lv_iconst (v := 1) hx hb dL_law_2073 (by decide) ?_
  refine lv_iadd hx hb dL_law_2074 ?_
  refine lv_topc (v := 1) (by decide) ?_
  refine va_sld hx hb hX hbl hbA hS (inb_in (by decide)) dL_law_2075 ?_
  rw [show xs ((1 : Int32).toNatClampNeg) = xs 1 from rfl]
  refine lv_aload_n hx hb dL_law_2076 rfl (lv_at hl 4 rfl) ?_
  obtain ⟨k, w9, b9, hR, hg, hkb⟩ := hag
  refine va_calli (nb_runW (As := [.ref (ad 0 0), .int (xs 1), .ref (A 13)]) (rest := []) hx hb hml hown hSW hSO hS hW (w_wouldTotal l hfl z o ad X hA A 0 hF (xs 1) hR) mfw_wouldTotal (List.mem_of_getElem? (i := 975) (by decide +kernel)) rfl ⟨rfl, rfl⟩ ⟨Nat.le_of_ble_eq_true rfl, Nat.le_of_ble_eq_true rfl⟩ hl.1 (Nat.le_of_ble_eq_true rfl) dL_law_2077 ⟨Nat.le_of_ble_eq_true rfl, Nat.le_of_ble_eq_true rfl⟩) hS (fun _ _ h => h) (fun _ h => h) (fun r9 v9 t9 H locs ht9 _ hp9 hW9 _ _ hS => ?_)
  obtain ⟨hk9, hA2, hF2⟩ := hp9
  rw [hk9]
  subst ht9
  obtain ⟨ad2, G2⟩ := v9
  replace hW : GW z ad2 G2 t9.heap := hW9
  refine lv_istore (lv' := [(5, .int k), (4, .int 0), (0, .ref b), (1, .ref (ad 0 0)), (2, .ref (A 0)), (3, .ref (A 13))]) hx hb dL_law_2080 hl (by decide) rfl (fun ls hl => ?_)
  refine lv_aload_n hx hb dL_law_2082 rfl (lv_at hl 4 rfl) ?_
  refine lv_aload_n hx hb dL_law_2083 rfl (lv_at hl 2 rfl) ?_
  refine lv_iload hx hb dL_law_2084 (lv_at hl 1 rfl) ?_
  refine lv_iconst (v := 1) hx hb dL_law_2086 (by decide) ?_
  refine lv_iadd hx hb dL_law_2087 ?_
  refine lv_topc (v := 1) (by decide) ?_
  refine va_sld hx hb hX hbl hbA hS (inb_in (by decide)) dL_law_2088 ?_
  rw [show xs ((1 : Int32).toNatClampNeg) = xs 1 from rfl]
  refine va_calli (nb_runVr (As := [.int (xs 1)]) (rest := []) hA2 hx hb hml hown hSW hS hW (m_X11_wouldTotal l z ad2 G2 hA2 A (mW w9) hF2 (xs 1) hg) mf_X11_wouldTotal lk_L_220 hF2.1 rfl rfl ⟨rfl, rfl⟩ ⟨Nat.le_of_ble_eq_true rfl, Nat.le_of_ble_eq_true rfl⟩ hl.1 (Nat.le_of_ble_eq_true rfl) dL_law_2089 ⟨Nat.le_of_ble_eq_true rfl, Nat.le_of_ble_eq_true rfl⟩) hS (fun _ _ h => h) (fun _ h => h) (fun r7 G3 t7 H locs ht7 _ hp7 hW7 _ _ hS => ?_)
  obtain ⟨hk7, hFw⟩ := hp7
  rw [hk7]
  subst ht7
  replace hW : GW z ad2 G3 t7.heap := hW7
  refine lv_istore (lv' := [(6, .int b9), (5, .int k), (4, .int 0), (0, .ref b), (1, .ref (ad 0 0)), (2, .ref (A 0)), (3, .ref (A 13))]) hx hb dL_law_2092 hl (by decide) rfl (fun ls hl => ?_)
  refine lv_aload_n hx hb dL_law_2094 rfl (lv_at hl 5 rfl) ?_
  obtain ⟨⟨fs9, hk0, -⟩, -⟩ := id hFw
  refine nb_ci (nb_runVr (As := []) (rest := []) hA2 hx hb hml hown hSW hS hW (m_thrown9 l z _ _ hA2 A hFw) mf_X11_thrown lk_L_123 hk0 rfl rfl ⟨rfl, rfl⟩ ⟨Nat.le_of_ble_eq_true rfl, Nat.le_of_ble_eq_true rfl⟩ hl.1 (Nat.le_of_ble_eq_true rfl) dL_law_2095 ⟨Nat.le_of_ble_eq_true rfl, Nat.le_of_ble_eq_true rfl⟩) hS (fun H locs hW hS => ?_)
  refine lv_iload hx hb dL_law_2098 (lv_at hl 1 rfl) ?_
  refine lv_icmp_eq (tgt := 2105) hx hb dL_law_2100 (by decide) (fun _ => ?_) (fun hc => absurd rfl hc)
  refine lv_iload hx hb dL_law_2105 (lv_at hl 1 rfl) ?_
  refine lv_if_ne (tgt := 2122) hx hb dL_law_2107 (by decide) (fun ck => ?_) (fun ck => ?_)
  · refine lv_goto (tgt := 2307) hx hb dL_law_2122 (by decide) ?_
    refine W.widen (k := 5000) (n := 50000) (Nat.le_of_ble_eq_true rfl) (Nat.le_of_ble_eq_true rfl) ?_
    exact kk _ _ _ hS (lv_sub hl [2, 3] rfl)
  · refine lv_aload_n hx hb dL_law_2110 rfl (lv_at hl 6 rfl) ?_
    refine lv_iconst (v := 0) hx hb dL_law_2111 (by decide) ?_
    refine nb_outr hA2 hx hb hK hW hFw dL_law_2112 ?_
    rw [show fmO (mW w9) = b9.toInt64 from congrArg Int32.toInt64 (hkb ck)]
    refine lv_iload hx hb dL_law_2113 (lv_at hl 0 rfl) ?_
    refine lv_i2l hx hb dL_law_2115 rfl ?_
    refine W.lcmp hx hb dL_law_2116 ?_
    refine lv_topc (v := 0) lg_self ?_
    refine lv_if_eq (tgt := 2122) hx hb dL_law_2117 (by decide) (fun _ => ?_) (fun hc => absurd rfl hc)
    refine lv_goto (tgt := 2307) hx hb dL_law_2122 (by decide) ?_
    refine W.widen (k := 5000) (n := 50000) (Nat.le_of_ble_eq_true rfl) (Nat.le_of_ble_eq_true rfl) ?_
    exact kk _ _ _ hS (lv_sub hl [2, 3] rfl)
set_option maxRecDepth 100000 in
set_option maxHeartbeats 4000000 in
theorem lc_bestOrder (h : LX p l e s m meth c b xs z o ad X A) (hW : GW z ad (GC z ad N0 X u00) H) (hS : va_S (zA z) s.heap H locs) (hl : lv_has ls 9 [(4, .int 0), (0, .ref b), (1, .ref (ad 0 0)), (2, .ref (A 0)), (3, .ref (A 13))]) (hag : ∃ k w9 b9, R_bestOrder k w9 0 ∧ g_X11_bestOrder (mW w9) = some (b9, k) ∧ (k = 0 → w9 = b9))
    (kk : ∀ (H1 : Heap) (locs1 : List Loc) (ls1 : Array Slot), va_S (zA z) s.heap H1 locs1 → lv_has ls1 9 [(4, .int 0), (0, .ref b)] → W p l e room_1 s m #[Value.ref b] below meth c H1 locs1 5000 50000 Q (F0 m 2307 ls1 [])) : W p l e room_1 s m #[Value.ref b] below meth c H locs 1000 10000 Q (F0 m 2125 ls []) := by
  obtain ⟨hx, hb, hml, hown, hSW, hSO, hfl, hA, hF, hA9, hX, hbl, hbA⟩ := h
  obtain ⟨hT, hK, hST, hB0⟩ := id hSW
  refine lv_aload_n hx hb dL_law_2125 rfl (lv_at hl 2 rfl) ?_
  refine lv_aload_n hx hb dL_law_2126 rfl (lv_at hl 4 rfl) ?_
  obtain ⟨k, w9, b9, hR, hg, hkb⟩ := hag
  refine va_calli (nb_runW (As := [.ref (ad 0 0), .ref (A 13)]) (rest := []) hx hb hml hown hSW hSO hS hW (w_bestOrder l hfl z o ad X hA A 0 hF hR) mfw_bestOrder (List.mem_of_getElem? (i := 979) (by decide +kernel)) rfl ⟨rfl, rfl⟩ ⟨Nat.le_of_ble_eq_true rfl, Nat.le_of_ble_eq_true rfl⟩ hl.1 (Nat.le_of_ble_eq_true rfl) dL_law_2127 ⟨Nat.le_of_ble_eq_true rfl, Nat.le_of_ble_eq_true rfl⟩) hS (fun _ _ h => h) (fun _ h => h) (fun r9 v9 t9 H locs ht9 _ hp9 hW9 _ _ hS => ?_)
  obtain ⟨hk9, hA2, hF2⟩ := hp9
  rw [hk9]
  subst ht9
  obtain ⟨ad2, G2⟩ := v9
  replace hW : GW z ad2 G2 t9.heap := hW9
  refine lv_istore (lv' := [(5, .int k), (4, .int 0), (0, .ref b), (1, .ref (ad 0 0)), (2, .ref (A 0)), (3, .ref (A 13))]) hx hb dL_law_2130 hl (by decide) rfl (fun ls hl => ?_)
  refine lv_aload_n hx hb dL_law_2132 rfl (lv_at hl 4 rfl) ?_
  refine va_calli (nb_runVr (As := []) (rest := []) hA2 hx hb hml hown hSW hS hW (m_X11_bestOrder l z ad2 G2 hA2 A (mW w9) hF2 hg) mf_X11_bestOrder lk_L_223 hF2.1 rfl rfl ⟨rfl, rfl⟩ ⟨Nat.le_of_ble_eq_true rfl, Nat.le_of_ble_eq_true rfl⟩ hl.1 (Nat.le_of_ble_eq_true rfl) dL_law_2133 ⟨Nat.le_of_ble_eq_true rfl, Nat.le_of_ble_eq_true rfl⟩) hS (fun _ _ h => h) (fun _ h => h) (fun r7 G3 t7 H locs ht7 _ hp7 hW7 _ _ hS => ?_)
  obtain ⟨hk7, hFw⟩ := hp7
  rw [hk7]
  subst ht7
  replace hW : GW z ad2 G3 t7.heap := hW7
  refine lv_istore (lv' := [(6, .int b9), (5, .int k), (4, .int 0), (0, .ref b), (1, .ref (ad 0 0)), (2, .ref (A 0)), (3, .ref (A 13))]) hx hb dL_law_2136 hl (by decide) rfl (fun ls hl => ?_)
  refine lv_aload_n hx hb dL_law_2138 rfl (lv_at hl 5 rfl) ?_
  obtain ⟨⟨fs9, hk0, -⟩, -⟩ := id hFw
  refine nb_ci (nb_runVr (As := []) (rest := []) hA2 hx hb hml hown hSW hS hW (m_thrown9 l z _ _ hA2 A hFw) mf_X11_thrown lk_L_123 hk0 rfl rfl ⟨rfl, rfl⟩ ⟨Nat.le_of_ble_eq_true rfl, Nat.le_of_ble_eq_true rfl⟩ hl.1 (Nat.le_of_ble_eq_true rfl) dL_law_2139 ⟨Nat.le_of_ble_eq_true rfl, Nat.le_of_ble_eq_true rfl⟩) hS (fun H locs hW hS => ?_)
  refine lv_iload hx hb dL_law_2142 (lv_at hl 1 rfl) ?_
  refine lv_icmp_eq (tgt := 2149) hx hb dL_law_2144 (by decide) (fun _ => ?_) (fun hc => absurd rfl hc)
  refine lv_iload hx hb dL_law_2149 (lv_at hl 1 rfl) ?_
  refine lv_if_ne (tgt := 2166) hx hb dL_law_2151 (by decide) (fun ck => ?_) (fun ck => ?_)
  · refine lv_goto (tgt := 2307) hx hb dL_law_2166 (by decide) ?_
    refine W.widen (k := 5000) (n := 50000) (Nat.le_of_ble_eq_true rfl) (Nat.le_of_ble_eq_true rfl) ?_
    exact kk _ _ _ hS (lv_sub hl [2, 3] rfl)
  · refine lv_aload_n hx hb dL_law_2154 rfl (lv_at hl 6 rfl) ?_
    refine lv_iconst (v := 0) hx hb dL_law_2155 (by decide) ?_
    refine nb_outr hA2 hx hb hK hW hFw dL_law_2156 ?_
    rw [show fmO (mW w9) = b9.toInt64 from congrArg Int32.toInt64 (hkb ck)]
    refine lv_iload hx hb dL_law_2157 (lv_at hl 0 rfl) ?_
    refine lv_i2l hx hb dL_law_2159 rfl ?_
    refine W.lcmp hx hb dL_law_2160 ?_
    refine lv_topc (v := 0) lg_self ?_
    refine lv_if_eq (tgt := 2166) hx hb dL_law_2161 (by decide) (fun _ => ?_) (fun hc => absurd rfl hc)
    refine lv_goto (tgt := 2307) hx hb dL_law_2166 (by decide) ?_
    refine W.widen (k := 5000) (n := 50000) (Nat.le_of_ble_eq_true rfl) (Nat.le_of_ble_eq_true rfl) ?_
    exact kk _ _ _ hS (lv_sub hl [2, 3] rfl)
set_option maxRecDepth 100000 in
set_option maxHeartbeats 4000000 in
theorem lc_bestTeach (h : LX p l e s m meth c b xs z o ad X A) (hW : GW z ad (GC z ad N0 X u00) H) (hS : va_S (zA z) s.heap H locs) (hl : lv_has ls 9 [(4, .int 0), (0, .ref b), (1, .ref (ad 0 0)), (2, .ref (A 0)), (3, .ref (A 13))]) (hag : ∃ k w9 b9, R_bestTeach (xs 1) (xs 2) k w9 0 ∧ g_X11_bestTeach (mW w9) (xs 1) (xs 2) = some (b9, k) ∧ k ≠ 0)
    (kk : ∀ (H1 : Heap) (locs1 : List Loc) (ls1 : Array Slot), va_S (zA z) s.heap H1 locs1 → lv_has ls1 9 [(4, .int 0), (0, .ref b)] → W p l e room_1 s m #[Value.ref b] below meth c H1 locs1 5000 50000 Q (F0 m 2307 ls1 [])) : W p l e room_1 s m #[Value.ref b] below meth c H locs 1000 10000 Q (F0 m 2169 ls []) := by
  obtain ⟨hx, hb, hml, hown, hSW, hSO, hfl, hA, hF, hA9, hX, hbl, hbA⟩ := h
  obtain ⟨hT, hK, hST, hB0⟩ := id hSW
  refine lv_aload_n hx hb dL_law_2169 rfl (lv_at hl 2 rfl) ?_
  refine lv_aload_n hx hb dL_law_2170 rfl (lv_at hl 1 rfl) ?_
  refine lv_iload hx hb dL_law_2171 (lv_at hl 0 rfl) ?_
  refine lv_iconst (v := 1) hx hb dL_law_2173 (by decide) ?_
  refine lv_iadd hx hb dL_law_2174 ?_
  refine lv_topc (v := 1) (by decide) ?_
  refine va_sld hx hb hX hbl hbA hS (inb_in (by decide)) dL_law_2175 ?_
  rw [show xs ((1 : Int32).toNatClampNeg) = xs 1 from rfl]
  refine lv_aload_n hx hb dL_law_2176 rfl (lv_at hl 1 rfl) ?_
  refine lv_iload hx hb dL_law_2177 (lv_at hl 0 rfl) ?_
  refine lv_iconst (v := 2) hx hb dL_law_2179 (by decide) ?_
  refine lv_iadd hx hb dL_law_2180 ?_
  refine lv_topc (v := 2) (by decide) ?_
  refine va_sld hx hb hX hbl hbA hS (inb_in (by decide)) dL_law_2181 ?_
  rw [show xs ((2 : Int32).toNatClampNeg) = xs 2 from rfl]
  refine lv_aload_n hx hb dL_law_2182 rfl (lv_at hl 4 rfl) ?_
  obtain ⟨k, w9, b9, hR, hg, hkb⟩ := hag
  refine va_calli (nb_runW (As := [.ref (ad 0 0), .int (xs 1), .int (xs 2), .ref (A 13)]) (rest := []) hx hb hml hown hSW hSO hS hW (w_bestTeach l hfl z o ad X hA A 0 hF (xs 1) (xs 2) hR) mfw_bestTeach (List.mem_of_getElem? (i := 983) (by decide +kernel)) rfl ⟨rfl, rfl⟩ ⟨Nat.le_of_ble_eq_true rfl, Nat.le_of_ble_eq_true rfl⟩ hl.1 (Nat.le_of_ble_eq_true rfl) dL_law_2183 ⟨Nat.le_of_ble_eq_true rfl, Nat.le_of_ble_eq_true rfl⟩) hS (fun _ _ h => h) (fun _ h => h) (fun r9 v9 t9 H locs ht9 _ hp9 hW9 _ _ hS => ?_)
  obtain ⟨hk9, hA2, hF2⟩ := hp9
  rw [hk9]
  subst ht9
  obtain ⟨ad2, G2⟩ := v9
  replace hW : GW z ad2 G2 t9.heap := hW9
  refine lv_istore (lv' := [(5, .int k), (4, .int 0), (0, .ref b), (1, .ref (ad 0 0)), (2, .ref (A 0)), (3, .ref (A 13))]) hx hb dL_law_2186 hl (by decide) rfl (fun ls hl => ?_)
  refine lv_aload_n hx hb dL_law_2188 rfl (lv_at hl 4 rfl) ?_
  refine lv_aload_n hx hb dL_law_2189 rfl (lv_at hl 2 rfl) ?_
  refine lv_iload hx hb dL_law_2190 (lv_at hl 1 rfl) ?_
  refine lv_iconst (v := 1) hx hb dL_law_2192 (by decide) ?_
  refine lv_iadd hx hb dL_law_2193 ?_
  refine lv_topc (v := 1) (by decide) ?_
  refine va_sld hx hb hX hbl hbA hS (inb_in (by decide)) dL_law_2194 ?_
  rw [show xs ((1 : Int32).toNatClampNeg) = xs 1 from rfl]
  refine lv_aload_n hx hb dL_law_2195 rfl (lv_at hl 2 rfl) ?_
  refine lv_iload hx hb dL_law_2196 (lv_at hl 1 rfl) ?_
  refine lv_iconst (v := 2) hx hb dL_law_2198 (by decide) ?_
  refine lv_iadd hx hb dL_law_2199 ?_
  refine lv_topc (v := 2) (by decide) ?_
  refine va_sld hx hb hX hbl hbA hS (inb_in (by decide)) dL_law_2200 ?_
  rw [show xs ((2 : Int32).toNatClampNeg) = xs 2 from rfl]
  refine va_calli (nb_runVr (As := [.int (xs 1), .int (xs 2)]) (rest := []) hA2 hx hb hml hown hSW hS hW (m_X11_bestTeach l z ad2 G2 hA2 A (mW w9) hF2 (xs 1) (xs 2) hg) mf_X11_bestTeach lk_L_226 hF2.1 rfl rfl ⟨rfl, rfl⟩ ⟨Nat.le_of_ble_eq_true rfl, Nat.le_of_ble_eq_true rfl⟩ hl.1 (Nat.le_of_ble_eq_true rfl) dL_law_2201 ⟨Nat.le_of_ble_eq_true rfl, Nat.le_of_ble_eq_true rfl⟩) hS (fun _ _ h => h) (fun _ h => h) (fun r7 G3 t7 H locs ht7 _ hp7 hW7 _ _ hS => ?_)
  obtain ⟨hk7, hFw⟩ := hp7
  rw [hk7]
  subst ht7
  replace hW : GW z ad2 G3 t7.heap := hW7
  refine lv_istore (lv' := [(6, .int b9), (5, .int k), (4, .int 0), (0, .ref b), (1, .ref (ad 0 0)), (2, .ref (A 0)), (3, .ref (A 13))]) hx hb dL_law_2204 hl (by decide) rfl (fun ls hl => ?_)
  refine lv_aload_n hx hb dL_law_2206 rfl (lv_at hl 5 rfl) ?_
  obtain ⟨⟨fs9, hk0, -⟩, -⟩ := id hFw
  refine nb_ci (nb_runVr (As := []) (rest := []) hA2 hx hb hml hown hSW hS hW (m_thrown9 l z _ _ hA2 A hFw) mf_X11_thrown lk_L_123 hk0 rfl rfl ⟨rfl, rfl⟩ ⟨Nat.le_of_ble_eq_true rfl, Nat.le_of_ble_eq_true rfl⟩ hl.1 (Nat.le_of_ble_eq_true rfl) dL_law_2207 ⟨Nat.le_of_ble_eq_true rfl, Nat.le_of_ble_eq_true rfl⟩) hS (fun H locs hW hS => ?_)
  refine lv_iload hx hb dL_law_2210 (lv_at hl 1 rfl) ?_
  refine lv_icmp_eq (tgt := 2217) hx hb dL_law_2212 (by decide) (fun _ => ?_) (fun hc => absurd rfl hc)
  refine lv_iload hx hb dL_law_2217 (lv_at hl 1 rfl) ?_
  refine lv_if_ne (tgt := 2234) hx hb dL_law_2219 (by decide) (fun _ => ?_) (fun ck => absurd ck hkb)
  refine lv_goto (tgt := 2307) hx hb dL_law_2234 (by decide) ?_
  refine W.widen (k := 5000) (n := 50000) (Nat.le_of_ble_eq_true rfl) (Nat.le_of_ble_eq_true rfl) ?_
  exact kk _ _ _ hS (lv_sub hl [2, 3] rfl)
set_option maxRecDepth 100000 in
set_option maxHeartbeats 4000000 in
theorem lc_blowsFor (h : LX p l e s m meth c b xs z o ad X A) (hW : GW z ad (GC z ad N0 X u00) H) (hS : va_S (zA z) s.heap H locs) (hl : lv_has ls 9 [(4, .int 0), (0, .ref b), (1, .ref (ad 0 0)), (2, .ref (A 0)), (3, .ref (A 13))]) (hag : ∃ k w9 b9, R_blowsFor (xs 1) k w9 0 ∧ g_X11_blowsFor (mW w9) (xs 1) = some (b9, k) ∧ k ≠ 0)
    (kk : ∀ (H1 : Heap) (locs1 : List Loc) (ls1 : Array Slot), va_S (zA z) s.heap H1 locs1 → lv_has ls1 9 [(4, .int 0), (0, .ref b)] → W p l e room_1 s m #[Value.ref b] below meth c H1 locs1 5000 50000 Q (F0 m 2307 ls1 [])) : W p l e room_1 s m #[Value.ref b] below meth c H locs 1000 10000 Q (F0 m 2237 ls []) := by
  obtain ⟨hx, hb, hml, hown, hSW, hSO, hfl, hA, hF, hA9, hX, hbl, hbA⟩ := h
  obtain ⟨hT, hK, hST, hB0⟩ := id hSW
  refine lv_aload_n hx hb dL_law_2237 rfl (lv_at hl 2 rfl) ?_
  refine lv_aload_n hx hb dL_law_2238 rfl (lv_at hl 1 rfl) ?_
  refine lv_iload hx hb dL_law_2239 (lv_at hl 0 rfl) ?_
  refine lv_iconst (v := 1) hx hb dL_law_2241 (by decide) ?_
  refine lv_iadd hx hb dL_law_2242 ?_
  refine lv_topc (v := 1) (by decide) ?_
  refine va_sld hx hb hX hbl hbA hS (inb_in (by decide)) dL_law_2243 ?_
  rw [show xs ((1 : Int32).toNatClampNeg) = xs 1 from rfl]
  refine lv_aload_n hx hb dL_law_2244 rfl (lv_at hl 4 rfl) ?_
  obtain ⟨k, w9, b9, hR, hg, hkb⟩ := hag
  refine va_calli (nb_runW (As := [.ref (ad 0 0), .int (xs 1), .ref (A 13)]) (rest := []) hx hb hml hown hSW hSO hS hW (w_blowsFor l hfl z o ad X hA A 0 hF (xs 1) hR) mfw_blowsFor (List.mem_of_getElem? (i := 987) (by decide +kernel)) rfl ⟨rfl, rfl⟩ ⟨Nat.le_of_ble_eq_true rfl, Nat.le_of_ble_eq_true rfl⟩ hl.1 (Nat.le_of_ble_eq_true rfl) dL_law_2245 ⟨Nat.le_of_ble_eq_true rfl, Nat.le_of_ble_eq_true rfl⟩) hS (fun _ _ h => h) (fun _ h => h) (fun r9 v9 t9 H locs ht9 _ hp9 hW9 _ _ hS => ?_)
  obtain ⟨hk9, hA2, hF2⟩ := hp9
  rw [hk9]
  subst ht9
  obtain ⟨ad2, G2⟩ := v9
  replace hW : GW z ad2 G2 t9.heap := hW9
  refine lv_istore (lv' := [(5, .int k), (4, .int 0), (0, .ref b), (1, .ref (ad 0 0)), (2, .ref (A 0)), (3, .ref (A 13))]) hx hb dL_law_2248 hl (by decide) rfl (fun ls hl => ?_)
  refine lv_aload_n hx hb dL_law_2250 rfl (lv_at hl 4 rfl) ?_
  refine lv_aload_n hx hb dL_law_2251 rfl (lv_at hl 2 rfl) ?_
  refine lv_iload hx hb dL_law_2252 (lv_at hl 1 rfl) ?_
  refine lv_iconst (v := 1) hx hb dL_law_2254 (by decide) ?_
  refine lv_iadd hx hb dL_law_2255 ?_
  refine lv_topc (v := 1) (by decide) ?_
  refine va_sld hx hb hX hbl hbA hS (inb_in (by decide)) dL_law_2256 ?_
  rw [show xs ((1 : Int32).toNatClampNeg) = xs 1 from rfl]
  refine va_calli (nb_runVr (As := [.int (xs 1)]) (rest := []) hA2 hx hb hml hown hSW hS hW (m_X11_blowsFor l z ad2 G2 hA2 A (mW w9) hF2 (xs 1) hg) mf_X11_blowsFor lk_L_229 hF2.1 rfl rfl ⟨rfl, rfl⟩ ⟨Nat.le_of_ble_eq_true rfl, Nat.le_of_ble_eq_true rfl⟩ hl.1 (Nat.le_of_ble_eq_true rfl) dL_law_2257 ⟨Nat.le_of_ble_eq_true rfl, Nat.le_of_ble_eq_true rfl⟩) hS (fun _ _ h => h) (fun _ h => h) (fun r7 G3 t7 H locs ht7 _ hp7 hW7 _ _ hS => ?_)
  obtain ⟨hk7, hFw⟩ := hp7
  rw [hk7]
  subst ht7
  replace hW : GW z ad2 G3 t7.heap := hW7
  refine lv_istore (lv' := [(6, .int b9), (5, .int k), (4, .int 0), (0, .ref b), (1, .ref (ad 0 0)), (2, .ref (A 0)), (3, .ref (A 13))]) hx hb dL_law_2260 hl (by decide) rfl (fun ls hl => ?_)
  refine lv_aload_n hx hb dL_law_2262 rfl (lv_at hl 5 rfl) ?_
  obtain ⟨⟨fs9, hk0, -⟩, -⟩ := id hFw
  refine nb_ci (nb_runVr (As := []) (rest := []) hA2 hx hb hml hown hSW hS hW (m_thrown9 l z _ _ hA2 A hFw) mf_X11_thrown lk_L_123 hk0 rfl rfl ⟨rfl, rfl⟩ ⟨Nat.le_of_ble_eq_true rfl, Nat.le_of_ble_eq_true rfl⟩ hl.1 (Nat.le_of_ble_eq_true rfl) dL_law_2263 ⟨Nat.le_of_ble_eq_true rfl, Nat.le_of_ble_eq_true rfl⟩) hS (fun H locs hW hS => ?_)
  refine lv_iload hx hb dL_law_2266 (lv_at hl 1 rfl) ?_
  refine lv_icmp_eq (tgt := 2273) hx hb dL_law_2268 (by decide) (fun _ => ?_) (fun hc => absurd rfl hc)
  refine lv_iload hx hb dL_law_2273 (lv_at hl 1 rfl) ?_
  refine lv_if_ne (tgt := 2290) hx hb dL_law_2275 (by decide) (fun _ => ?_) (fun ck => absurd ck hkb)
  refine lv_goto (tgt := 2307) hx hb dL_law_2290 (by decide) ?_
  refine W.widen (k := 5000) (n := 50000) (Nat.le_of_ble_eq_true rfl) (Nat.le_of_ble_eq_true rfl) ?_
  exact kk _ _ _ hS (lv_sub hl [2, 3] rfl)
set_option maxRecDepth 100000 in
set_option maxHeartbeats 4000000 in
theorem lc_digest (h : LX p l e s m meth c b xs z o ad X A) (hW : GW z ad (GC z ad N0 X u00) H) (hS : va_S (zA z) s.heap H locs) (hl : lv_has ls 9 [(4, .int 0), (0, .ref b), (1, .ref (ad 0 0)), (2, .ref (A 0)), (3, .ref (A 13))]) (hag : ∃ r8 u8 t8, f_X7_digest N0 u00 = some (.ok r8, u8) ∧ g_X11_digest (mW 0) = some (r8, t8))
    (kk : ∀ (H1 : Heap) (locs1 : List Loc) (ls1 : Array Slot), va_S (zA z) s.heap H1 locs1 → lv_has ls1 9 [(4, .int 0), (0, .ref b)] → W p l e room_1 s m #[Value.ref b] below meth c H1 locs1 5000 50000 Q (F0 m 2307 ls1 [])) : W p l e room_1 s m #[Value.ref b] below meth c H locs 1000 10000 Q (F0 m 2293 ls []) := by
  obtain ⟨hx, hb, hml, hown, hSW, hSO, hfl, hA, hF, hA9, hX, hbl, hbA⟩ := h
  obtain ⟨hT, hK, hST, hB0⟩ := id hSW
  refine lv_aload_n hx hb dL_law_2293 rfl (lv_at hl 2 rfl) ?_
  obtain ⟨r8, u8, t8, hf, hg⟩ := hag
  refine nb_cl (nb_runV (As := []) (rest := []) (kd := 0) (k := 0) hx hb hml hown hSW hS hW (c_X7_digest l z ad N0 X u00 hf) mf_X7_digest lk_L_230 (by rfl) rfl rfl ⟨rfl, rfl⟩ ⟨Nat.le_of_ble_eq_true rfl, Nat.le_of_ble_eq_true rfl⟩ hl.1 (Nat.le_of_ble_eq_true rfl) dL_law_2294 ⟨Nat.le_of_ble_eq_true rfl, Nat.le_of_ble_eq_true rfl⟩) hS (fun H locs hW hS => ?_)
  have hF2 := hF.gc (ad' := ad) (N' := N0) (u' := u8)
  have hA2 := hA
  refine lv_aload_n hx hb dL_law_2297 rfl (lv_at hl 3 rfl) ?_
  refine va_calll (nb_runVr (As := []) (rest := [.long r8]) hA2 hx hb hml hown hSW hS hW (m_X11_digest l z ad _ hA2 A (mW 0) hF2 hg) mf_X11_digest lk_L_234 hF2.1 rfl rfl ⟨rfl, rfl⟩ ⟨Nat.le_of_ble_eq_true rfl, Nat.le_of_ble_eq_true rfl⟩ hl.1 (Nat.le_of_ble_eq_true rfl) dL_law_2298 ⟨Nat.le_of_ble_eq_true rfl, Nat.le_of_ble_eq_true rfl⟩) hS (fun _ _ h => h) (fun _ h => h) (fun r7 G3 t7 H locs ht7 _ hp7 hW7 _ _ hS => ?_)
  obtain ⟨hk7, hFw⟩ := hp7
  rw [hk7]
  subst ht7
  replace hW : GW z ad G3 t7.heap := hW7
  refine W.lcmp hx hb dL_law_2301 ?_
  refine lv_topc (v := 0) lg_self ?_
  refine lv_if_eq (tgt := 2307) hx hb dL_law_2302 (by decide) (fun _ => ?_) (fun hc => absurd rfl hc)
  refine W.widen (k := 5000) (n := 50000) (Nat.le_of_ble_eq_true rfl) (Nat.le_of_ble_eq_true rfl) ?_
  exact kk _ _ _ hS (lv_sub hl [0, 1] rfl)
end LCS
