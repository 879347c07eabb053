section QT
/-- a method: name, code, locals, result, arguments, kind (0 instance, 1 static, 2 constructor), places -/
abbrev qMr : Type := MethodName × ByteArray × Nat × Option FieldType × Nat × Nat × (Nat × Nat) × (Nat × Nat) × (Nat × Nat)
def qMb (q : qMr) : Bool := match q with
  | (y, _, _, ret, n, kd, b, d, f) => (match kd with
    | 0 => decide (qat b = some (.instanceMethod y)) && decide (qat d = some (.selects y.cls y y))
    | 1 => decide (qat b = some (.static y))
    | _ => decide (qat b = some (.instanceMethod y)) && decide (y.name = "<init>") && decide (ret = none)) && decide (qat f = some (.initialized y.cls)) && decide ((parseMethodDescriptor y.desc).map (fun z => z.parameters.length) = some n) && plainName y.cls && decide (q.2.2.1 ≤ 60) && decide (y.cls ≠ "java/lang/invoke/MethodHandle") && decide (y.cls ≠ "java/lang/invoke/VarHandle")
def qMg (q : qMr) : Prop := Jvm.Cond.code q.1 q.2.1 q.2.2.1 q.2.2.2.1 ∈ lw_tbl ∧ qMb q = true
abbrev qm0 : qMr := (yX0_init, cX0_init, 1, none, 0, 2, (1, 165), (0, 0), (1, 6))
theorem qm0_ok : qMg qm0 := ⟨qtb_in 1 _ (List.mem_of_getElem? (i := 166) rfl), by decide +kernel⟩
abbrev qm1 : qMr := (yX0_clear, cX0_clear, 1, none, 0, 0, (4, 185), (4, 186), (1, 6))
theorem qm1_ok : qMg qm1 := ⟨qtb_in 4 _ (List.mem_of_getElem? (i := 187) rfl), by decide +kernel⟩
abbrev qm2 : qMr := (yX0_copy, cX0_copy, 2, none, 1, 0, (5, 55), (5, 56), (1, 6))
theorem qm2_ok : qMg qm2 := ⟨qtb_in 5 _ (List.mem_of_getElem? (i := 57) rfl), by decide +kernel⟩
abbrev qm3 : qMr := (yX0_add, cX0_add, 3, none, 2, 0, (5, 50), (5, 51), (1, 6))
theorem qm3_ok : qMg qm3 := ⟨qtb_in 5 _ (List.mem_of_getElem? (i := 52) rfl), by decide +kernel⟩
abbrev qm4 : qMr := (yX0_rightLines, cX0_rightLines, 4, (some .int), 2, 0, (6, 135), (6, 136), (1, 6))
theorem qm4_ok : qMg qm4 := ⟨qtb_in 6 _ (List.mem_of_getElem? (i := 137) rfl), by decide +kernel⟩
abbrev qm5 : qMr := (yX0_boxOf, cX0_boxOf, 6, (some .int), 2, 0, (6, 140), (0, 37), (1, 6))
theorem qm5_ok : qMg qm5 := ⟨qtb_in 6 _ (List.mem_of_getElem? (i := 141) rfl), by decide +kernel⟩
abbrev qm6 : qMr := (yX0_findSets, cX0_findSets, 5, none, 1, 0, (6, 127), (6, 128), (1, 6))
theorem qm6_ok : qMg qm6 := ⟨qtb_in 6 _ (List.mem_of_getElem? (i := 129) rfl), by decide +kernel⟩
abbrev qm7 : qMr := (yX1_init, cX1_init, 1, none, 0, 2, (1, 130), (0, 0), (1, 4))
theorem qm7_ok : qMg qm7 := ⟨qtb_in 1 _ (List.mem_of_getElem? (i := 131) rfl), by decide +kernel⟩
abbrev qm8 : qMr := (yX1_clear, cX1_clear, 1, none, 0, 0, (4, 38), (4, 39), (1, 4))
theorem qm8_ok : qMg qm8 := ⟨qtb_in 4 _ (List.mem_of_getElem? (i := 40) rfl), by decide +kernel⟩
abbrev qm9 : qMr := (yX1_copy, cX1_copy, 2, none, 1, 0, (4, 176), (4, 177), (1, 4))
theorem qm9_ok : qMg qm9 := ⟨qtb_in 4 _ (List.mem_of_getElem? (i := 178) rfl), by decide +kernel⟩
abbrev qm10 : qMr := (yX1_of, cX1_of, 4, (some .int), 2, 0, (3, 70), (3, 71), (1, 4))
theorem qm10_ok : qMg qm10 := ⟨qtb_in 3 _ (List.mem_of_getElem? (i := 72) rfl), by decide +kernel⟩
abbrev qm11 : qMr := (yX1_set, cX1_set, 5, none, 3, 0, (4, 163), (4, 164), (1, 4))
theorem qm11_ok : qMg qm11 := ⟨qtb_in 4 _ (List.mem_of_getElem? (i := 165) rfl), by decide +kernel⟩
abbrev qm12 : qMr := (yX1_add, cX1_add, 4, none, 2, 0, (4, 159), (4, 160), (1, 4))
theorem qm12_ok : qMg qm12 := ⟨qtb_in 4 _ (List.mem_of_getElem? (i := 161) rfl), by decide +kernel⟩
abbrev qm13 : qMr := (yX1_allSolos, cX1_allSolos, 3, (some .int), 0, 0, (3, 122), (3, 123), (1, 4))
theorem qm13_ok : qMg qm13 := ⟨qtb_in 3 _ (List.mem_of_getElem? (i := 124) rfl), by decide +kernel⟩
abbrev qm14 : qMr := (yX1_isThere, cX1_isThere, 4, (some .boolean), 2, 0, (6, 76), (0, 35), (1, 4))
theorem qm14_ok : qMg qm14 := ⟨qtb_in 6 _ (List.mem_of_getElem? (i := 77) rfl), by decide +kernel⟩
abbrev qm15 : qMr := (yX1_notHome, cX1_notHome, 4, (some .int), 1, 0, (6, 93), (6, 94), (1, 4))
theorem qm15_ok : qMg qm15 := ⟨qtb_in 6 _ (List.mem_of_getElem? (i := 95) rfl), by decide +kernel⟩
abbrev qm16 : qMr := (yX1_isNeeded, cX1_isNeeded, 3, (some .boolean), 1, 0, (3, 67), (0, 1), (1, 4))
theorem qm16_ok : qMg qm16 := ⟨qtb_in 3 _ (List.mem_of_getElem? (i := 68) rfl), by decide +kernel⟩
abbrev qm17 : qMr := (yX1_firstMissing, cX1_firstMissing, 4, (some .int), 0, 0, (3, 62), (3, 63), (1, 4))
theorem qm17_ok : qMg qm17 := ⟨qtb_in 3 _ (List.mem_of_getElem? (i := 64) rfl), by decide +kernel⟩
abbrev qm18 : qMr := (yX1_goneFrom, cX1_goneFrom, 5, (some .int), 1, 0, (3, 75), (0, 2), (1, 4))
theorem qm18_ok : qMg qm18 := ⟨qtb_in 3 _ (List.mem_of_getElem? (i := 76) rfl), by decide +kernel⟩
abbrev qm19 : qMr := (yX1_mostVerses, cX1_mostVerses, 5, (some .int), 3, 0, (6, 63), (6, 64), (1, 4))
theorem qm19_ok : qMg qm19 := ⟨qtb_in 6 _ (List.mem_of_getElem? (i := 65) rfl), by decide +kernel⟩
abbrev qm20 : qMr := (yX1_canSing, cX1_canSing, 8, (some .boolean), 4, 0, (6, 68), (0, 33), (1, 4))
theorem qm20_ok : qMg qm20 := ⟨qtb_in 6 _ (List.mem_of_getElem? (i := 69) rfl), by decide +kernel⟩
abbrev qm21 : qMr := (yX1_sungIn, cX1_sungIn, 7, (some .int), 3, 0, (6, 72), (0, 34), (1, 4))
theorem qm21_ok : qMg qm21 := ⟨qtb_in 6 _ (List.mem_of_getElem? (i := 73) rfl), by decide +kernel⟩
abbrev qm22 : qMr := (yX2_init, cX2_init, 4, none, 3, 2, (2, 142), (0, 0), (1, 12))
theorem qm22_ok : qMg qm22 := ⟨qtb_in 2 _ (List.mem_of_getElem? (i := 143) rfl), by decide +kernel⟩
abbrev qm23 : qMr := (yX2_pass, cX2_pass, 4, none, 1, 0, (6, 160), (6, 161), (1, 12))
theorem qm23_ok : qMg qm23 := ⟨qtb_in 6 _ (List.mem_of_getElem? (i := 162) rfl), by decide +kernel⟩
abbrev qm24 : qMr := (yX2_draw, cX2_draw, 1, (some .int), 0, 0, (6, 172), (0, 39), (1, 12))
theorem qm24_ok : qMg qm24 := ⟨qtb_in 6 _ (List.mem_of_getElem? (i := 173) rfl), by decide +kernel⟩
abbrev qm25 : qMr := (yX2_stay, cX2_stay, 7, none, 1, 0, (6, 166), (0, 38), (1, 12))
theorem qm25_ok : qMg qm25 := ⟨qtb_in 6 _ (List.mem_of_getElem? (i := 167) rfl), by decide +kernel⟩
abbrev qm26 : qMr := (yX2_ringOpens, cX2_ringOpens, 3, (some .boolean), 2, 0, (6, 177), (0, 40), (1, 12))
theorem qm26_ok : qMg qm26 := ⟨qtb_in 6 _ (List.mem_of_getElem? (i := 178) rfl), by decide +kernel⟩
abbrev qm27 : qMr := (yX2_verseOpens, cX2_verseOpens, 3, (some .boolean), 2, 0, (6, 188), (0, 42), (1, 12))
theorem qm27_ok : qMg qm27 := ⟨qtb_in 6 _ (List.mem_of_getElem? (i := 189) rfl), by decide +kernel⟩
abbrev qm28 : qMr := (yX2_singsOn, cX2_singsOn, 4, (some .boolean), 2, 0, (6, 181), (0, 41), (1, 12))
theorem qm28_ok : qMg qm28 := ⟨qtb_in 6 _ (List.mem_of_getElem? (i := 182) rfl), by decide +kernel⟩
abbrev qm29 : qMr := (yX3_init, cX3_init, 1, none, 0, 2, (1, 146), (0, 0), (1, 5))
theorem qm29_ok : qMg qm29 := ⟨qtb_in 1 _ (List.mem_of_getElem? (i := 147) rfl), by decide +kernel⟩
abbrev qm30 : qMr := (yX3_clear, cX3_clear, 1, none, 0, 0, (4, 181), (4, 182), (1, 5))
theorem qm30_ok : qMg qm30 := ⟨qtb_in 4 _ (List.mem_of_getElem? (i := 183) rfl), by decide +kernel⟩
abbrev qm31 : qMr := (yX3_stands, cX3_stands, 1, (some .boolean), 0, 0, (3, 107), (3, 108), (1, 5))
theorem qm31_ok : qMg qm31 := ⟨qtb_in 3 _ (List.mem_of_getElem? (i := 109) rfl), by decide +kernel⟩
abbrev qm32 : qMr := (yX3_copy, cX3_copy, 2, none, 1, 0, (5, 2), (5, 3), (1, 5))
theorem qm32_ok : qMg qm32 := ⟨qtb_in 5 _ (List.mem_of_getElem? (i := 4) rfl), by decide +kernel⟩
abbrev qm33 : qMr := (yX3_add, cX3_add, 3, none, 2, 0, (4, 218), (4, 219), (1, 5))
theorem qm33_ok : qMg qm33 := ⟨qtb_in 4 _ (List.mem_of_getElem? (i := 220) rfl), by decide +kernel⟩
abbrev qm34 : qMr := (yX3_worth, cX3_worth, 5, (some .int), 1, 0, (3, 115), (3, 116), (1, 5))
theorem qm34_ok : qMg qm34 := ⟨qtb_in 3 _ (List.mem_of_getElem? (i := 117) rfl), by decide +kernel⟩
abbrev qm35 : qMr := (yX3_join, cX3_join, 3, (some .int), 3, 1, (3, 119), (0, 0), (1, 5))
theorem qm35_ok : qMg qm35 := ⟨qtb_in 3 _ (List.mem_of_getElem? (i := 120) rfl), by decide +kernel⟩
abbrev qm36 : qMr := (yX4_init, cX4_init, 2, none, 1, 2, (1, 226), (0, 0), (1, 8))
theorem qm36_ok : qMg qm36 := ⟨qtb_in 1 _ (List.mem_of_getElem? (i := 227) rfl), by decide +kernel⟩
abbrev qm37 : qMr := (yX4_reads, cX4_reads, 1, (some .boolean), 0, 0, (4, 196), (4, 197), (1, 8))
theorem qm37_ok : qMg qm37 := ⟨qtb_in 4 _ (List.mem_of_getElem? (i := 198) rfl), by decide +kernel⟩
abbrev qm38 : qMr := (yX4_readSum, cX4_readSum, 4, none, 1, 0, (4, 202), (0, 19), (1, 8))
theorem qm38_ok : qMg qm38 := ⟨qtb_in 4 _ (List.mem_of_getElem? (i := 203) rfl), by decide +kernel⟩
abbrev qm39 : qMr := (yX4_readProduct, cX4_readProduct, 4, none, 1, 0, (4, 206), (0, 20), (1, 8))
theorem qm39_ok : qMg qm39 := ⟨qtb_in 4 _ (List.mem_of_getElem? (i := 207) rfl), by decide +kernel⟩
abbrev qm40 : qMr := (yX4_readUnit, cX4_readUnit, 2, none, 1, 0, (4, 210), (0, 21), (1, 8))
theorem qm40_ok : qMg qm40 := ⟨qtb_in 4 _ (List.mem_of_getElem? (i := 211) rfl), by decide +kernel⟩
abbrev qm41 : qMr := (yX4_readPart, cX4_readPart, 3, none, 2, 0, (4, 230), (0, 22), (1, 8))
theorem qm41_ok : qMg qm41 := ⟨qtb_in 4 _ (List.mem_of_getElem? (i := 231) rfl), by decide +kernel⟩
abbrev qm42 : qMr := (yX4_readWord, cX4_readWord, 6, none, 1, 0, (4, 236), (0, 23), (1, 8))
theorem qm42_ok : qMg qm42 := ⟨qtb_in 4 _ (List.mem_of_getElem? (i := 237) rfl), by decide +kernel⟩
abbrev qm43 : qMr := (yX5_init, cX5_init, 2, none, 1, 2, (1, 198), (0, 0), (1, 7))
theorem qm43_ok : qMg qm43 := ⟨qtb_in 1 _ (List.mem_of_getElem? (i := 199) rfl), by decide +kernel⟩
abbrev qm44 : qMr := (yX5_readsVillage, cX5_readsVillage, 2, (some .boolean), 0, 0, (4, 30), (4, 31), (1, 7))
theorem qm44_ok : qMg qm44 := ⟨qtb_in 4 _ (List.mem_of_getElem? (i := 32) rfl), by decide +kernel⟩
abbrev qm45 : qMr := (yX5_readClause, cX5_readClause, 3, none, 1, 0, (4, 59), (0, 11), (1, 7))
theorem qm45_ok : qMg qm45 := ⟨qtb_in 4 _ (List.mem_of_getElem? (i := 60) rfl), by decide +kernel⟩
abbrev qm46 : qMr := (yX5_readDoor, cX5_readDoor, 4, none, 0, 0, (4, 129), (0, 14), (1, 7))
theorem qm46_ok : qMg qm46 := ⟨qtb_in 4 _ (List.mem_of_getElem? (i := 130) rfl), by decide +kernel⟩
abbrev qm47 : qMr := (yX5_readFact, cX5_readFact, 4, none, 1, 0, (4, 147), (0, 15), (1, 7))
theorem qm47_ok : qMg qm47 := ⟨qtb_in 4 _ (List.mem_of_getElem? (i := 148) rfl), by decide +kernel⟩
abbrev qm48 : qMr := (yX5_readLight, cX5_readLight, 4, none, 0, 0, (4, 152), (0, 16), (1, 7))
theorem qm48_ok : qMg qm48 := ⟨qtb_in 4 _ (List.mem_of_getElem? (i := 153) rfl), by decide +kernel⟩
abbrev qm49 : qMr := (yX5_readSinger, cX5_readSinger, 3, none, 0, 0, (4, 156), (0, 17), (1, 7))
theorem qm49_ok : qMg qm49 := ⟨qtb_in 4 _ (List.mem_of_getElem? (i := 157) rfl), by decide +kernel⟩
abbrev qm50 : qMr := (yX5_readOfSinger, cX5_readOfSinger, 5, none, 2, 0, (4, 168), (0, 18), (1, 7))
theorem qm50_ok : qMg qm50 := ⟨qtb_in 4 _ (List.mem_of_getElem? (i := 169) rfl), by decide +kernel⟩
abbrev qm51 : qMr := (yX5_readsPlan, cX5_readsPlan, 2, (some .boolean), 0, 0, (5, 14), (5, 15), (1, 7))
theorem qm51_ok : qMg qm51 := ⟨qtb_in 5 _ (List.mem_of_getElem? (i := 16) rfl), by decide +kernel⟩
abbrev qm52 : qMr := (yX5_readLine, cX5_readLine, 5, none, 1, 0, (5, 19), (0, 24), (1, 7))
theorem qm52_ok : qMg qm52 := ⟨qtb_in 5 _ (List.mem_of_getElem? (i := 20) rfl), by decide +kernel⟩
abbrev qm53 : qMr := (yX5_readsBook, cX5_readsBook, 3, (some .boolean), 1, 0, (5, 39), (5, 40), (1, 7))
theorem qm53_ok : qMg qm53 := ⟨qtb_in 5 _ (List.mem_of_getElem? (i := 41) rfl), by decide +kernel⟩
abbrev qm54 : qMr := (yX5_readYear, cX5_readYear, 6, none, 2, 0, (5, 45), (0, 25), (1, 7))
theorem qm54_ok : qMg qm54 := ⟨qtb_in 5 _ (List.mem_of_getElem? (i := 46) rfl), by decide +kernel⟩
abbrev qm55 : qMr := (yX6_init, cX6_init, 1, none, 0, 2, (1, 72), (0, 0), (1, 3))
theorem qm55_ok : qMg qm55 := ⟨qtb_in 1 _ (List.mem_of_getElem? (i := 73) rfl), by decide +kernel⟩
abbrev qm56 : qMr := (yX6_clear, cX6_clear, 1, none, 0, 0, (4, 34), (4, 35), (1, 3))
theorem qm56_ok : qMg qm56 := ⟨qtb_in 4 _ (List.mem_of_getElem? (i := 36) rfl), by decide +kernel⟩
abbrev qm57 : qMr := (yX6_copy, cX6_copy, 2, none, 1, 0, (3, 163), (3, 164), (1, 3))
theorem qm57_ok : qMg qm57 := ⟨qtb_in 3 _ (List.mem_of_getElem? (i := 165) rfl), by decide +kernel⟩
abbrev qm58 : qMr := (yX6_allDoors, cX6_allDoors, 1, (some .int), 0, 0, (6, 131), (6, 132), (1, 3))
theorem qm58_ok : qMg qm58 := ⟨qtb_in 6 _ (List.mem_of_getElem? (i := 133) rfl), by decide +kernel⟩
abbrev qm59 : qMr := (yX6_of, cX6_of, 4, (some .int), 2, 0, (3, 38), (3, 39), (1, 3))
theorem qm59_ok : qMg qm59 := ⟨qtb_in 3 _ (List.mem_of_getElem? (i := 40) rfl), by decide +kernel⟩
abbrev qm60 : qMr := (yX6_setDoor, cX6_setDoor, 5, none, 3, 0, (3, 139), (3, 140), (1, 3))
theorem qm60_ok : qMg qm60 := ⟨qtb_in 3 _ (List.mem_of_getElem? (i := 141) rfl), by decide +kernel⟩
abbrev qm61 : qMr := (yX6_addDoor, cX6_addDoor, 5, none, 3, 0, (4, 142), (4, 143), (1, 3))
theorem qm61_ok : qMg qm61 := ⟨qtb_in 4 _ (List.mem_of_getElem? (i := 144) rfl), by decide +kernel⟩
abbrev qm62 : qMr := (yX6_ofLine, cX6_ofLine, 4, (some .int), 2, 0, (3, 34), (3, 35), (1, 3))
theorem qm62_ok : qMg qm62 := ⟨qtb_in 3 _ (List.mem_of_getElem? (i := 36) rfl), by decide +kernel⟩
abbrev qm63 : qMr := (yX6_setLine, cX6_setLine, 5, none, 4, 0, (3, 143), (3, 144), (1, 3))
theorem qm63_ok : qMg qm63 := ⟨qtb_in 3 _ (List.mem_of_getElem? (i := 145) rfl), by decide +kernel⟩
abbrev qm64 : qMr := (yX6_hasLineAt, cX6_hasLineAt, 3, (some .boolean), 1, 0, (5, 22), (5, 23), (1, 3))
theorem qm64_ok : qMg qm64 := ⟨qtb_in 5 _ (List.mem_of_getElem? (i := 24) rfl), by decide +kernel⟩
abbrev qm65 : qMr := (yX6_way, cX6_way, 3, (some .int), 1, 0, (3, 30), (3, 31), (1, 3))
theorem qm65_ok : qMg qm65 := ⟨qtb_in 3 _ (List.mem_of_getElem? (i := 32) rfl), by decide +kernel⟩
abbrev qm66 : qMr := (yX6_longestAt, cX6_longestAt, 4, (some .int), 3, 0, (3, 46), (3, 47), (1, 3))
theorem qm66_ok : qMg qm66 := ⟨qtb_in 3 _ (List.mem_of_getElem? (i := 48) rfl), by decide +kernel⟩
abbrev qm67 : qMr := (yX6_isFull, cX6_isFull, 1, (some .boolean), 0, 0, (6, 214), (6, 215), (1, 3))
theorem qm67_ok : qMg qm67 := ⟨qtb_in 6 _ (List.mem_of_getElem? (i := 216) rfl), by decide +kernel⟩
abbrev qm68 : qMr := (yX6_note, cX6_note, 7, none, 5, 0, (6, 218), (6, 219), (1, 3))
theorem qm68_ok : qMg qm68 := ⟨qtb_in 6 _ (List.mem_of_getElem? (i := 220) rfl), by decide +kernel⟩
abbrev qm69 : qMr := (yX6_exchange, cX6_exchange, 6, none, 2, 0, (3, 147), (3, 148), (1, 3))
theorem qm69_ok : qMg qm69 := ⟨qtb_in 3 _ (List.mem_of_getElem? (i := 149) rfl), by decide +kernel⟩
abbrev qm70 : qMr := (yX6_copyLine, cX6_copyLine, 3, none, 2, 0, (3, 152), (0, 5), (1, 3))
theorem qm70_ok : qMg qm70 := ⟨qtb_in 3 _ (List.mem_of_getElem? (i := 153) rfl), by decide +kernel⟩
abbrev qm71 : qMr := (yX6_takeOut, cX6_takeOut, 3, none, 1, 0, (7, 6), (7, 7), (1, 3))
theorem qm71_ok : qMg qm71 := ⟨qtb_in 7 _ (List.mem_of_getElem? (i := 8) rfl), by decide +kernel⟩
abbrev qm72 : qMr := (yX6_putIn, cX6_putIn, 6, none, 4, 0, (3, 156), (0, 6), (1, 3))
theorem qm72_ok : qMg qm72 := ⟨qtb_in 3 _ (List.mem_of_getElem? (i := 157) rfl), by decide +kernel⟩
abbrev qm73 : qMr := (yX6_takeBack, cX6_takeBack, 5, none, 0, 0, (3, 134), (3, 135), (1, 3))
theorem qm73_ok : qMg qm73 := ⟨qtb_in 3 _ (List.mem_of_getElem? (i := 136) rfl), by decide +kernel⟩
abbrev qm74 : qMr := (yX7_init, cX7_init, 3, none, 2, 2, (2, 97), (0, 0), (1, 11))
theorem qm74_ok : qMg qm74 := ⟨qtb_in 2 _ (List.mem_of_getElem? (i := 98) rfl), by decide +kernel⟩
abbrev qm75 : qMr := (yX7_foundAt, cX7_foundAt, 2, (some .int), 1, 0, (5, 222), (5, 223), (1, 11))
theorem qm75_ok : qMg qm75 := ⟨qtb_in 5 _ (List.mem_of_getElem? (i := 224) rfl), by decide +kernel⟩
abbrev qm76 : qMr := (yX7_seek, cX7_seek, 3, none, 1, 0, (5, 192), (5, 193), (1, 11))
theorem qm76_ok : qMg qm76 := ⟨qtb_in 5 _ (List.mem_of_getElem? (i := 194) rfl), by decide +kernel⟩
abbrev qm77 : qMr := (yX7_listWays, cX7_listWays, 11, (some .long), 2, 0, (5, 197), (0, 30), (1, 11))
theorem qm77_ok : qMg qm77 := ⟨qtb_in 5 _ (List.mem_of_getElem? (i := 198) rfl), by decide +kernel⟩
abbrev qm78 : qMr := (yX7_tryDoor, cX7_tryDoor, 11, none, 5, 0, (5, 204), (0, 31), (1, 11))
theorem qm78_ok : qMg qm78 := ⟨qtb_in 5 _ (List.mem_of_getElem? (i := 205) rfl), by decide +kernel⟩
abbrev qm79 : qMr := (yX7_street, cX7_street, 5, (some .int), 2, 0, (5, 209), (0, 32), (1, 11))
theorem qm79_ok : qMg qm79 := ⟨qtb_in 5 _ (List.mem_of_getElem? (i := 210) rfl), by decide +kernel⟩
abbrev qm80 : qMr := (yX8_init, cX8_init, 1, none, 0, 2, (1, 36), (0, 0), (1, 2))
theorem qm80_ok : qMg qm80 := ⟨qtb_in 1 _ (List.mem_of_getElem? (i := 37) rfl), by decide +kernel⟩
abbrev qm81 : qMr := (yX8_hasRoom, cX8_hasRoom, 1, (some .boolean), 0, 0, (3, 6), (3, 7), (1, 2))
theorem qm81_ok : qMg qm81 := ⟨qtb_in 3 _ (List.mem_of_getElem? (i := 8) rfl), by decide +kernel⟩
abbrev qm82 : qMr := (yX8_put, cX8_put, 3, none, 1, 0, (3, 10), (3, 11), (1, 2))
theorem qm82_ok : qMg qm82 := ⟨qtb_in 3 _ (List.mem_of_getElem? (i := 12) rfl), by decide +kernel⟩
abbrev qm83 : qMr := (yX8_begin, cX8_begin, 2, none, 1, 0, (4, 26), (4, 27), (1, 2))
theorem qm83_ok : qMg qm83 := ⟨qtb_in 4 _ (List.mem_of_getElem? (i := 28) rfl), by decide +kernel⟩
abbrev qm84 : qMr := (yX8_isFaulty, cX8_isFaulty, 1, (some .boolean), 0, 0, (4, 42), (4, 43), (1, 2))
theorem qm84_ok : qMg qm84 := ⟨qtb_in 4 _ (List.mem_of_getElem? (i := 44) rfl), by decide +kernel⟩
abbrev qm85 : qMr := (yX8_fail, cX8_fail, 3, none, 2, 0, (4, 123), (4, 124), (1, 2))
theorem qm85_ok : qMg qm85 := ⟨qtb_in 4 _ (List.mem_of_getElem? (i := 125) rfl), by decide +kernel⟩
abbrev qm86 : qMr := (yX8_byteAt, cX8_byteAt, 2, (some .int), 1, 0, (4, 55), (0, 10), (1, 2))
theorem qm86_ok : qMg qm86 := ⟨qtb_in 4 _ (List.mem_of_getElem? (i := 56) rfl), by decide +kernel⟩
abbrev qm87 : qMr := (yX8_look, cX8_look, 2, (some .int), 0, 0, (4, 50), (4, 51), (1, 2))
theorem qm87_ok : qMg qm87 := ⟨qtb_in 4 _ (List.mem_of_getElem? (i := 52) rfl), by decide +kernel⟩
abbrev qm88 : qMr := (yX8_step, cX8_step, 1, none, 0, 0, (4, 225), (4, 226), (1, 2))
theorem qm88_ok : qMg qm88 := ⟨qtb_in 4 _ (List.mem_of_getElem? (i := 227) rfl), by decide +kernel⟩
abbrev qm89 : qMr := (yX8_isOver, cX8_isOver, 1, (some .boolean), 0, 0, (4, 46), (4, 47), (1, 2))
theorem qm89_ok : qMg qm89 := ⟨qtb_in 4 _ (List.mem_of_getElem? (i := 48) rfl), by decide +kernel⟩
abbrev qm90 : qMr := (yX8_isDigit, cX8_isDigit, 2, (some .boolean), 0, 0, (4, 213), (4, 214), (1, 2))
theorem qm90_ok : qMg qm90 := ⟨qtb_in 4 _ (List.mem_of_getElem? (i := 215) rfl), by decide +kernel⟩
abbrev qm91 : qMr := (yX8_isLetter, cX8_isLetter, 2, (some .boolean), 0, 0, (5, 26), (5, 27), (1, 2))
theorem qm91_ok : qMg qm91 := ⟨qtb_in 5 _ (List.mem_of_getElem? (i := 28) rfl), by decide +kernel⟩
abbrev qm92 : qMr := (yX8_sign, cX8_sign, 2, none, 1, 0, (4, 172), (4, 173), (1, 2))
theorem qm92_ok : qMg qm92 := ⟨qtb_in 4 _ (List.mem_of_getElem? (i := 174) rfl), by decide +kernel⟩
abbrev qm93 : qMr := (yX8_number, cX8_number, 6, (some .int), 2, 0, (4, 137), (4, 138), (1, 2))
theorem qm93_ok : qMg qm93 := ⟨qtb_in 4 _ (List.mem_of_getElem? (i := 139) rfl), by decide +kernel⟩
abbrev qm94 : qMr := (yX8_word, cX8_word, 4, (some .int), 1, 0, (4, 63), (4, 64), (1, 2))
theorem qm94_ok : qMg qm94 := ⟨qtb_in 4 _ (List.mem_of_getElem? (i := 65) rfl), by decide +kernel⟩
abbrev qm95 : qMr := (yX8_indexIn, cX8_indexIn, 6, (some .int), 1, 0, (4, 68), (0, 12), (1, 2))
theorem qm95_ok : qMg qm95 := ⟨qtb_in 4 _ (List.mem_of_getElem? (i := 69) rfl), by decide +kernel⟩
abbrev qm96 : qMr := (yX8_isWord, cX8_isWord, 5, (some .boolean), 3, 0, (4, 120), (0, 13), (1, 2))
theorem qm96_ok : qMg qm96 := ⟨qtb_in 4 _ (List.mem_of_getElem? (i := 121) rfl), by decide +kernel⟩
abbrev qm97 : qMr := (yX9_init, cX9_init, 4, none, 3, 2, (2, 41), (0, 0), (1, 10))
theorem qm97_ok : qMg qm97 := ⟨qtb_in 2 _ (List.mem_of_getElem? (i := 42) rfl), by decide +kernel⟩
abbrev qm98 : qMr := (yX9_reckon, cX9_reckon, 3, none, 1, 0, (5, 155), (5, 156), (1, 10))
theorem qm98_ok : qMg qm98 := ⟨qtb_in 5 _ (List.mem_of_getElem? (i := 157) rfl), by decide +kernel⟩
abbrev qm99 : qMr := (yX9_visitBy, cX9_visitBy, 2, none, 1, 0, (3, 91), (0, 3), (1, 10))
theorem qm99_ok : qMg qm99 := ⟨qtb_in 3 _ (List.mem_of_getElem? (i := 92) rfl), by decide +kernel⟩
abbrev qm100 : qMr := (yX9_timesWhole, cX9_timesWhole, 2, (some .long), 1, 0, (5, 160), (5, 161), (1, 10))
theorem qm100_ok : qMg qm100 := ⟨qtb_in 5 _ (List.mem_of_getElem? (i := 162) rfl), by decide +kernel⟩
abbrev qm101 : qMr := (yX9_minutesAt, cX9_minutesAt, 2, (some .int), 1, 0, (3, 27), (0, 0), (1, 10))
theorem qm101_ok : qMg qm101 := ⟨qtb_in 3 _ (List.mem_of_getElem? (i := 28) rfl), by decide +kernel⟩
abbrev qm102 : qMr := (yX9_allMinutes, cX9_allMinutes, 3, (some .int), 0, 0, (3, 22), (3, 23), (1, 10))
theorem qm102_ok : qMg qm102 := ⟨qtb_in 3 _ (List.mem_of_getElem? (i := 24) rfl), by decide +kernel⟩
abbrev qm103 : qMr := (yX9_linesInTime, cX9_linesInTime, 3, (some .int), 0, 0, (3, 54), (3, 55), (1, 10))
theorem qm103_ok : qMg qm103 := ⟨qtb_in 3 _ (List.mem_of_getElem? (i := 56) rfl), by decide +kernel⟩
abbrev qm104 : qMr := (yX9_chooseSolos, cX9_chooseSolos, 3, none, 0, 0, (3, 82), (3, 83), (1, 10))
theorem qm104_ok : qMg qm104 := ⟨qtb_in 3 _ (List.mem_of_getElem? (i := 84) rfl), by decide +kernel⟩
abbrev qm105 : qMr := (yX9_takeSolo, cX9_takeSolo, 3, none, 0, 0, (3, 127), (0, 4), (1, 10))
theorem qm105_ok : qMg qm105 := ⟨qtb_in 3 _ (List.mem_of_getElem? (i := 128) rfl), by decide +kernel⟩
abbrev qm106 : qMr := (yX9_standInRow, cX9_standInRow, 4, none, 0, 0, (6, 116), (0, 36), (1, 10))
theorem qm106_ok : qMg qm106 := ⟨qtb_in 6 _ (List.mem_of_getElem? (i := 117) rfl), by decide +kernel⟩
abbrev qm107 : qMr := (yX9_playParty, cX9_playParty, 7, none, 0, 0, (6, 111), (6, 112), (1, 10))
theorem qm107_ok : qMg qm107 := ⟨qtb_in 6 _ (List.mem_of_getElem? (i := 113) rfl), by decide +kernel⟩
abbrev qm108 : qMr := (yX10_init, cX10_init, 4, none, 3, 2, (2, 2), (0, 0), (1, 9))
theorem qm108_ok : qMg qm108 := ⟨qtb_in 2 _ (List.mem_of_getElem? (i := 3) rfl), by decide +kernel⟩
abbrev qm109 : qMr := (yX10_gift, cX10_gift, 5, (some .int), 3, 0, (3, 103), (3, 104), (1, 9))
theorem qm109_ok : qMg qm109 := ⟨qtb_in 3 _ (List.mem_of_getElem? (i := 105) rfl), by decide +kernel⟩
abbrev qm110 : qMr := (yX10_names, cX10_names, 7, (some (.array .int)), 6, 0, (3, 111), (3, 112), (1, 9))
theorem qm110_ok : qMg qm110 := ⟨qtb_in 3 _ (List.mem_of_getElem? (i := 113) rfl), by decide +kernel⟩
abbrev qm111 : qMr := (yX10_reckon, cX10_reckon, 15, none, 4, 0, (3, 94), (3, 95), (1, 9))
theorem qm111_ok : qMg qm111 := ⟨qtb_in 3 _ (List.mem_of_getElem? (i := 96) rfl), by decide +kernel⟩
abbrev qm112 : qMr := (yX10_timesWhole, cX10_timesWhole, 2, (some .long), 1, 0, (5, 137), (5, 138), (1, 9))
theorem qm112_ok : qMg qm112 := ⟨qtb_in 5 _ (List.mem_of_getElem? (i := 139) rfl), by decide +kernel⟩
abbrev qm113 : qMr := (yX10_inAndVain, cX10_inAndVain, 4, (some .long), 3, 0, (6, 0), (6, 1), (1, 9))
theorem qm113_ok : qMg qm113 := ⟨qtb_in 6 _ (List.mem_of_getElem? (i := 2) rfl), by decide +kernel⟩
abbrev qm114 : qMr := (yX10_allVain, cX10_allVain, 6, (some .long), 3, 0, (6, 10), (6, 11), (1, 9))
theorem qm114_ok : qMg qm114 := ⟨qtb_in 6 _ (List.mem_of_getElem? (i := 12) rfl), by decide +kernel⟩
abbrev qm115 : qMr := (yX10_asSeen, cX10_asSeen, 2, (some .long), 2, 1, (6, 4), (0, 0), (1, 9))
theorem qm115_ok : qMg qm115 := ⟨qtb_in 6 _ (List.mem_of_getElem? (i := 5) rfl), by decide +kernel⟩
abbrev qm116 : qMr := (yX10_power, cX10_power, 6, (some .long), 2, 1, (6, 7), (0, 0), (1, 9))
theorem qm116_ok : qMg qm116 := ⟨qtb_in 6 _ (List.mem_of_getElem? (i := 8) rfl), by decide +kernel⟩
abbrev qm117 : qMr := (yX10_bringsLess, cX10_bringsLess, 9, (some .boolean), 4, 0, (6, 30), (6, 31), (1, 9))
theorem qm117_ok : qMg qm117 := ⟨qtb_in 6 _ (List.mem_of_getElem? (i := 32) rfl), by decide +kernel⟩
abbrev qm118 : qMr := (yX11_init, cX11_init, 2, none, 0, 2, (1, 28), (0, 0), (1, 1))
theorem qm118_ok : qMg qm118 := ⟨qtb_in 1 _ (List.mem_of_getElem? (i := 29) rfl), by decide +kernel⟩
abbrev qm119 : qMr := (yX11_feed, cX11_feed, 6, (some .int), 5, 0, (3, 2), (3, 3), (1, 1))
theorem qm119_ok : qMg qm119 := ⟨qtb_in 3 _ (List.mem_of_getElem? (i := 4) rfl), by decide +kernel⟩
abbrev qm120 : qMr := (yX11_village, cX11_village, 2, (some .int), 1, 0, (3, 186), (3, 187), (1, 1))
theorem qm120_ok : qMg qm120 := ⟨qtb_in 3 _ (List.mem_of_getElem? (i := 188) rfl), by decide +kernel⟩
abbrev qm121 : qMr := (yX11_law, cX11_law, 4, (some .int), 2, 0, (4, 192), (4, 193), (1, 1))
theorem qm121_ok : qMg qm121 := ⟨qtb_in 4 _ (List.mem_of_getElem? (i := 194) rfl), by decide +kernel⟩
abbrev qm122 : qMr := (yX11_plan, cX11_plan, 2, (some .int), 1, 0, (5, 10), (5, 11), (1, 1))
theorem qm122_ok : qMg qm122 := ⟨qtb_in 5 _ (List.mem_of_getElem? (i := 12) rfl), by decide +kernel⟩
abbrev qm123 : qMr := (yX11_book, cX11_book, 2, (some .int), 1, 0, (5, 35), (5, 36), (1, 1))
theorem qm123_ok : qMg qm123 := ⟨qtb_in 5 _ (List.mem_of_getElem? (i := 37) rfl), by decide +kernel⟩
abbrev qm124 : qMr := (yX11_fault, cX11_fault, 1, (some .int), 0, 0, (3, 14), (3, 15), (1, 1))
theorem qm124_ok : qMg qm124 := ⟨qtb_in 3 _ (List.mem_of_getElem? (i := 16) rfl), by decide +kernel⟩
abbrev qm125 : qMr := (yX11_told, cX11_told, 2, (some .int), 1, 0, (5, 63), (5, 64), (1, 1))
theorem qm125_ok : qMg qm125 := ⟨qtb_in 5 _ (List.mem_of_getElem? (i := 65) rfl), by decide +kernel⟩
abbrev qm126 : qMr := (yX11_door, cX11_door, 3, (some .int), 2, 0, (5, 71), (5, 72), (1, 1))
theorem qm126_ok : qMg qm126 := ⟨qtb_in 5 _ (List.mem_of_getElem? (i := 73) rfl), by decide +kernel⟩
abbrev qm127 : qMr := (yX11_singer, cX11_singer, 3, (some .int), 2, 0, (5, 103), (5, 104), (1, 1))
theorem qm127_ok : qMg qm127 := ⟨qtb_in 5 _ (List.mem_of_getElem? (i := 105) rfl), by decide +kernel⟩
abbrev qm128 : qMr := (yX11_line, cX11_line, 3, (some .int), 2, 0, (5, 111), (5, 112), (1, 1))
theorem qm128_ok : qMg qm128 := ⟨qtb_in 5 _ (List.mem_of_getElem? (i := 113) rfl), by decide +kernel⟩
abbrev qm129 : qMr := (yX11_gives, cX11_gives, 4, (some .int), 3, 0, (5, 124), (5, 125), (1, 1))
theorem qm129_ok : qMg qm129 := ⟨qtb_in 5 _ (List.mem_of_getElem? (i := 126) rfl), by decide +kernel⟩
abbrev qm130 : qMr := (yX11_mean, cX11_mean, 6, (some .long), 5, 0, (5, 132), (5, 133), (1, 1))
theorem qm130_ok : qMg qm130 := ⟨qtb_in 5 _ (List.mem_of_getElem? (i := 134) rfl), by decide +kernel⟩
abbrev qm131 : qMr := (yX11_planned, cX11_planned, 3, (some .long), 2, 0, (5, 151), (5, 152), (1, 1))
theorem qm131_ok : qMg qm131 := ⟨qtb_in 5 _ (List.mem_of_getElem? (i := 153) rfl), by decide +kernel⟩
abbrev qm132 : qMr := (yX11_longest, cX11_longest, 1, (some .int), 0, 0, (3, 18), (3, 19), (1, 1))
theorem qm132_ok : qMg qm132 := ⟨qtb_in 3 _ (List.mem_of_getElem? (i := 20) rfl), by decide +kernel⟩
abbrev qm133 : qMr := (yX11_sure, cX11_sure, 1, (some .int), 0, 0, (3, 50), (3, 51), (1, 1))
theorem qm133_ok : qMg qm133 := ⟨qtb_in 3 _ (List.mem_of_getElem? (i := 52) rfl), by decide +kernel⟩
abbrev qm134 : qMr := (yX11_best, cX11_best, 3, (some .long), 2, 0, (5, 168), (5, 169), (1, 1))
theorem qm134_ok : qMg qm134 := ⟨qtb_in 5 _ (List.mem_of_getElem? (i := 170) rfl), by decide +kernel⟩
abbrev qm135 : qMr := (yX11_bestAt, cX11_bestAt, 3, (some .int), 2, 0, (5, 218), (5, 219), (1, 1))
theorem qm135_ok : qMg qm135 := ⟨qtb_in 5 _ (List.mem_of_getElem? (i := 220) rfl), by decide +kernel⟩
abbrev qm136 : qMr := (yX11_bestLong, cX11_bestLong, 2, (some .int), 1, 0, (5, 229), (5, 230), (1, 1))
theorem qm136_ok : qMg qm136 := ⟨qtb_in 5 _ (List.mem_of_getElem? (i := 231) rfl), by decide +kernel⟩
abbrev qm137 : qMr := (yX11_home, cX11_home, 5, (some .long), 4, 0, (5, 236), (5, 237), (1, 1))
theorem qm137_ok : qMg qm137 := ⟨qtb_in 5 _ (List.mem_of_getElem? (i := 238) rfl), by decide +kernel⟩
abbrev qm138 : qMr := (yX11_another, cX11_another, 7, (some .long), 4, 0, (6, 18), (6, 19), (1, 1))
theorem qm138_ok : qMg qm138 := ⟨qtb_in 6 _ (List.mem_of_getElem? (i := 20) rfl), by decide +kernel⟩
abbrev qm139 : qMr := (yX11_lineAt, cX11_lineAt, 5, (some .int), 3, 0, (6, 26), (6, 27), (1, 1))
theorem qm139_ok : qMg qm139 := ⟨qtb_in 6 _ (List.mem_of_getElem? (i := 28) rfl), by decide +kernel⟩
abbrev qm140 : qMr := (yX11_ring, cX11_ring, 9, (some .int), 2, 0, (6, 38), (6, 39), (1, 1))
theorem qm140_ok : qMg qm140 := ⟨qtb_in 6 _ (List.mem_of_getElem? (i := 40) rfl), by decide +kernel⟩
abbrev qm141 : qMr := (yX11_pays, cX11_pays, 5, (some .boolean), 4, 0, (6, 45), (6, 46), (1, 1))
theorem qm141_ok : qMg qm141 := ⟨qtb_in 6 _ (List.mem_of_getElem? (i := 47) rfl), by decide +kernel⟩
abbrev qm142 : qMr := (yX11_stop, cX11_stop, 3, (some .int), 1, 0, (6, 52), (6, 53), (1, 1))
theorem qm142_ok : qMg qm142 := ⟨qtb_in 6 _ (List.mem_of_getElem? (i := 54) rfl), by decide +kernel⟩
abbrev qm143 : qMr := (yX11_lasts, cX11_lasts, 3, (some .int), 2, 0, (6, 59), (6, 60), (1, 1))
theorem qm143_ok : qMg qm143 := ⟨qtb_in 6 _ (List.mem_of_getElem? (i := 61) rfl), by decide +kernel⟩
abbrev qm144 : qMr := (yX11_without, cX11_without, 4, (some .int), 3, 0, (6, 82), (6, 83), (1, 1))
theorem qm144_ok : qMg qm144 := ⟨qtb_in 6 _ (List.mem_of_getElem? (i := 84) rfl), by decide +kernel⟩
abbrev qm145 : qMr := (yX11_there, cX11_there, 2, (some .int), 1, 0, (6, 89), (6, 90), (1, 1))
theorem qm145_ok : qMg qm145 := ⟨qtb_in 6 _ (List.mem_of_getElem? (i := 91) rfl), by decide +kernel⟩
abbrev qm146 : qMr := (yX11_flat, cX11_flat, 1, (some .int), 0, 0, (3, 58), (3, 59), (1, 1))
theorem qm146_ok : qMg qm146 := ⟨qtb_in 3 _ (List.mem_of_getElem? (i := 60) rfl), by decide +kernel⟩
abbrev qm147 : qMr := (yX11_solos, cX11_solos, 1, (some .int), 0, 0, (3, 78), (3, 79), (1, 1))
theorem qm147_ok : qMg qm147 := ⟨qtb_in 3 _ (List.mem_of_getElem? (i := 80) rfl), by decide +kernel⟩
abbrev qm148 : qMr := (yX11_soloJoy, cX11_soloJoy, 2, (some .long), 1, 0, (6, 100), (6, 101), (1, 1))
theorem qm148_ok : qMg qm148 := ⟨qtb_in 6 _ (List.mem_of_getElem? (i := 102) rfl), by decide +kernel⟩
abbrev qm149 : qMr := (yX11_party, cX11_party, 2, (some .int), 1, 0, (6, 107), (6, 108), (1, 1))
theorem qm149_ok : qMg qm149 := ⟨qtb_in 6 _ (List.mem_of_getElem? (i := 109) rfl), by decide +kernel⟩
abbrev qm150 : qMr := (yX11_gave, cX11_gave, 2, (some .int), 1, 0, (6, 123), (6, 124), (1, 1))
theorem qm150_ok : qMg qm150 := ⟨qtb_in 6 _ (List.mem_of_getElem? (i := 125) rfl), by decide +kernel⟩
abbrev qm151 : qMr := (yX11_right, cX11_right, 2, (some .int), 1, 0, (6, 147), (6, 148), (1, 1))
theorem qm151_ok : qMg qm151 := ⟨qtb_in 6 _ (List.mem_of_getElem? (i := 149) rfl), by decide +kernel⟩
abbrev qm152 : qMr := (yX11_evening, cX11_evening, 3, (some .int), 2, 0, (6, 156), (6, 157), (1, 1))
theorem qm152_ok : qMg qm152 := ⟨qtb_in 6 _ (List.mem_of_getElem? (i := 158) rfl), by decide +kernel⟩
abbrev qm153 : qMr := (yX11_span, cX11_span, 10, (some .int), 4, 0, (6, 195), (6, 196), (1, 1))
theorem qm153_ok : qMg qm153 := ⟨qtb_in 6 _ (List.mem_of_getElem? (i := 197) rfl), by decide +kernel⟩
abbrev qm154 : qMr := (yX11_finest, cX11_finest, 6, (some .int), 2, 0, (6, 202), (6, 203), (1, 1))
theorem qm154_ok : qMg qm154 := ⟨qtb_in 6 _ (List.mem_of_getElem? (i := 204) rfl), by decide +kernel⟩
abbrev qm155 : qMr := (yX11_change, cX11_change, 5, (some .int), 3, 0, (6, 209), (6, 210), (1, 1))
theorem qm155_ok : qMg qm155 := ⟨qtb_in 6 _ (List.mem_of_getElem? (i := 211) rfl), by decide +kernel⟩
abbrev qm156 : qMr := (yX11_sing, cX11_sing, 4, (some .int), 3, 0, (6, 226), (6, 227), (1, 1))
theorem qm156_ok : qMg qm156 := ⟨qtb_in 6 _ (List.mem_of_getElem? (i := 228) rfl), by decide +kernel⟩
abbrev qm157 : qMr := (yX11_swap, cX11_swap, 3, (some .int), 2, 0, (6, 234), (6, 235), (1, 1))
theorem qm157_ok : qMg qm157 := ⟨qtb_in 6 _ (List.mem_of_getElem? (i := 236) rfl), by decide +kernel⟩
abbrev qm158 : qMr := (yX11_skip, cX11_skip, 2, (some .int), 1, 0, (7, 2), (7, 3), (1, 1))
theorem qm158_ok : qMg qm158 := ⟨qtb_in 7 _ (List.mem_of_getElem? (i := 4) rfl), by decide +kernel⟩
abbrev qm159 : qMr := (yX11_until, cX11_until, 3, (some .int), 1, 0, (7, 13), (7, 14), (1, 1))
theorem qm159_ok : qMg qm159 := ⟨qtb_in 7 _ (List.mem_of_getElem? (i := 15) rfl), by decide +kernel⟩
abbrev qm160 : qMr := (yX11_undo, cX11_undo, 1, (some .int), 0, 0, (3, 130), (3, 131), (1, 1))
theorem qm160_ok : qMg qm160 := ⟨qtb_in 3 _ (List.mem_of_getElem? (i := 132) rfl), by decide +kernel⟩
abbrev qm161 : qMr := (yX11_image, cX11_image, 1, (some .int), 0, 0, (3, 159), (3, 160), (1, 1))
theorem qm161_ok : qMg qm161 := ⟨qtb_in 3 _ (List.mem_of_getElem? (i := 161) rfl), by decide +kernel⟩
abbrev qm162 : qMr := (yX11_restore, cX11_restore, 1, (some .int), 0, 0, (3, 170), (3, 171), (1, 1))
theorem qm162_ok : qMg qm162 := ⟨qtb_in 3 _ (List.mem_of_getElem? (i := 172) rfl), by decide +kernel⟩
abbrev qm163 : qMr := (yX11_status, cX11_status, 2, (some .int), 1, 0, (3, 174), (3, 175), (1, 1))
theorem qm163_ok : qMg qm163 := ⟨qtb_in 3 _ (List.mem_of_getElem? (i := 176) rfl), by decide +kernel⟩
abbrev qm164 : qMr := (yX11_count, cX11_count, 2, (some .int), 1, 0, (3, 178), (3, 179), (1, 1))
theorem qm164_ok : qMg qm164 := ⟨qtb_in 3 _ (List.mem_of_getElem? (i := 180) rfl), by decide +kernel⟩
abbrev qm165 : qMr := (yX11_needFound, cX11_needFound, 2, none, 1, 0, (5, 80), (0, 27), (1, 1))
theorem qm165_ok : qMg qm165 := ⟨qtb_in 5 _ (List.mem_of_getElem? (i := 81) rfl), by decide +kernel⟩
abbrev qm166 : qMr := (yX11_needDoor, cX11_needDoor, 2, none, 1, 0, (5, 76), (0, 26), (1, 1))
theorem qm166_ok : qMg qm166 := ⟨qtb_in 5 _ (List.mem_of_getElem? (i := 77) rfl), by decide +kernel⟩
abbrev qm167 : qMr := (yX11_needLine, cX11_needLine, 2, none, 1, 0, (5, 116), (0, 28), (1, 1))
theorem qm167_ok : qMg qm167 := ⟨qtb_in 5 _ (List.mem_of_getElem? (i := 117) rfl), by decide +kernel⟩
abbrev qm168 : qMr := (yX11_need, cX11_need, 2, none, 1, 0, (3, 196), (0, 8), (1, 1))
theorem qm168_ok : qMg qm168 := ⟨qtb_in 3 _ (List.mem_of_getElem? (i := 197) rfl), by decide +kernel⟩
abbrev qm169 : qMr := (yX11_needText, cX11_needText, 3, none, 2, 0, (3, 191), (0, 7), (1, 1))
theorem qm169_ok : qMg qm169 := ⟨qtb_in 3 _ (List.mem_of_getElem? (i := 192) rfl), by decide +kernel⟩
abbrev qm170 : qMr := (yX11_needFewDoors, cX11_needFewDoors, 1, none, 0, 0, (5, 173), (0, 29), (1, 1))
theorem qm170_ok : qMg qm170 := ⟨qtb_in 5 _ (List.mem_of_getElem? (i := 174) rfl), by decide +kernel⟩
abbrev qm171 : qMr := (yX11_within, cX11_within, 3, (some .boolean), 3, 1, (3, 87), (0, 0), (1, 1))
theorem qm171_ok : qMg qm171 := ⟨qtb_in 3 _ (List.mem_of_getElem? (i := 88) rfl), by decide +kernel⟩
abbrev qm172 : qMr := (yX11_mostOf, cX11_mostOf, 1, (some .int), 1, 1, (4, 132), (0, 0), (1, 1))
theorem qm172_ok : qMg qm172 := ⟨qtb_in 4 _ (List.mem_of_getElem? (i := 133) rfl), by decide +kernel⟩
abbrev qm173 : qMr := (yX11_apart, cX11_apart, 2, (some .int), 2, 1, (3, 42), (0, 0), (1, 1))
theorem qm173_ok : qMg qm173 := ⟨qtb_in 3 _ (List.mem_of_getElem? (i := 43) rfl), by decide +kernel⟩
abbrev qm174 : qMr := (yX11_leastTerms, cX11_leastTerms, 7, (some .long), 3, 1, (5, 142), (0, 0), (1, 1))
theorem qm174_ok : qMg qm174 := ⟨qtb_in 5 _ (List.mem_of_getElem? (i := 143) rfl), by decide +kernel⟩
abbrev qm175 : qMr := (yX11_commonDivisor, cX11_commonDivisor, 7, (some .long), 2, 1, (5, 145), (0, 0), (1, 1))
theorem qm175_ok : qMg qm175 := ⟨qtb_in 5 _ (List.mem_of_getElem? (i := 146) rfl), by decide +kernel⟩
abbrev qm176 : qMr := (yX12_thrown, cX12_thrown, 1, (some .int), 0, 0, (7, 17), (7, 18), (1, 13))
theorem qm176_ok : qMg qm176 := ⟨qtb_in 7 _ (List.mem_of_getElem? (i := 19) rfl), by decide +kernel⟩
abbrev qm177 : qMr := (yX12_may, cX12_may, 4, (some .boolean), 3, 0, (8, 10), (0, 46), (1, 13))
theorem qm177_ok : qMg qm177 := ⟨qtb_in 8 _ (List.mem_of_getElem? (i := 11) rfl), by decide +kernel⟩
abbrev qm178 : qMr := (yX12_within, cX12_within, 3, (some .boolean), 3, 1, (8, 108), (0, 0), (1, 13))
theorem qm178_ok : qMg qm178 := ⟨qtb_in 8 _ (List.mem_of_getElem? (i := 109) rfl), by decide +kernel⟩
abbrev qm179 : qMr := (yX12_init, cX12_init, 1, none, 0, 2, (7, 23), (0, 0), (1, 13))
theorem qm179_ok : qMg qm179 := ⟨qtb_in 7 _ (List.mem_of_getElem? (i := 24) rfl), by decide +kernel⟩
abbrev qm180 : qMr := (yX12_feed, cX12_feed, 8, (some .int), 5, 0, (7, 237), (7, 238), (1, 13))
theorem qm180_ok : qMg qm180 := ⟨qtb_in 7 _ (List.mem_of_getElem? (i := 239) rfl), by decide +kernel⟩
abbrev qm181 : qMr := (yX12_fine, cX12_fine, 1, (some .boolean), 0, 0, (8, 18), (0, 48), (1, 13))
theorem qm181_ok : qMg qm181 := ⟨qtb_in 8 _ (List.mem_of_getElem? (i := 19) rfl), by decide +kernel⟩
abbrev qm182 : qMr := (yX12_wrong, cX12_wrong, 3, none, 2, 0, (8, 58), (0, 52), (1, 13))
theorem qm182_ok : qMg qm182 := ⟨qtb_in 8 _ (List.mem_of_getElem? (i := 59) rfl), by decide +kernel⟩
abbrev qm183 : qMr := (yX12_here, cX12_here, 1, (some .int), 0, 0, (8, 26), (0, 50), (1, 13))
theorem qm183_ok : qMg qm183 := ⟨qtb_in 8 _ (List.mem_of_getElem? (i := 27) rfl), by decide +kernel⟩
abbrev qm184 : qMr := (yX12_isSmall, cX12_isSmall, 1, (some .boolean), 1, 1, (8, 33), (0, 0), (1, 13))
theorem qm184_ok : qMg qm184 := ⟨qtb_in 8 _ (List.mem_of_getElem? (i := 34) rfl), by decide +kernel⟩
abbrev qm185 : qMr := (yX12_isDigit, cX12_isDigit, 1, (some .boolean), 1, 1, (8, 77), (0, 0), (1, 13))
theorem qm185_ok : qMg qm185 := ⟨qtb_in 8 _ (List.mem_of_getElem? (i := 78) rfl), by decide +kernel⟩
abbrev qm186 : qMr := (yX12_word, cX12_word, 4, (some .int), 0, 0, (8, 30), (0, 51), (1, 13))
theorem qm186_ok : qMg qm186 := ⟨qtb_in 8 _ (List.mem_of_getElem? (i := 31) rfl), by decide +kernel⟩
abbrev qm187 : qMr := (yX12_of, cX12_of, 3, (some .int), 1, 1, (8, 40), (0, 0), (1, 13))
theorem qm187_ok : qMg qm187 := ⟨qtb_in 8 _ (List.mem_of_getElem? (i := 41) rfl), by decide +kernel⟩
abbrev qm188 : qMr := (yX12_pass, cX12_pass, 1, none, 0, 0, (8, 62), (0, 53), (1, 13))
theorem qm188_ok : qMg qm188 := ⟨qtb_in 8 _ (List.mem_of_getElem? (i := 63) rfl), by decide +kernel⟩
abbrev qm189 : qMr := (yX12_readNumber, cX12_readNumber, 6, (some .int), 2, 0, (8, 74), (0, 56), (1, 13))
theorem qm189_ok : qMg qm189 := ⟨qtb_in 8 _ (List.mem_of_getElem? (i := 75) rfl), by decide +kernel⟩
abbrev qm190 : qMr := (yX12_sign, cX12_sign, 2, none, 1, 0, (8, 97), (0, 61), (1, 13))
theorem qm190_ok : qMg qm190 := ⟨qtb_in 8 _ (List.mem_of_getElem? (i := 98) rfl), by decide +kernel⟩
abbrev qm191 : qMr := (yX12_isMore, cX12_isMore, 1, (some .boolean), 0, 0, (8, 22), (0, 49), (1, 13))
theorem qm191_ok : qMg qm191 := ⟨qtb_in 8 _ (List.mem_of_getElem? (i := 23) rfl), by decide +kernel⟩
abbrev qm192 : qMr := (yX12_begins, cX12_begins, 2, none, 1, 0, (8, 14), (0, 47), (1, 13))
theorem qm192_ok : qMg qm192 := ⟨qtb_in 8 _ (List.mem_of_getElem? (i := 15) rfl), by decide +kernel⟩
abbrev qm193 : qMr := (yX12_result, cX12_result, 2, (some .int), 1, 0, (8, 101), (0, 62), (1, 13))
theorem qm193_ok : qMg qm193 := ⟨qtb_in 8 _ (List.mem_of_getElem? (i := 102) rfl), by decide +kernel⟩
abbrev qm194 : qMr := (yX12_fault, cX12_fault, 1, (some .int), 0, 0, (8, 1), (8, 2), (1, 13))
theorem qm194_ok : qMg qm194 := ⟨qtb_in 8 _ (List.mem_of_getElem? (i := 3) rfl), by decide +kernel⟩
abbrev qm195 : qMr := (yX12_clears, cX12_clears, 1, none, 0, 0, (7, 29), (0, 43), (1, 13))
theorem qm195_ok : qMg qm195 := ⟨qtb_in 7 _ (List.mem_of_getElem? (i := 30) rfl), by decide +kernel⟩
abbrev qm196 : qMr := (yX12_copies, cX12_copies, 5, none, 3, 0, (7, 37), (0, 45), (1, 13))
theorem qm196_ok : qMg qm196 := ⟨qtb_in 7 _ (List.mem_of_getElem? (i := 38) rfl), by decide +kernel⟩
abbrev qm197 : qMr := (yX12_sets, cX12_sets, 1, none, 0, 0, (7, 33), (0, 44), (1, 13))
theorem qm197_ok : qMg qm197 := ⟨qtb_in 7 _ (List.mem_of_getElem? (i := 34) rfl), by decide +kernel⟩
abbrev qm198 : qMr := (yX12_readDoor, cX12_readDoor, 1, (some .int), 0, 0, (8, 85), (0, 58), (1, 13))
theorem qm198_ok : qMg qm198 := ⟨qtb_in 8 _ (List.mem_of_getElem? (i := 86) rfl), by decide +kernel⟩
abbrev qm199 : qMr := (yX12_readSinger, cX12_readSinger, 1, (some .int), 0, 0, (8, 93), (0, 60), (1, 13))
theorem qm199_ok : qMg qm199 := ⟨qtb_in 8 _ (List.mem_of_getElem? (i := 94) rfl), by decide +kernel⟩
abbrev qm200 : qMr := (yX12_readOf, cX12_readOf, 5, none, 2, 0, (8, 81), (0, 57), (1, 13))
theorem qm200_ok : qMg qm200 := ⟨qtb_in 8 _ (List.mem_of_getElem? (i := 82) rfl), by decide +kernel⟩
abbrev qm201 : qMr := (yX12_readNewDoor, cX12_readNewDoor, 2, none, 0, 0, (8, 70), (0, 55), (1, 13))
theorem qm201_ok : qMg qm201 := ⟨qtb_in 8 _ (List.mem_of_getElem? (i := 71) rfl), by decide +kernel⟩
abbrev qm202 : qMr := (yX12_readPeople, cX12_readPeople, 4, none, 1, 0, (8, 89), (0, 59), (1, 13))
theorem qm202_ok : qMg qm202 := ⟨qtb_in 8 _ (List.mem_of_getElem? (i := 90) rfl), by decide +kernel⟩
abbrev qm203 : qMr := (yX12_readClause, cX12_readClause, 5, none, 1, 0, (8, 66), (0, 54), (1, 13))
theorem qm203_ok : qMg qm203 := ⟨qtb_in 8 _ (List.mem_of_getElem? (i := 67) rfl), by decide +kernel⟩
abbrev qm204 : qMr := (yX12_isClause, cX12_isClause, 1, (some .boolean), 1, 1, (8, 36), (0, 0), (1, 13))
theorem qm204_ok : qMg qm204 := ⟨qtb_in 8 _ (List.mem_of_getElem? (i := 37) rfl), by decide +kernel⟩
abbrev qm205 : qMr := (yX12_village, cX12_village, 4, (some .int), 1, 0, (8, 5), (8, 6), (1, 13))
theorem qm205_ok : qMg qm205 := ⟨qtb_in 8 _ (List.mem_of_getElem? (i := 7) rfl), by decide +kernel⟩
abbrev qm206 : qMr := (yX12_emit, cX12_emit, 3, none, 2, 0, (8, 128), (0, 67), (1, 13))
theorem qm206_ok : qMg qm206 := ⟨qtb_in 8 _ (List.mem_of_getElem? (i := 129) rfl), by decide +kernel⟩
abbrev qm207 : qMr := (yX12_opensOne, cX12_opensOne, 2, none, 1, 0, (8, 124), (0, 66), (1, 13))
theorem qm207_ok : qMg qm207 := ⟨qtb_in 8 _ (List.mem_of_getElem? (i := 125) rfl), by decide +kernel⟩
abbrev qm208 : qMr := (yX12_readSum, cX12_readSum, 2, none, 0, 0, (8, 112), (0, 63), (1, 13))
theorem qm208_ok : qMg qm208 := ⟨qtb_in 8 _ (List.mem_of_getElem? (i := 113) rfl), by decide +kernel⟩
abbrev qm209 : qMr := (yX12_readProduct, cX12_readProduct, 2, none, 0, 0, (8, 116), (0, 64), (1, 13))
theorem qm209_ok : qMg qm209 := ⟨qtb_in 8 _ (List.mem_of_getElem? (i := 117) rfl), by decide +kernel⟩
abbrev qm210 : qMr := (yX12_readRow, cX12_readRow, 3, none, 2, 0, (8, 133), (0, 68), (1, 13))
theorem qm210_ok : qMg qm210 := ⟨qtb_in 8 _ (List.mem_of_getElem? (i := 134) rfl), by decide +kernel⟩
abbrev qm211 : qMr := (yX12_standsHere, cX12_standsHere, 3, (some .boolean), 1, 0, (8, 144), (0, 70), (1, 13))
theorem qm211_ok : qMg qm211 := ⟨qtb_in 8 _ (List.mem_of_getElem? (i := 145) rfl), by decide +kernel⟩
abbrev qm212 : qMr := (yX12_factHere, cX12_factHere, 2, (some .int), 0, 0, (8, 139), (0, 69), (1, 13))
theorem qm212_ok : qMg qm212 := ⟨qtb_in 8 _ (List.mem_of_getElem? (i := 140) rfl), by decide +kernel⟩
abbrev qm213 : qMr := (yX12_readUnit, cX12_readUnit, 2, none, 0, 0, (8, 120), (0, 65), (1, 13))
theorem qm213_ok : qMg qm213 := ⟨qtb_in 8 _ (List.mem_of_getElem? (i := 121) rfl), by decide +kernel⟩
abbrev qm214 : qMr := (yX12_law, cX12_law, 5, (some .int), 2, 0, (8, 104), (8, 105), (1, 13))
theorem qm214_ok : qMg qm214 := ⟨qtb_in 8 _ (List.mem_of_getElem? (i := 106) rfl), by decide +kernel⟩
abbrev qm215 : qMr := (yX12_valueOf, cX12_valueOf, 5, (some .int), 1, 0, (8, 212), (0, 77), (1, 13))
theorem qm215_ok : qMg qm215 := ⟨qtb_in 8 _ (List.mem_of_getElem? (i := 213) rfl), by decide +kernel⟩
abbrev qm216 : qMr := (yX12_both, cX12_both, 3, (some .int), 3, 1, (8, 215), (0, 0), (1, 13))
theorem qm216_ok : qMg qm216 := ⟨qtb_in 8 _ (List.mem_of_getElem? (i := 216) rfl), by decide +kernel⟩
abbrev qm217 : qMr := (yX12_findFacts, cX12_findFacts, 4, none, 3, 0, (8, 208), (0, 76), (1, 13))
theorem qm217_ok : qMg qm217 := ⟨qtb_in 8 _ (List.mem_of_getElem? (i := 209) rfl), by decide +kernel⟩
abbrev qm218 : qMr := (yX12_giveOf, cX12_giveOf, 5, (some .int), 3, 0, (8, 204), (0, 75), (1, 13))
theorem qm218_ok : qMg qm218 := ⟨qtb_in 8 _ (List.mem_of_getElem? (i := 205) rfl), by decide +kernel⟩
abbrev qm219 : qMr := (yX12_plan, cX12_plan, 8, (some .int), 1, 0, (8, 154), (8, 155), (1, 13))
theorem qm219_ok : qMg qm219 := ⟨qtb_in 8 _ (List.mem_of_getElem? (i := 156) rfl), by decide +kernel⟩
abbrev qm220 : qMr := (yX12_book, cX12_book, 8, (some .int), 1, 0, (8, 160), (8, 161), (1, 13))
theorem qm220_ok : qMg qm220 := ⟨qtb_in 8 _ (List.mem_of_getElem? (i := 162) rfl), by decide +kernel⟩
abbrev qm221 : qMr := (yX12_told, cX12_told, 2, (some .int), 1, 0, (8, 164), (8, 165), (1, 13))
theorem qm221_ok : qMg qm221 := ⟨qtb_in 8 _ (List.mem_of_getElem? (i := 166) rfl), by decide +kernel⟩
abbrev qm222 : qMr := (yX12_isDoor, cX12_isDoor, 3, (some .boolean), 2, 0, (8, 173), (0, 71), (1, 13))
theorem qm222_ok : qMg qm222 := ⟨qtb_in 8 _ (List.mem_of_getElem? (i := 174) rfl), by decide +kernel⟩
abbrev qm223 : qMr := (yX12_isLine, cX12_isLine, 3, (some .boolean), 2, 0, (8, 185), (0, 72), (1, 13))
theorem qm223_ok : qMg qm223 := ⟨qtb_in 8 _ (List.mem_of_getElem? (i := 186) rfl), by decide +kernel⟩
abbrev qm224 : qMr := (yX12_door, cX12_door, 3, (some .int), 2, 0, (8, 168), (8, 169), (1, 13))
theorem qm224_ok : qMg qm224 := ⟨qtb_in 8 _ (List.mem_of_getElem? (i := 170) rfl), by decide +kernel⟩
abbrev qm225 : qMr := (yX12_singer, cX12_singer, 3, (some .int), 2, 0, (8, 176), (8, 177), (1, 13))
theorem qm225_ok : qMg qm225 := ⟨qtb_in 8 _ (List.mem_of_getElem? (i := 178) rfl), by decide +kernel⟩
abbrev qm226 : qMr := (yX12_xOf, cX12_xOf, 2, (some .int), 1, 0, (8, 193), (0, 74), (1, 13))
theorem qm226_ok : qMg qm226 := ⟨qtb_in 8 _ (List.mem_of_getElem? (i := 194) rfl), by decide +kernel⟩
abbrev qm227 : qMr := (yX12_apart, cX12_apart, 2, (some .int), 2, 1, (8, 196), (0, 0), (1, 13))
theorem qm227_ok : qMg qm227 := ⟨qtb_in 8 _ (List.mem_of_getElem? (i := 197) rfl), by decide +kernel⟩
abbrev qm228 : qMr := (yX12_wayTo, cX12_wayTo, 2, (some .int), 1, 0, (8, 189), (0, 73), (1, 13))
theorem qm228_ok : qMg qm228 := ⟨qtb_in 8 _ (List.mem_of_getElem? (i := 190) rfl), by decide +kernel⟩
abbrev qm229 : qMr := (yX12_line, cX12_line, 3, (some .int), 2, 0, (8, 180), (8, 181), (1, 13))
theorem qm229_ok : qMg qm229 := ⟨qtb_in 8 _ (List.mem_of_getElem? (i := 182) rfl), by decide +kernel⟩
abbrev qm230 : qMr := (yX12_gives, cX12_gives, 4, (some .int), 3, 0, (8, 199), (8, 200), (1, 13))
theorem qm230_ok : qMg qm230 := ⟨qtb_in 8 _ (List.mem_of_getElem? (i := 201) rfl), by decide +kernel⟩
abbrev qm231 : qMr := (yX12_isRing, cX12_isRing, 3, (some .boolean), 3, 1, (8, 227), (0, 0), (1, 13))
theorem qm231_ok : qMg qm231 := ⟨qtb_in 8 _ (List.mem_of_getElem? (i := 228) rfl), by decide +kernel⟩
abbrev qm232 : qMr := (yX12_findMeans, cX12_findMeans, 15, none, 4, 0, (8, 223), (0, 78), (1, 13))
theorem qm232_ok : qMg qm232 := ⟨qtb_in 8 _ (List.mem_of_getElem? (i := 224) rfl), by decide +kernel⟩
abbrev qm233 : qMr := (yX12_least, cX12_least, 11, (some .long), 3, 1, (8, 236), (0, 0), (1, 13))
theorem qm233_ok : qMg qm233 := ⟨qtb_in 8 _ (List.mem_of_getElem? (i := 237) rfl), by decide +kernel⟩
abbrev qm234 : qMr := (yX12_meanOf, cX12_meanOf, 2, (some .long), 1, 0, (8, 233), (0, 79), (1, 13))
theorem qm234_ok : qMg qm234 := ⟨qtb_in 8 _ (List.mem_of_getElem? (i := 234) rfl), by decide +kernel⟩
abbrev qm235 : qMr := (yX12_mean, cX12_mean, 6, (some .long), 5, 0, (8, 218), (8, 219), (1, 13))
theorem qm235_ok : qMg qm235 := ⟨qtb_in 8 _ (List.mem_of_getElem? (i := 220) rfl), by decide +kernel⟩
abbrev qm236 : qMr := (yX12_findLine, cX12_findLine, 2, none, 1, 0, (9, 8), (0, 81), (1, 13))
theorem qm236_ok : qMg qm236 := ⟨qtb_in 9 _ (List.mem_of_getElem? (i := 9) rfl), by decide +kernel⟩
abbrev qm237 : qMr := (yX12_sumFrom, cX12_sumFrom, 6, (some .long), 2, 0, (9, 4), (0, 80), (1, 13))
theorem qm237_ok : qMg qm237 := ⟨qtb_in 9 _ (List.mem_of_getElem? (i := 5) rfl), by decide +kernel⟩
abbrev qm238 : qMr := (yX12_planned, cX12_planned, 3, (some .long), 2, 0, (8, 239), (9, 0), (1, 13))
theorem qm238_ok : qMg qm238 := ⟨qtb_in 9 _ (List.mem_of_getElem? (i := 1) rfl), by decide +kernel⟩
abbrev qm239 : qMr := (yX12_longOf, cX12_longOf, 4, (some .int), 1, 0, (9, 16), (0, 82), (1, 13))
theorem qm239_ok : qMg qm239 := ⟨qtb_in 9 _ (List.mem_of_getElem? (i := 17) rfl), by decide +kernel⟩
abbrev qm240 : qMr := (yX12_longest, cX12_longest, 1, (some .int), 0, 0, (9, 11), (9, 12), (1, 13))
theorem qm240_ok : qMg qm240 := ⟨qtb_in 9 _ (List.mem_of_getElem? (i := 13) rfl), by decide +kernel⟩
abbrev qm241 : qMr := (yX12_sure, cX12_sure, 2, (some .int), 0, 0, (9, 19), (9, 20), (1, 13))
theorem qm241_ok : qMg qm241 := ⟨qtb_in 9 _ (List.mem_of_getElem? (i := 21) rfl), by decide +kernel⟩
abbrev qm242 : qMr := (yX12_findValues, cX12_findValues, 4, none, 1, 0, (9, 36), (0, 85), (1, 13))
theorem qm242_ok : qMg qm242 := ⟨qtb_in 9 _ (List.mem_of_getElem? (i := 37) rfl), by decide +kernel⟩
abbrev qm243 : qMr := (yX12_wayOver, cX12_wayOver, 6, (some .int), 1, 0, (9, 41), (0, 86), (1, 13))
theorem qm243_ok : qMg qm243 := ⟨qtb_in 9 _ (List.mem_of_getElem? (i := 42) rfl), by decide +kernel⟩
abbrev qm244 : qMr := (yX12_index, cX12_index, 4, (some .int), 3, 0, (9, 49), (0, 88), (1, 13))
theorem qm244_ok : qMg qm244 := ⟨qtb_in 9 _ (List.mem_of_getElem? (i := 50) rfl), by decide +kernel⟩
abbrev qm245 : qMr := (yX12_isOf, cX12_isOf, 4, (some .boolean), 3, 0, (9, 53), (0, 89), (1, 13))
theorem qm245_ok : qMg qm245 := ⟨qtb_in 9 _ (List.mem_of_getElem? (i := 54) rfl), by decide +kernel⟩
abbrev qm246 : qMr := (yX12_findMost, cX12_findMost, 10, none, 1, 0, (9, 45), (0, 87), (1, 13))
theorem qm246_ok : qMg qm246 := ⟨qtb_in 9 _ (List.mem_of_getElem? (i := 46) rfl), by decide +kernel⟩
abbrev qm247 : qMr := (yX12_findBest, cX12_findBest, 8, none, 1, 0, (9, 32), (0, 84), (1, 13))
theorem qm247_ok : qMg qm247 := ⟨qtb_in 9 _ (List.mem_of_getElem? (i := 33) rfl), by decide +kernel⟩
abbrev qm248 : qMr := (yX12_goesOn, cX12_goesOn, 9, (some .boolean), 3, 0, (9, 57), (0, 90), (1, 13))
theorem qm248_ok : qMg qm248 := ⟨qtb_in 9 _ (List.mem_of_getElem? (i := 58) rfl), by decide +kernel⟩
abbrev qm249 : qMr := (yX12_isBest, cX12_isBest, 4, (some .boolean), 3, 0, (9, 28), (0, 83), (1, 13))
theorem qm249_ok : qMg qm249 := ⟨qtb_in 9 _ (List.mem_of_getElem? (i := 29) rfl), by decide +kernel⟩
abbrev qm250 : qMr := (yX12_best, cX12_best, 3, (some .long), 2, 0, (9, 23), (9, 24), (1, 13))
theorem qm250_ok : qMg qm250 := ⟨qtb_in 9 _ (List.mem_of_getElem? (i := 25) rfl), by decide +kernel⟩
abbrev qm251 : qMr := (yX12_bestAt, cX12_bestAt, 4, (some .int), 2, 0, (9, 60), (9, 61), (1, 13))
theorem qm251_ok : qMg qm251 := ⟨qtb_in 9 _ (List.mem_of_getElem? (i := 62) rfl), by decide +kernel⟩
abbrev qm252 : qMr := (yX12_bestLong, cX12_bestLong, 2, (some .int), 1, 0, (9, 64), (9, 65), (1, 13))
theorem qm252_ok : qMg qm252 := ⟨qtb_in 9 _ (List.mem_of_getElem? (i := 66) rfl), by decide +kernel⟩
abbrev qm253 : qMr := (yX12_weigh, cX12_weigh, 8, none, 3, 0, (9, 77), (0, 92), (1, 13))
theorem qm253_ok : qMg qm253 := ⟨qtb_in 9 _ (List.mem_of_getElem? (i := 78) rfl), by decide +kernel⟩
abbrev qm254 : qMr := (yX12_isVain, cX12_isVain, 5, (some .boolean), 4, 0, (9, 73), (0, 91), (1, 13))
theorem qm254_ok : qMg qm254 := ⟨qtb_in 9 _ (List.mem_of_getElem? (i := 74) rfl), by decide +kernel⟩
abbrev qm255 : qMr := (yX12_homeBy, cX12_homeBy, 6, (some .long), 3, 0, (9, 81), (0, 93), (1, 13))
theorem qm255_ok : qMg qm255 := ⟨qtb_in 9 _ (List.mem_of_getElem? (i := 82) rfl), by decide +kernel⟩
abbrev qm256 : qMr := (yX12_home, cX12_home, 5, (some .long), 4, 0, (9, 68), (9, 69), (1, 13))
theorem qm256_ok : qMg qm256 := ⟨qtb_in 9 _ (List.mem_of_getElem? (i := 70) rfl), by decide +kernel⟩
abbrev qm257 : qMr := (yX12_another, cX12_another, 5, (some .long), 4, 0, (9, 84), (9, 85), (1, 13))
theorem qm257_ok : qMg qm257 := ⟨qtb_in 9 _ (List.mem_of_getElem? (i := 86) rfl), by decide +kernel⟩
abbrev qm258 : qMr := (yX12_lineAt, cX12_lineAt, 5, (some .int), 3, 0, (9, 88), (9, 89), (1, 13))
theorem qm258_ok : qMg qm258 := ⟨qtb_in 9 _ (List.mem_of_getElem? (i := 90) rfl), by decide +kernel⟩
abbrev qm259 : qMr := (yX12_ring, cX12_ring, 9, (some .int), 2, 0, (9, 92), (9, 93), (1, 13))
theorem qm259_ok : qMg qm259 := ⟨qtb_in 9 _ (List.mem_of_getElem? (i := 94) rfl), by decide +kernel⟩
abbrev qm260 : qMr := (yX12_pays, cX12_pays, 5, (some .boolean), 4, 0, (9, 96), (9, 97), (1, 13))
theorem qm260_ok : qMg qm260 := ⟨qtb_in 9 _ (List.mem_of_getElem? (i := 98) rfl), by decide +kernel⟩
abbrev qm261 : qMr := (yX12_stop, cX12_stop, 3, (some .int), 1, 0, (9, 100), (9, 101), (1, 13))
theorem qm261_ok : qMg qm261 := ⟨qtb_in 9 _ (List.mem_of_getElem? (i := 102) rfl), by decide +kernel⟩
abbrev qm262 : qMr := (yX12_thereIn, cX12_thereIn, 4, (some .int), 1, 0, (9, 120), (0, 96), (1, 13))
theorem qm262_ok : qMg qm262 := ⟨qtb_in 9 _ (List.mem_of_getElem? (i := 121) rfl), by decide +kernel⟩
abbrev qm263 : qMr := (yX12_partsOf, cX12_partsOf, 4, (some .int), 1, 0, (9, 112), (0, 94), (1, 13))
theorem qm263_ok : qMg qm263 := ⟨qtb_in 9 _ (List.mem_of_getElem? (i := 113) rfl), by decide +kernel⟩
abbrev qm264 : qMr := (yX12_canSing, cX12_canSing, 9, (some .boolean), 4, 0, (9, 124), (0, 97), (1, 13))
theorem qm264_ok : qMg qm264 := ⟨qtb_in 9 _ (List.mem_of_getElem? (i := 125) rfl), by decide +kernel⟩
abbrev qm265 : qMr := (yX12_lastsBy, cX12_lastsBy, 6, (some .int), 3, 0, (9, 116), (0, 95), (1, 13))
theorem qm265_ok : qMg qm265 := ⟨qtb_in 9 _ (List.mem_of_getElem? (i := 117) rfl), by decide +kernel⟩
abbrev qm266 : qMr := (yX12_isMinute, cX12_isMinute, 1, (some .boolean), 1, 1, (9, 108), (0, 0), (1, 13))
theorem qm266_ok : qMg qm266 := ⟨qtb_in 9 _ (List.mem_of_getElem? (i := 109) rfl), by decide +kernel⟩
abbrev qm267 : qMr := (yX12_lasts, cX12_lasts, 3, (some .int), 2, 0, (9, 104), (9, 105), (1, 13))
theorem qm267_ok : qMg qm267 := ⟨qtb_in 9 _ (List.mem_of_getElem? (i := 106) rfl), by decide +kernel⟩
abbrev qm268 : qMr := (yX12_without, cX12_without, 4, (some .int), 3, 0, (9, 127), (9, 128), (1, 13))
theorem qm268_ok : qMg qm268 := ⟨qtb_in 9 _ (List.mem_of_getElem? (i := 129) rfl), by decide +kernel⟩
abbrev qm269 : qMr := (yX12_there, cX12_there, 2, (some .int), 1, 0, (9, 131), (9, 132), (1, 13))
theorem qm269_ok : qMg qm269 := ⟨qtb_in 9 _ (List.mem_of_getElem? (i := 133) rfl), by decide +kernel⟩
abbrev qm270 : qMr := (yX12_flat, cX12_flat, 3, (some .int), 0, 0, (9, 135), (9, 136), (1, 13))
theorem qm270_ok : qMg qm270 := ⟨qtb_in 9 _ (List.mem_of_getElem? (i := 137) rfl), by decide +kernel⟩
abbrev qm271 : qMr := (yX12_ones, cX12_ones, 4, (some .int), 1, 0, (9, 148), (0, 99), (1, 13))
theorem qm271_ok : qMg qm271 := ⟨qtb_in 9 _ (List.mem_of_getElem? (i := 149) rfl), by decide +kernel⟩
abbrev qm272 : qMr := (yX12_findSolos, cX12_findSolos, 7, none, 0, 0, (9, 144), (0, 98), (1, 13))
theorem qm272_ok : qMg qm272 := ⟨qtb_in 9 _ (List.mem_of_getElem? (i := 145) rfl), by decide +kernel⟩
abbrev qm273 : qMr := (yX12_solos, cX12_solos, 1, (some .int), 0, 0, (9, 139), (9, 140), (1, 13))
theorem qm273_ok : qMg qm273 := ⟨qtb_in 9 _ (List.mem_of_getElem? (i := 141) rfl), by decide +kernel⟩
abbrev qm274 : qMr := (yX12_soloJoy, cX12_soloJoy, 2, (some .long), 1, 0, (9, 151), (9, 152), (1, 13))
theorem qm274_ok : qMg qm274 := ⟨qtb_in 9 _ (List.mem_of_getElem? (i := 153) rfl), by decide +kernel⟩
abbrev qm275 : qMr := (yX12_findRow, cX12_findRow, 3, none, 0, 0, (9, 164), (0, 101), (1, 13))
theorem qm275_ok : qMg qm275 := ⟨qtb_in 9 _ (List.mem_of_getElem? (i := 165) rfl), by decide +kernel⟩
abbrev qm276 : qMr := (yX12_findLead, cX12_findLead, 7, none, 0, 0, (9, 160), (0, 100), (1, 13))
theorem qm276_ok : qMg qm276 := ⟨qtb_in 9 _ (List.mem_of_getElem? (i := 161) rfl), by decide +kernel⟩
abbrev qm277 : qMr := (yX12_party, cX12_party, 3, (some .int), 1, 0, (9, 155), (9, 156), (1, 13))
theorem qm277_ok : qMg qm277 := ⟨qtb_in 9 _ (List.mem_of_getElem? (i := 157) rfl), by decide +kernel⟩
abbrev qm278 : qMr := (yX12_isRight, cX12_isRight, 5, (some .boolean), 2, 0, (9, 172), (0, 102), (1, 13))
theorem qm278_ok : qMg qm278 := ⟨qtb_in 9 _ (List.mem_of_getElem? (i := 173) rfl), by decide +kernel⟩
abbrev qm279 : qMr := (yX12_gave, cX12_gave, 9, (some .int), 1, 0, (9, 167), (9, 168), (1, 13))
theorem qm279_ok : qMg qm279 := ⟨qtb_in 9 _ (List.mem_of_getElem? (i := 169) rfl), by decide +kernel⟩
abbrev qm280 : qMr := (yX12_right, cX12_right, 3, (some .int), 1, 0, (9, 175), (9, 176), (1, 13))
theorem qm280_ok : qMg qm280 := ⟨qtb_in 9 _ (List.mem_of_getElem? (i := 177) rfl), by decide +kernel⟩
abbrev qm281 : qMr := (yX12_draws, cX12_draws, 1, (some .int), 0, 0, (9, 192), (0, 105), (1, 13))
theorem qm281_ok : qMg qm281 := ⟨qtb_in 9 _ (List.mem_of_getElem? (i := 193) rfl), by decide +kernel⟩
abbrev qm282 : qMr := (yX12_stepAt, cX12_stepAt, 3, none, 2, 0, (9, 197), (0, 106), (1, 13))
theorem qm282_ok : qMg qm282 := ⟨qtb_in 9 _ (List.mem_of_getElem? (i := 198) rfl), by decide +kernel⟩
abbrev qm283 : qMr := (yX12_singsOn, cX12_singsOn, 4, (some .boolean), 2, 0, (9, 201), (0, 107), (1, 13))
theorem qm283_ok : qMg qm283 := ⟨qtb_in 9 _ (List.mem_of_getElem? (i := 202) rfl), by decide +kernel⟩
abbrev qm284 : qMr := (yX12_visits, cX12_visits, 5, none, 1, 0, (9, 188), (0, 104), (1, 13))
theorem qm284_ok : qMg qm284 := ⟨qtb_in 9 _ (List.mem_of_getElem? (i := 189) rfl), by decide +kernel⟩
abbrev qm285 : qMr := (yX12_goesOut, cX12_goesOut, 3, none, 1, 0, (9, 184), (0, 103), (1, 13))
theorem qm285_ok : qMg qm285 := ⟨qtb_in 9 _ (List.mem_of_getElem? (i := 185) rfl), by decide +kernel⟩
abbrev qm286 : qMr := (yX12_evening, cX12_evening, 3, (some .int), 2, 0, (9, 179), (9, 180), (1, 13))
theorem qm286_ok : qMg qm286 := ⟨qtb_in 9 _ (List.mem_of_getElem? (i := 181) rfl), by decide +kernel⟩
abbrev qm287 : qMr := (yX12_isSpan, cX12_isSpan, 3, (some .boolean), 2, 0, (9, 209), (0, 108), (1, 13))
theorem qm287_ok : qMg qm287 := ⟨qtb_in 9 _ (List.mem_of_getElem? (i := 210) rfl), by decide +kernel⟩
abbrev qm288 : qMr := (yX12_span, cX12_span, 10, (some .int), 4, 0, (9, 204), (9, 205), (1, 13))
theorem qm288_ok : qMg qm288 := ⟨qtb_in 9 _ (List.mem_of_getElem? (i := 206) rfl), by decide +kernel⟩
abbrev qm289 : qMr := (yX12_finest, cX12_finest, 6, (some .int), 2, 0, (9, 212), (9, 213), (1, 13))
theorem qm289_ok : qMg qm289 := ⟨qtb_in 9 _ (List.mem_of_getElem? (i := 214) rfl), by decide +kernel⟩
abbrev qm290 : qMr := (yX12_keepsIn, cX12_keepsIn, 4, none, 2, 0, (9, 228), (0, 110), (1, 13))
theorem qm290_ok : qMg qm290 := ⟨qtb_in 9 _ (List.mem_of_getElem? (i := 229) rfl), by decide +kernel⟩
abbrev qm291 : qMr := (yX12_takesFrom, cX12_takesFrom, 4, none, 2, 0, (10, 12), (0, 111), (1, 13))
theorem qm291_ok : qMg qm291 := ⟨qtb_in 10 _ (List.mem_of_getElem? (i := 13) rfl), by decide +kernel⟩
abbrev qm292 : qMr := (yX12_changes, cX12_changes, 1, (some .boolean), 0, 0, (9, 224), (0, 109), (1, 13))
theorem qm292_ok : qMg qm292 := ⟨qtb_in 9 _ (List.mem_of_getElem? (i := 225) rfl), by decide +kernel⟩
abbrev qm293 : qMr := (yX12_mostOf, cX12_mostOf, 1, (some .int), 1, 1, (9, 220), (0, 0), (1, 13))
theorem qm293_ok : qMg qm293 := ⟨qtb_in 9 _ (List.mem_of_getElem? (i := 221) rfl), by decide +kernel⟩
abbrev qm294 : qMr := (yX12_change, cX12_change, 5, (some .int), 3, 0, (9, 216), (9, 217), (1, 13))
theorem qm294_ok : qMg qm294 := ⟨qtb_in 9 _ (List.mem_of_getElem? (i := 218) rfl), by decide +kernel⟩
abbrev qm295 : qMr := (yX12_sing, cX12_sing, 4, (some .int), 3, 0, (9, 231), (9, 232), (1, 13))
theorem qm295_ok : qMg qm295 := ⟨qtb_in 9 _ (List.mem_of_getElem? (i := 233) rfl), by decide +kernel⟩
abbrev qm296 : qMr := (yX12_swap, cX12_swap, 5, (some .int), 2, 0, (9, 235), (9, 236), (1, 13))
theorem qm296_ok : qMg qm296 := ⟨qtb_in 9 _ (List.mem_of_getElem? (i := 237) rfl), by decide +kernel⟩
abbrev qm297 : qMr := (yX12_skip, cX12_skip, 3, (some .int), 1, 0, (9, 239), (10, 0), (1, 13))
theorem qm297_ok : qMg qm297 := ⟨qtb_in 10 _ (List.mem_of_getElem? (i := 1) rfl), by decide +kernel⟩
abbrev qm298 : qMr := (yX12_until, cX12_until, 3, (some .int), 1, 0, (10, 3), (10, 4), (1, 13))
theorem qm298_ok : qMg qm298 := ⟨qtb_in 10 _ (List.mem_of_getElem? (i := 5) rfl), by decide +kernel⟩
abbrev qm299 : qMr := (yX12_undo, cX12_undo, 1, (some .int), 0, 0, (10, 7), (10, 8), (1, 13))
theorem qm299_ok : qMg qm299 := ⟨qtb_in 10 _ (List.mem_of_getElem? (i := 9) rfl), by decide +kernel⟩
abbrev qm300 : qMr := (yX12_image, cX12_image, 3, (some .int), 0, 0, (10, 15), (10, 16), (1, 13))
theorem qm300_ok : qMg qm300 := ⟨qtb_in 10 _ (List.mem_of_getElem? (i := 17) rfl), by decide +kernel⟩
abbrev qm301 : qMr := (yX12_restore, cX12_restore, 3, (some .int), 0, 0, (10, 19), (10, 20), (1, 13))
theorem qm301_ok : qMg qm301 := ⟨qtb_in 10 _ (List.mem_of_getElem? (i := 21) rfl), by decide +kernel⟩
abbrev qm302 : qMr := (yX12_status, cX12_status, 2, (some .int), 1, 0, (10, 23), (10, 24), (1, 13))
theorem qm302_ok : qMg qm302 := ⟨qtb_in 10 _ (List.mem_of_getElem? (i := 25) rfl), by decide +kernel⟩
abbrev qm303 : qMr := (yX12_count, cX12_count, 2, (some .int), 1, 0, (10, 27), (10, 28), (1, 13))
theorem qm303_ok : qMg qm303 := ⟨qtb_in 10 _ (List.mem_of_getElem? (i := 29) rfl), by decide +kernel⟩
abbrev qm304 : qMr := (yJ0_length_8abf5, cJ0_length_8abf5, 1, (some .int), 0, 0, (4, 71), (4, 72), (1, 18))
theorem qm304_ok : qMg qm304 := ⟨qtb_in 4 _ (List.mem_of_getElem? (i := 73) rfl), by decide +kernel⟩
abbrev qm305 : qMr := (yJ0_charAt_5068e, cJ0_charAt_5068e, 2, (some .char), 1, 0, (4, 81), (4, 82), (1, 18))
theorem qm305_ok : qMg qm305 := ⟨qtb_in 4 _ (List.mem_of_getElem? (i := 83) rfl), by decide +kernel⟩
abbrev qm306 : qMr := (yJ0_coder_7d493, cJ0_coder_7d493, 1, (some .byte), 0, 0, (4, 75), (4, 76), (1, 18))
theorem qm306_ok : qMg qm306 := ⟨qtb_in 4 _ (List.mem_of_getElem? (i := 77) rfl), by decide +kernel⟩
abbrev qm307 : qMr := (yJ0_isLatin1_aae02, cJ0_isLatin1_aae02, 1, (some .boolean), 0, 0, (4, 85), (4, 86), (1, 18))
theorem qm307_ok : qMg qm307 := ⟨qtb_in 4 _ (List.mem_of_getElem? (i := 87) rfl), by decide +kernel⟩
abbrev qm308 : qMr := (yJ0_checkIndex_df160, cJ0_checkIndex_df160, 2, none, 2, 1, (4, 92), (0, 0), (1, 18))
theorem qm308_ok : qMg qm308 := ⟨qtb_in 4 _ (List.mem_of_getElem? (i := 93) rfl), by decide +kernel⟩
abbrev qm309 : qMr := (yJ1_charAt_3b067, cJ1_charAt_3b067, 2, (some .char), 2, 1, (4, 89), (0, 0), (1, 19))
theorem qm309_ok : qMg qm309 := ⟨qtb_in 4 _ (List.mem_of_getElem? (i := 90) rfl), by decide +kernel⟩
abbrev qm310 : qMr := (yJ2_getChar_3b067, cJ2_getChar_3b067, 2, (some .char), 2, 1, (4, 110), (0, 0), (1, 21))
theorem qm310_ok : qMg qm310 := ⟨qtb_in 4 _ (List.mem_of_getElem? (i := 111) rfl), by decide +kernel⟩
abbrev qm311 : qMr := (yJ2_length_9d52b, cJ2_length_9d52b, 1, (some .int), 1, 1, (4, 106), (0, 0), (1, 21))
theorem qm311_ok : qMg qm311 := ⟨qtb_in 4 _ (List.mem_of_getElem? (i := 107) rfl), by decide +kernel⟩
abbrev qm312 : qMr := (yJ2_charAt_3b067, cJ2_charAt_3b067, 2, (some .char), 2, 1, (4, 100), (0, 0), (1, 21))
theorem qm312_ok : qMg qm312 := ⟨qtb_in 4 _ (List.mem_of_getElem? (i := 101) rfl), by decide +kernel⟩
abbrev qm313 : qMr := (yJ2_checkIndex_2214a, cJ2_checkIndex_2214a, 2, none, 2, 1, (4, 103), (0, 0), (1, 21))
theorem qm313_ok : qMg qm313 := ⟨qtb_in 4 _ (List.mem_of_getElem? (i := 104) rfl), by decide +kernel⟩
abbrev qm314 : qMr := (yJ3_checkIndex_8e157, cJ3_checkIndex_8e157, 3, (some .int), 3, 1, (4, 97), (0, 0), (1, 20))
theorem qm314_ok : qMg qm314 := ⟨qtb_in 4 _ (List.mem_of_getElem? (i := 98) rfl), by decide +kernel⟩
end QT
