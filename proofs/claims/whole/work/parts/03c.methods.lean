section QT
/-- a method: name, code, locals, result, arguments, kind (0 instance, 1 static, 2 constructor), places -/
abbrev qMr : Type := MethodName × ByteArray × Nat × Option FieldType × Nat × Nat × (Nat × Nat) × (Nat × Nat) × (Nat × Nat)
def qMb (q : qMr) : Bool := match q with
  | (y, _, _, ret, n, kd, b, d, f) => (match kd with
    | 0 => decide (qat b = some (.instanceMethod y)) && decide (qat d = some (.selects y.cls y y))
    | 1 => decide (qat b = some (.static y))
    | _ => decide (qat b = some (.instanceMethod y)) && decide (y.name = "<init>") && decide (ret = none)) && decide (qat f = some (.initialized y.cls)) && decide ((parseMethodDescriptor y.desc).map (fun z => z.parameters.length) = some n) && plainName y.cls && decide (q.2.2.1 ≤ 60) && decide (y.cls ≠ "java/lang/invoke/MethodHandle") && decide (y.cls ≠ "java/lang/invoke/VarHandle")
def qMg (q : qMr) : Prop := Jvm.Cond.code q.1 q.2.1 q.2.2.1 q.2.2.2.1 ∈ lw_tbl ∧ qMb q = true
abbrev mX0_init : qMr := (yX0_init, cX0_init, 1, none, 0, 2, (1, 165), (0, 0), (1, 6))
theorem mX0_init_ok : qMg mX0_init := ⟨qtb_in 1 _ (List.mem_of_getElem? (i := 166) rfl), by decide +kernel⟩
abbrev mX0_clear : qMr := (yX0_clear, cX0_clear, 1, none, 0, 0, (4, 189), (4, 190), (1, 6))
theorem mX0_clear_ok : qMg mX0_clear := ⟨qtb_in 4 _ (List.mem_of_getElem? (i := 191) rfl), by decide +kernel⟩
abbrev mX0_copy : qMr := (yX0_copy, cX0_copy, 2, none, 1, 0, (5, 59), (5, 60), (1, 6))
theorem mX0_copy_ok : qMg mX0_copy := ⟨qtb_in 5 _ (List.mem_of_getElem? (i := 61) rfl), by decide +kernel⟩
abbrev mX0_add : qMr := (yX0_add, cX0_add, 3, none, 2, 0, (5, 54), (5, 55), (1, 6))
theorem mX0_add_ok : qMg mX0_add := ⟨qtb_in 5 _ (List.mem_of_getElem? (i := 56) rfl), by decide +kernel⟩
abbrev mX0_rightLines : qMr := (yX0_rightLines, cX0_rightLines, 4, (some .int), 2, 0, (6, 143), (6, 144), (1, 6))
theorem mX0_rightLines_ok : qMg mX0_rightLines := ⟨qtb_in 6 _ (List.mem_of_getElem? (i := 145) rfl), by decide +kernel⟩
abbrev mX0_boxOf : qMr := (yX0_boxOf, cX0_boxOf, 6, (some .int), 2, 0, (6, 148), (0, 39), (1, 6))
theorem mX0_boxOf_ok : qMg mX0_boxOf := ⟨qtb_in 6 _ (List.mem_of_getElem? (i := 149) rfl), by decide +kernel⟩
abbrev mX0_findSets : qMr := (yX0_findSets, cX0_findSets, 5, none, 1, 0, (6, 135), (6, 136), (1, 6))
theorem mX0_findSets_ok : qMg mX0_findSets := ⟨qtb_in 6 _ (List.mem_of_getElem? (i := 137) rfl), by decide +kernel⟩
abbrev mX1_init : qMr := (yX1_init, cX1_init, 1, none, 0, 2, (1, 130), (0, 0), (1, 4))
theorem mX1_init_ok : qMg mX1_init := ⟨qtb_in 1 _ (List.mem_of_getElem? (i := 131) rfl), by decide +kernel⟩
abbrev mX1_clear : qMr := (yX1_clear, cX1_clear, 1, none, 0, 0, (4, 42), (4, 43), (1, 4))
theorem mX1_clear_ok : qMg mX1_clear := ⟨qtb_in 4 _ (List.mem_of_getElem? (i := 44) rfl), by decide +kernel⟩
abbrev mX1_copy : qMr := (yX1_copy, cX1_copy, 2, none, 1, 0, (4, 180), (4, 181), (1, 4))
theorem mX1_copy_ok : qMg mX1_copy := ⟨qtb_in 4 _ (List.mem_of_getElem? (i := 182) rfl), by decide +kernel⟩
abbrev mX1_of : qMr := (yX1_of, cX1_of, 4, (some .int), 2, 0, (3, 70), (3, 71), (1, 4))
theorem mX1_of_ok : qMg mX1_of := ⟨qtb_in 3 _ (List.mem_of_getElem? (i := 72) rfl), by decide +kernel⟩
abbrev mX1_set : qMr := (yX1_set, cX1_set, 5, none, 3, 0, (4, 167), (4, 168), (1, 4))
theorem mX1_set_ok : qMg mX1_set := ⟨qtb_in 4 _ (List.mem_of_getElem? (i := 169) rfl), by decide +kernel⟩
abbrev mX1_add : qMr := (yX1_add, cX1_add, 4, none, 2, 0, (4, 163), (4, 164), (1, 4))
theorem mX1_add_ok : qMg mX1_add := ⟨qtb_in 4 _ (List.mem_of_getElem? (i := 165) rfl), by decide +kernel⟩
abbrev mX1_allSolos : qMr := (yX1_allSolos, cX1_allSolos, 3, (some .int), 0, 0, (3, 122), (3, 123), (1, 4))
theorem mX1_allSolos_ok : qMg mX1_allSolos := ⟨qtb_in 3 _ (List.mem_of_getElem? (i := 124) rfl), by decide +kernel⟩
abbrev mX1_isThere : qMr := (yX1_isThere, cX1_isThere, 4, (some .boolean), 2, 0, (6, 84), (0, 37), (1, 4))
theorem mX1_isThere_ok : qMg mX1_isThere := ⟨qtb_in 6 _ (List.mem_of_getElem? (i := 85) rfl), by decide +kernel⟩
abbrev mX1_notHome : qMr := (yX1_notHome, cX1_notHome, 4, (some .int), 1, 0, (6, 101), (6, 102), (1, 4))
theorem mX1_notHome_ok : qMg mX1_notHome := ⟨qtb_in 6 _ (List.mem_of_getElem? (i := 103) rfl), by decide +kernel⟩
abbrev mX1_isNeeded : qMr := (yX1_isNeeded, cX1_isNeeded, 3, (some .boolean), 1, 0, (3, 67), (0, 1), (1, 4))
theorem mX1_isNeeded_ok : qMg mX1_isNeeded := ⟨qtb_in 3 _ (List.mem_of_getElem? (i := 68) rfl), by decide +kernel⟩
abbrev mX1_firstMissing : qMr := (yX1_firstMissing, cX1_firstMissing, 4, (some .int), 0, 0, (3, 62), (3, 63), (1, 4))
theorem mX1_firstMissing_ok : qMg mX1_firstMissing := ⟨qtb_in 3 _ (List.mem_of_getElem? (i := 64) rfl), by decide +kernel⟩
abbrev mX1_goneFrom : qMr := (yX1_goneFrom, cX1_goneFrom, 5, (some .int), 1, 0, (3, 75), (0, 2), (1, 4))
theorem mX1_goneFrom_ok : qMg mX1_goneFrom := ⟨qtb_in 3 _ (List.mem_of_getElem? (i := 76) rfl), by decide +kernel⟩
abbrev mX1_mostVerses : qMr := (yX1_mostVerses, cX1_mostVerses, 5, (some .int), 3, 0, (6, 71), (6, 72), (1, 4))
theorem mX1_mostVerses_ok : qMg mX1_mostVerses := ⟨qtb_in 6 _ (List.mem_of_getElem? (i := 73) rfl), by decide +kernel⟩
abbrev mX1_canSing : qMr := (yX1_canSing, cX1_canSing, 8, (some .boolean), 4, 0, (6, 76), (0, 35), (1, 4))
theorem mX1_canSing_ok : qMg mX1_canSing := ⟨qtb_in 6 _ (List.mem_of_getElem? (i := 77) rfl), by decide +kernel⟩
abbrev mX1_sungIn : qMr := (yX1_sungIn, cX1_sungIn, 7, (some .int), 3, 0, (6, 80), (0, 36), (1, 4))
theorem mX1_sungIn_ok : qMg mX1_sungIn := ⟨qtb_in 6 _ (List.mem_of_getElem? (i := 81) rfl), by decide +kernel⟩
abbrev mX2_init : qMr := (yX2_init, cX2_init, 4, none, 3, 2, (2, 142), (0, 0), (1, 12))
theorem mX2_init_ok : qMg mX2_init := ⟨qtb_in 2 _ (List.mem_of_getElem? (i := 143) rfl), by decide +kernel⟩
abbrev mX2_pass : qMr := (yX2_pass, cX2_pass, 4, none, 1, 0, (6, 168), (6, 169), (1, 12))
theorem mX2_pass_ok : qMg mX2_pass := ⟨qtb_in 6 _ (List.mem_of_getElem? (i := 170) rfl), by decide +kernel⟩
abbrev mX2_draw : qMr := (yX2_draw, cX2_draw, 1, (some .int), 0, 0, (6, 180), (0, 41), (1, 12))
theorem mX2_draw_ok : qMg mX2_draw := ⟨qtb_in 6 _ (List.mem_of_getElem? (i := 181) rfl), by decide +kernel⟩
abbrev mX2_stay : qMr := (yX2_stay, cX2_stay, 7, none, 1, 0, (6, 174), (0, 40), (1, 12))
theorem mX2_stay_ok : qMg mX2_stay := ⟨qtb_in 6 _ (List.mem_of_getElem? (i := 175) rfl), by decide +kernel⟩
abbrev mX2_ringOpens : qMr := (yX2_ringOpens, cX2_ringOpens, 3, (some .boolean), 2, 0, (6, 185), (0, 42), (1, 12))
theorem mX2_ringOpens_ok : qMg mX2_ringOpens := ⟨qtb_in 6 _ (List.mem_of_getElem? (i := 186) rfl), by decide +kernel⟩
abbrev mX2_verseOpens : qMr := (yX2_verseOpens, cX2_verseOpens, 3, (some .boolean), 2, 0, (6, 196), (0, 44), (1, 12))
theorem mX2_verseOpens_ok : qMg mX2_verseOpens := ⟨qtb_in 6 _ (List.mem_of_getElem? (i := 197) rfl), by decide +kernel⟩
abbrev mX2_singsOn : qMr := (yX2_singsOn, cX2_singsOn, 4, (some .boolean), 2, 0, (6, 189), (0, 43), (1, 12))
theorem mX2_singsOn_ok : qMg mX2_singsOn := ⟨qtb_in 6 _ (List.mem_of_getElem? (i := 190) rfl), by decide +kernel⟩
abbrev mX3_init : qMr := (yX3_init, cX3_init, 1, none, 0, 2, (1, 146), (0, 0), (1, 5))
theorem mX3_init_ok : qMg mX3_init := ⟨qtb_in 1 _ (List.mem_of_getElem? (i := 147) rfl), by decide +kernel⟩
abbrev mX3_clear : qMr := (yX3_clear, cX3_clear, 1, none, 0, 0, (4, 185), (4, 186), (1, 5))
theorem mX3_clear_ok : qMg mX3_clear := ⟨qtb_in 4 _ (List.mem_of_getElem? (i := 187) rfl), by decide +kernel⟩
abbrev mX3_stands : qMr := (yX3_stands, cX3_stands, 1, (some .boolean), 0, 0, (3, 107), (3, 108), (1, 5))
theorem mX3_stands_ok : qMg mX3_stands := ⟨qtb_in 3 _ (List.mem_of_getElem? (i := 109) rfl), by decide +kernel⟩
abbrev mX3_copy : qMr := (yX3_copy, cX3_copy, 2, none, 1, 0, (5, 6), (5, 7), (1, 5))
theorem mX3_copy_ok : qMg mX3_copy := ⟨qtb_in 5 _ (List.mem_of_getElem? (i := 8) rfl), by decide +kernel⟩
abbrev mX3_add : qMr := (yX3_add, cX3_add, 3, none, 2, 0, (4, 222), (4, 223), (1, 5))
theorem mX3_add_ok : qMg mX3_add := ⟨qtb_in 4 _ (List.mem_of_getElem? (i := 224) rfl), by decide +kernel⟩
abbrev mX3_worth : qMr := (yX3_worth, cX3_worth, 5, (some .int), 1, 0, (3, 115), (3, 116), (1, 5))
theorem mX3_worth_ok : qMg mX3_worth := ⟨qtb_in 3 _ (List.mem_of_getElem? (i := 117) rfl), by decide +kernel⟩
abbrev mX3_join : qMr := (yX3_join, cX3_join, 3, (some .int), 3, 1, (3, 119), (0, 0), (1, 5))
theorem mX3_join_ok : qMg mX3_join := ⟨qtb_in 3 _ (List.mem_of_getElem? (i := 120) rfl), by decide +kernel⟩
abbrev mX4_init : qMr := (yX4_init, cX4_init, 2, none, 1, 2, (1, 226), (0, 0), (1, 8))
theorem mX4_init_ok : qMg mX4_init := ⟨qtb_in 1 _ (List.mem_of_getElem? (i := 227) rfl), by decide +kernel⟩
abbrev mX4_reads : qMr := (yX4_reads, cX4_reads, 1, (some .boolean), 0, 0, (4, 200), (4, 201), (1, 8))
theorem mX4_reads_ok : qMg mX4_reads := ⟨qtb_in 4 _ (List.mem_of_getElem? (i := 202) rfl), by decide +kernel⟩
abbrev mX4_readSum : qMr := (yX4_readSum, cX4_readSum, 4, none, 1, 0, (4, 206), (0, 20), (1, 8))
theorem mX4_readSum_ok : qMg mX4_readSum := ⟨qtb_in 4 _ (List.mem_of_getElem? (i := 207) rfl), by decide +kernel⟩
abbrev mX4_readProduct : qMr := (yX4_readProduct, cX4_readProduct, 4, none, 1, 0, (4, 210), (0, 21), (1, 8))
theorem mX4_readProduct_ok : qMg mX4_readProduct := ⟨qtb_in 4 _ (List.mem_of_getElem? (i := 211) rfl), by decide +kernel⟩
abbrev mX4_readUnit : qMr := (yX4_readUnit, cX4_readUnit, 2, none, 1, 0, (4, 214), (0, 22), (1, 8))
theorem mX4_readUnit_ok : qMg mX4_readUnit := ⟨qtb_in 4 _ (List.mem_of_getElem? (i := 215) rfl), by decide +kernel⟩
abbrev mX4_readPart : qMr := (yX4_readPart, cX4_readPart, 3, none, 2, 0, (4, 234), (0, 23), (1, 8))
theorem mX4_readPart_ok : qMg mX4_readPart := ⟨qtb_in 4 _ (List.mem_of_getElem? (i := 235) rfl), by decide +kernel⟩
abbrev mX4_readWord : qMr := (yX4_readWord, cX4_readWord, 6, none, 1, 0, (5, 0), (0, 24), (1, 8))
theorem mX4_readWord_ok : qMg mX4_readWord := ⟨qtb_in 5 _ (List.mem_of_getElem? (i := 1) rfl), by decide +kernel⟩
abbrev mX5_init : qMr := (yX5_init, cX5_init, 2, none, 1, 2, (1, 198), (0, 0), (1, 7))
theorem mX5_init_ok : qMg mX5_init := ⟨qtb_in 1 _ (List.mem_of_getElem? (i := 199) rfl), by decide +kernel⟩
abbrev mX5_readsVillage : qMr := (yX5_readsVillage, cX5_readsVillage, 2, (some .boolean), 0, 0, (4, 34), (4, 35), (1, 7))
theorem mX5_readsVillage_ok : qMg mX5_readsVillage := ⟨qtb_in 4 _ (List.mem_of_getElem? (i := 36) rfl), by decide +kernel⟩
abbrev mX5_readClause : qMr := (yX5_readClause, cX5_readClause, 3, none, 1, 0, (4, 63), (0, 12), (1, 7))
theorem mX5_readClause_ok : qMg mX5_readClause := ⟨qtb_in 4 _ (List.mem_of_getElem? (i := 64) rfl), by decide +kernel⟩
abbrev mX5_readDoor : qMr := (yX5_readDoor, cX5_readDoor, 4, none, 0, 0, (4, 133), (0, 15), (1, 7))
theorem mX5_readDoor_ok : qMg mX5_readDoor := ⟨qtb_in 4 _ (List.mem_of_getElem? (i := 134) rfl), by decide +kernel⟩
abbrev mX5_readFact : qMr := (yX5_readFact, cX5_readFact, 4, none, 1, 0, (4, 151), (0, 16), (1, 7))
theorem mX5_readFact_ok : qMg mX5_readFact := ⟨qtb_in 4 _ (List.mem_of_getElem? (i := 152) rfl), by decide +kernel⟩
abbrev mX5_readLight : qMr := (yX5_readLight, cX5_readLight, 4, none, 0, 0, (4, 156), (0, 17), (1, 7))
theorem mX5_readLight_ok : qMg mX5_readLight := ⟨qtb_in 4 _ (List.mem_of_getElem? (i := 157) rfl), by decide +kernel⟩
abbrev mX5_readSinger : qMr := (yX5_readSinger, cX5_readSinger, 3, none, 0, 0, (4, 160), (0, 18), (1, 7))
theorem mX5_readSinger_ok : qMg mX5_readSinger := ⟨qtb_in 4 _ (List.mem_of_getElem? (i := 161) rfl), by decide +kernel⟩
abbrev mX5_readOfSinger : qMr := (yX5_readOfSinger, cX5_readOfSinger, 5, none, 2, 0, (4, 172), (0, 19), (1, 7))
theorem mX5_readOfSinger_ok : qMg mX5_readOfSinger := ⟨qtb_in 4 _ (List.mem_of_getElem? (i := 173) rfl), by decide +kernel⟩
abbrev mX5_readsPlan : qMr := (yX5_readsPlan, cX5_readsPlan, 2, (some .boolean), 0, 0, (5, 18), (5, 19), (1, 7))
theorem mX5_readsPlan_ok : qMg mX5_readsPlan := ⟨qtb_in 5 _ (List.mem_of_getElem? (i := 20) rfl), by decide +kernel⟩
abbrev mX5_readLine : qMr := (yX5_readLine, cX5_readLine, 5, none, 1, 0, (5, 23), (0, 25), (1, 7))
theorem mX5_readLine_ok : qMg mX5_readLine := ⟨qtb_in 5 _ (List.mem_of_getElem? (i := 24) rfl), by decide +kernel⟩
abbrev mX5_readsBook : qMr := (yX5_readsBook, cX5_readsBook, 3, (some .boolean), 1, 0, (5, 43), (5, 44), (1, 7))
theorem mX5_readsBook_ok : qMg mX5_readsBook := ⟨qtb_in 5 _ (List.mem_of_getElem? (i := 45) rfl), by decide +kernel⟩
abbrev mX5_readYear : qMr := (yX5_readYear, cX5_readYear, 6, none, 2, 0, (5, 49), (0, 26), (1, 7))
theorem mX5_readYear_ok : qMg mX5_readYear := ⟨qtb_in 5 _ (List.mem_of_getElem? (i := 50) rfl), by decide +kernel⟩
abbrev mX6_init : qMr := (yX6_init, cX6_init, 1, none, 0, 2, (1, 72), (0, 0), (1, 3))
theorem mX6_init_ok : qMg mX6_init := ⟨qtb_in 1 _ (List.mem_of_getElem? (i := 73) rfl), by decide +kernel⟩
abbrev mX6_clear : qMr := (yX6_clear, cX6_clear, 1, none, 0, 0, (4, 38), (4, 39), (1, 3))
theorem mX6_clear_ok : qMg mX6_clear := ⟨qtb_in 4 _ (List.mem_of_getElem? (i := 40) rfl), by decide +kernel⟩
abbrev mX6_copy : qMr := (yX6_copy, cX6_copy, 2, none, 1, 0, (3, 167), (3, 168), (1, 3))
theorem mX6_copy_ok : qMg mX6_copy := ⟨qtb_in 3 _ (List.mem_of_getElem? (i := 169) rfl), by decide +kernel⟩
abbrev mX6_allDoors : qMr := (yX6_allDoors, cX6_allDoors, 1, (some .int), 0, 0, (6, 139), (6, 140), (1, 3))
theorem mX6_allDoors_ok : qMg mX6_allDoors := ⟨qtb_in 6 _ (List.mem_of_getElem? (i := 141) rfl), by decide +kernel⟩
abbrev mX6_of : qMr := (yX6_of, cX6_of, 4, (some .int), 2, 0, (3, 38), (3, 39), (1, 3))
theorem mX6_of_ok : qMg mX6_of := ⟨qtb_in 3 _ (List.mem_of_getElem? (i := 40) rfl), by decide +kernel⟩
abbrev mX6_setDoor : qMr := (yX6_setDoor, cX6_setDoor, 5, none, 3, 0, (3, 139), (3, 140), (1, 3))
theorem mX6_setDoor_ok : qMg mX6_setDoor := ⟨qtb_in 3 _ (List.mem_of_getElem? (i := 141) rfl), by decide +kernel⟩
abbrev mX6_addDoor : qMr := (yX6_addDoor, cX6_addDoor, 5, none, 3, 0, (4, 146), (4, 147), (1, 3))
theorem mX6_addDoor_ok : qMg mX6_addDoor := ⟨qtb_in 4 _ (List.mem_of_getElem? (i := 148) rfl), by decide +kernel⟩
abbrev mX6_ofLine : qMr := (yX6_ofLine, cX6_ofLine, 4, (some .int), 2, 0, (3, 34), (3, 35), (1, 3))
theorem mX6_ofLine_ok : qMg mX6_ofLine := ⟨qtb_in 3 _ (List.mem_of_getElem? (i := 36) rfl), by decide +kernel⟩
abbrev mX6_setLine : qMr := (yX6_setLine, cX6_setLine, 5, none, 4, 0, (3, 143), (3, 144), (1, 3))
theorem mX6_setLine_ok : qMg mX6_setLine := ⟨qtb_in 3 _ (List.mem_of_getElem? (i := 145) rfl), by decide +kernel⟩
abbrev mX6_hasLineAt : qMr := (yX6_hasLineAt, cX6_hasLineAt, 3, (some .boolean), 1, 0, (5, 26), (5, 27), (1, 3))
theorem mX6_hasLineAt_ok : qMg mX6_hasLineAt := ⟨qtb_in 5 _ (List.mem_of_getElem? (i := 28) rfl), by decide +kernel⟩
abbrev mX6_way : qMr := (yX6_way, cX6_way, 3, (some .int), 1, 0, (3, 30), (3, 31), (1, 3))
theorem mX6_way_ok : qMg mX6_way := ⟨qtb_in 3 _ (List.mem_of_getElem? (i := 32) rfl), by decide +kernel⟩
abbrev mX6_longestAt : qMr := (yX6_longestAt, cX6_longestAt, 4, (some .int), 3, 0, (3, 46), (3, 47), (1, 3))
theorem mX6_longestAt_ok : qMg mX6_longestAt := ⟨qtb_in 3 _ (List.mem_of_getElem? (i := 48) rfl), by decide +kernel⟩
abbrev mX6_isFull : qMr := (yX6_isFull, cX6_isFull, 1, (some .boolean), 0, 0, (6, 222), (6, 223), (1, 3))
theorem mX6_isFull_ok : qMg mX6_isFull := ⟨qtb_in 6 _ (List.mem_of_getElem? (i := 224) rfl), by decide +kernel⟩
abbrev mX6_note : qMr := (yX6_note, cX6_note, 7, none, 5, 0, (6, 226), (6, 227), (1, 3))
theorem mX6_note_ok : qMg mX6_note := ⟨qtb_in 6 _ (List.mem_of_getElem? (i := 228) rfl), by decide +kernel⟩
abbrev mX6_exchange : qMr := (yX6_exchange, cX6_exchange, 6, none, 2, 0, (3, 147), (3, 148), (1, 3))
theorem mX6_exchange_ok : qMg mX6_exchange := ⟨qtb_in 3 _ (List.mem_of_getElem? (i := 149) rfl), by decide +kernel⟩
abbrev mX6_copyLine : qMr := (yX6_copyLine, cX6_copyLine, 3, none, 2, 0, (3, 152), (0, 5), (1, 3))
theorem mX6_copyLine_ok : qMg mX6_copyLine := ⟨qtb_in 3 _ (List.mem_of_getElem? (i := 153) rfl), by decide +kernel⟩
abbrev mX6_takeOut : qMr := (yX6_takeOut, cX6_takeOut, 3, none, 1, 0, (7, 14), (7, 15), (1, 3))
theorem mX6_takeOut_ok : qMg mX6_takeOut := ⟨qtb_in 7 _ (List.mem_of_getElem? (i := 16) rfl), by decide +kernel⟩
abbrev mX6_putIn : qMr := (yX6_putIn, cX6_putIn, 6, none, 4, 0, (3, 156), (0, 6), (1, 3))
theorem mX6_putIn_ok : qMg mX6_putIn := ⟨qtb_in 3 _ (List.mem_of_getElem? (i := 157) rfl), by decide +kernel⟩
abbrev mX6_takeBack : qMr := (yX6_takeBack, cX6_takeBack, 5, none, 0, 0, (3, 134), (3, 135), (1, 3))
theorem mX6_takeBack_ok : qMg mX6_takeBack := ⟨qtb_in 3 _ (List.mem_of_getElem? (i := 136) rfl), by decide +kernel⟩
abbrev mX7_init : qMr := (yX7_init, cX7_init, 3, none, 2, 2, (2, 97), (0, 0), (1, 11))
theorem mX7_init_ok : qMg mX7_init := ⟨qtb_in 2 _ (List.mem_of_getElem? (i := 98) rfl), by decide +kernel⟩
abbrev mX7_foundAt : qMr := (yX7_foundAt, cX7_foundAt, 2, (some .int), 1, 0, (5, 230), (5, 231), (1, 11))
theorem mX7_foundAt_ok : qMg mX7_foundAt := ⟨qtb_in 5 _ (List.mem_of_getElem? (i := 232) rfl), by decide +kernel⟩
abbrev mX7_seek : qMr := (yX7_seek, cX7_seek, 5, none, 1, 0, (5, 196), (5, 197), (1, 11))
theorem mX7_seek_ok : qMg mX7_seek := ⟨qtb_in 5 _ (List.mem_of_getElem? (i := 198) rfl), by decide +kernel⟩
abbrev mX7_listWays : qMr := (yX7_listWays, cX7_listWays, 8, (some .long), 2, 0, (5, 201), (0, 31), (1, 11))
theorem mX7_listWays_ok : qMg mX7_listWays := ⟨qtb_in 5 _ (List.mem_of_getElem? (i := 202) rfl), by decide +kernel⟩
abbrev mX7_addWay : qMr := (yX7_addWay, cX7_addWay, 8, none, 3, 0, (5, 207), (0, 32), (1, 11))
theorem mX7_addWay_ok : qMg mX7_addWay := ⟨qtb_in 5 _ (List.mem_of_getElem? (i := 208) rfl), by decide +kernel⟩
abbrev mX7_tryDoor : qMr := (yX7_tryDoor, cX7_tryDoor, 12, none, 5, 0, (5, 213), (0, 33), (1, 11))
theorem mX7_tryDoor_ok : qMg mX7_tryDoor := ⟨qtb_in 5 _ (List.mem_of_getElem? (i := 214) rfl), by decide +kernel⟩
abbrev mX7_street : qMr := (yX7_street, cX7_street, 5, (some .int), 2, 0, (5, 217), (0, 34), (1, 11))
theorem mX7_street_ok : qMg mX7_street := ⟨qtb_in 5 _ (List.mem_of_getElem? (i := 218) rfl), by decide +kernel⟩
abbrev mX8_init : qMr := (yX8_init, cX8_init, 1, none, 0, 2, (1, 36), (0, 0), (1, 2))
theorem mX8_init_ok : qMg mX8_init := ⟨qtb_in 1 _ (List.mem_of_getElem? (i := 37) rfl), by decide +kernel⟩
abbrev mX8_hasRoom : qMr := (yX8_hasRoom, cX8_hasRoom, 1, (some .boolean), 0, 0, (3, 6), (3, 7), (1, 2))
theorem mX8_hasRoom_ok : qMg mX8_hasRoom := ⟨qtb_in 3 _ (List.mem_of_getElem? (i := 8) rfl), by decide +kernel⟩
abbrev mX8_put : qMr := (yX8_put, cX8_put, 3, none, 1, 0, (3, 10), (3, 11), (1, 2))
theorem mX8_put_ok : qMg mX8_put := ⟨qtb_in 3 _ (List.mem_of_getElem? (i := 12) rfl), by decide +kernel⟩
abbrev mX8_begin : qMr := (yX8_begin, cX8_begin, 2, none, 1, 0, (4, 30), (4, 31), (1, 2))
theorem mX8_begin_ok : qMg mX8_begin := ⟨qtb_in 4 _ (List.mem_of_getElem? (i := 32) rfl), by decide +kernel⟩
abbrev mX8_isFaulty : qMr := (yX8_isFaulty, cX8_isFaulty, 1, (some .boolean), 0, 0, (4, 46), (4, 47), (1, 2))
theorem mX8_isFaulty_ok : qMg mX8_isFaulty := ⟨qtb_in 4 _ (List.mem_of_getElem? (i := 48) rfl), by decide +kernel⟩
abbrev mX8_fail : qMr := (yX8_fail, cX8_fail, 3, none, 2, 0, (4, 127), (4, 128), (1, 2))
theorem mX8_fail_ok : qMg mX8_fail := ⟨qtb_in 4 _ (List.mem_of_getElem? (i := 129) rfl), by decide +kernel⟩
abbrev mX8_byteAt : qMr := (yX8_byteAt, cX8_byteAt, 2, (some .int), 1, 0, (4, 59), (0, 11), (1, 2))
theorem mX8_byteAt_ok : qMg mX8_byteAt := ⟨qtb_in 4 _ (List.mem_of_getElem? (i := 60) rfl), by decide +kernel⟩
abbrev mX8_look : qMr := (yX8_look, cX8_look, 2, (some .int), 0, 0, (4, 54), (4, 55), (1, 2))
theorem mX8_look_ok : qMg mX8_look := ⟨qtb_in 4 _ (List.mem_of_getElem? (i := 56) rfl), by decide +kernel⟩
abbrev mX8_step : qMr := (yX8_step, cX8_step, 1, none, 0, 0, (4, 229), (4, 230), (1, 2))
theorem mX8_step_ok : qMg mX8_step := ⟨qtb_in 4 _ (List.mem_of_getElem? (i := 231) rfl), by decide +kernel⟩
abbrev mX8_isOver : qMr := (yX8_isOver, cX8_isOver, 1, (some .boolean), 0, 0, (4, 50), (4, 51), (1, 2))
theorem mX8_isOver_ok : qMg mX8_isOver := ⟨qtb_in 4 _ (List.mem_of_getElem? (i := 52) rfl), by decide +kernel⟩
abbrev mX8_isDigit : qMr := (yX8_isDigit, cX8_isDigit, 2, (some .boolean), 0, 0, (4, 217), (4, 218), (1, 2))
theorem mX8_isDigit_ok : qMg mX8_isDigit := ⟨qtb_in 4 _ (List.mem_of_getElem? (i := 219) rfl), by decide +kernel⟩
abbrev mX8_isLetter : qMr := (yX8_isLetter, cX8_isLetter, 2, (some .boolean), 0, 0, (5, 30), (5, 31), (1, 2))
theorem mX8_isLetter_ok : qMg mX8_isLetter := ⟨qtb_in 5 _ (List.mem_of_getElem? (i := 32) rfl), by decide +kernel⟩
abbrev mX8_sign : qMr := (yX8_sign, cX8_sign, 2, none, 1, 0, (4, 176), (4, 177), (1, 2))
theorem mX8_sign_ok : qMg mX8_sign := ⟨qtb_in 4 _ (List.mem_of_getElem? (i := 178) rfl), by decide +kernel⟩
abbrev mX8_number : qMr := (yX8_number, cX8_number, 6, (some .int), 2, 0, (4, 141), (4, 142), (1, 2))
theorem mX8_number_ok : qMg mX8_number := ⟨qtb_in 4 _ (List.mem_of_getElem? (i := 143) rfl), by decide +kernel⟩
abbrev mX8_word : qMr := (yX8_word, cX8_word, 4, (some .int), 1, 0, (4, 67), (4, 68), (1, 2))
theorem mX8_word_ok : qMg mX8_word := ⟨qtb_in 4 _ (List.mem_of_getElem? (i := 69) rfl), by decide +kernel⟩
abbrev mX8_indexIn : qMr := (yX8_indexIn, cX8_indexIn, 6, (some .int), 1, 0, (4, 72), (0, 13), (1, 2))
theorem mX8_indexIn_ok : qMg mX8_indexIn := ⟨qtb_in 4 _ (List.mem_of_getElem? (i := 73) rfl), by decide +kernel⟩
abbrev mX8_isWord : qMr := (yX8_isWord, cX8_isWord, 5, (some .boolean), 3, 0, (4, 124), (0, 14), (1, 2))
theorem mX8_isWord_ok : qMg mX8_isWord := ⟨qtb_in 4 _ (List.mem_of_getElem? (i := 125) rfl), by decide +kernel⟩
abbrev mX9_init : qMr := (yX9_init, cX9_init, 4, none, 3, 2, (2, 41), (0, 0), (1, 10))
theorem mX9_init_ok : qMg mX9_init := ⟨qtb_in 2 _ (List.mem_of_getElem? (i := 42) rfl), by decide +kernel⟩
abbrev mX9_reckon : qMr := (yX9_reckon, cX9_reckon, 3, none, 1, 0, (5, 159), (5, 160), (1, 10))
theorem mX9_reckon_ok : qMg mX9_reckon := ⟨qtb_in 5 _ (List.mem_of_getElem? (i := 161) rfl), by decide +kernel⟩
abbrev mX9_visitBy : qMr := (yX9_visitBy, cX9_visitBy, 2, none, 1, 0, (3, 91), (0, 3), (1, 10))
theorem mX9_visitBy_ok : qMg mX9_visitBy := ⟨qtb_in 3 _ (List.mem_of_getElem? (i := 92) rfl), by decide +kernel⟩
abbrev mX9_timesWhole : qMr := (yX9_timesWhole, cX9_timesWhole, 2, (some .long), 1, 0, (5, 164), (5, 165), (1, 10))
theorem mX9_timesWhole_ok : qMg mX9_timesWhole := ⟨qtb_in 5 _ (List.mem_of_getElem? (i := 166) rfl), by decide +kernel⟩
abbrev mX9_minutesAt : qMr := (yX9_minutesAt, cX9_minutesAt, 2, (some .int), 1, 0, (3, 27), (0, 0), (1, 10))
theorem mX9_minutesAt_ok : qMg mX9_minutesAt := ⟨qtb_in 3 _ (List.mem_of_getElem? (i := 28) rfl), by decide +kernel⟩
abbrev mX9_allMinutes : qMr := (yX9_allMinutes, cX9_allMinutes, 3, (some .int), 0, 0, (3, 22), (3, 23), (1, 10))
theorem mX9_allMinutes_ok : qMg mX9_allMinutes := ⟨qtb_in 3 _ (List.mem_of_getElem? (i := 24) rfl), by decide +kernel⟩
abbrev mX9_linesInTime : qMr := (yX9_linesInTime, cX9_linesInTime, 3, (some .int), 0, 0, (3, 54), (3, 55), (1, 10))
theorem mX9_linesInTime_ok : qMg mX9_linesInTime := ⟨qtb_in 3 _ (List.mem_of_getElem? (i := 56) rfl), by decide +kernel⟩
abbrev mX9_chooseSolos : qMr := (yX9_chooseSolos, cX9_chooseSolos, 3, none, 0, 0, (3, 82), (3, 83), (1, 10))
theorem mX9_chooseSolos_ok : qMg mX9_chooseSolos := ⟨qtb_in 3 _ (List.mem_of_getElem? (i := 84) rfl), by decide +kernel⟩
abbrev mX9_takeSolo : qMr := (yX9_takeSolo, cX9_takeSolo, 3, none, 0, 0, (3, 127), (0, 4), (1, 10))
theorem mX9_takeSolo_ok : qMg mX9_takeSolo := ⟨qtb_in 3 _ (List.mem_of_getElem? (i := 128) rfl), by decide +kernel⟩
abbrev mX9_standInRow : qMr := (yX9_standInRow, cX9_standInRow, 4, none, 0, 0, (6, 124), (0, 38), (1, 10))
theorem mX9_standInRow_ok : qMg mX9_standInRow := ⟨qtb_in 6 _ (List.mem_of_getElem? (i := 125) rfl), by decide +kernel⟩
abbrev mX9_playParty : qMr := (yX9_playParty, cX9_playParty, 7, none, 0, 0, (6, 119), (6, 120), (1, 10))
theorem mX9_playParty_ok : qMg mX9_playParty := ⟨qtb_in 6 _ (List.mem_of_getElem? (i := 121) rfl), by decide +kernel⟩
abbrev mX10_init : qMr := (yX10_init, cX10_init, 4, none, 3, 2, (2, 2), (0, 0), (1, 9))
theorem mX10_init_ok : qMg mX10_init := ⟨qtb_in 2 _ (List.mem_of_getElem? (i := 3) rfl), by decide +kernel⟩
abbrev mX10_gift : qMr := (yX10_gift, cX10_gift, 5, (some .int), 3, 0, (3, 103), (3, 104), (1, 9))
theorem mX10_gift_ok : qMg mX10_gift := ⟨qtb_in 3 _ (List.mem_of_getElem? (i := 105) rfl), by decide +kernel⟩
abbrev mX10_names : qMr := (yX10_names, cX10_names, 7, (some (.array .int)), 6, 0, (3, 111), (3, 112), (1, 9))
theorem mX10_names_ok : qMg mX10_names := ⟨qtb_in 3 _ (List.mem_of_getElem? (i := 113) rfl), by decide +kernel⟩
abbrev mX10_reckon : qMr := (yX10_reckon, cX10_reckon, 15, none, 4, 0, (3, 94), (3, 95), (1, 9))
theorem mX10_reckon_ok : qMg mX10_reckon := ⟨qtb_in 3 _ (List.mem_of_getElem? (i := 96) rfl), by decide +kernel⟩
abbrev mX10_timesWhole : qMr := (yX10_timesWhole, cX10_timesWhole, 2, (some .long), 1, 0, (5, 141), (5, 142), (1, 9))
theorem mX10_timesWhole_ok : qMg mX10_timesWhole := ⟨qtb_in 5 _ (List.mem_of_getElem? (i := 143) rfl), by decide +kernel⟩
abbrev mX10_inAndVain : qMr := (yX10_inAndVain, cX10_inAndVain, 4, (some .long), 3, 0, (6, 8), (6, 9), (1, 9))
theorem mX10_inAndVain_ok : qMg mX10_inAndVain := ⟨qtb_in 6 _ (List.mem_of_getElem? (i := 10) rfl), by decide +kernel⟩
abbrev mX10_allVain : qMr := (yX10_allVain, cX10_allVain, 6, (some .long), 3, 0, (6, 18), (6, 19), (1, 9))
theorem mX10_allVain_ok : qMg mX10_allVain := ⟨qtb_in 6 _ (List.mem_of_getElem? (i := 20) rfl), by decide +kernel⟩
abbrev mX10_asSeen : qMr := (yX10_asSeen, cX10_asSeen, 2, (some .long), 2, 1, (6, 12), (0, 0), (1, 9))
theorem mX10_asSeen_ok : qMg mX10_asSeen := ⟨qtb_in 6 _ (List.mem_of_getElem? (i := 13) rfl), by decide +kernel⟩
abbrev mX10_power : qMr := (yX10_power, cX10_power, 6, (some .long), 2, 1, (6, 15), (0, 0), (1, 9))
theorem mX10_power_ok : qMg mX10_power := ⟨qtb_in 6 _ (List.mem_of_getElem? (i := 16) rfl), by decide +kernel⟩
abbrev mX10_bringsLess : qMr := (yX10_bringsLess, cX10_bringsLess, 9, (some .boolean), 4, 0, (6, 38), (6, 39), (1, 9))
theorem mX10_bringsLess_ok : qMg mX10_bringsLess := ⟨qtb_in 6 _ (List.mem_of_getElem? (i := 40) rfl), by decide +kernel⟩
abbrev mX11_init : qMr := (yX11_init, cX11_init, 2, none, 0, 2, (1, 28), (0, 0), (1, 1))
theorem mX11_init_ok : qMg mX11_init := ⟨qtb_in 1 _ (List.mem_of_getElem? (i := 29) rfl), by decide +kernel⟩
abbrev mX11_feed : qMr := (yX11_feed, cX11_feed, 6, (some .int), 5, 0, (3, 2), (3, 3), (1, 1))
theorem mX11_feed_ok : qMg mX11_feed := ⟨qtb_in 3 _ (List.mem_of_getElem? (i := 4) rfl), by decide +kernel⟩
abbrev mX11_village : qMr := (yX11_village, cX11_village, 2, (some .int), 1, 0, (3, 190), (3, 191), (1, 1))
theorem mX11_village_ok : qMg mX11_village := ⟨qtb_in 3 _ (List.mem_of_getElem? (i := 192) rfl), by decide +kernel⟩
abbrev mX11_law : qMr := (yX11_law, cX11_law, 4, (some .int), 2, 0, (4, 196), (4, 197), (1, 1))
theorem mX11_law_ok : qMg mX11_law := ⟨qtb_in 4 _ (List.mem_of_getElem? (i := 198) rfl), by decide +kernel⟩
abbrev mX11_plan : qMr := (yX11_plan, cX11_plan, 2, (some .int), 1, 0, (5, 14), (5, 15), (1, 1))
theorem mX11_plan_ok : qMg mX11_plan := ⟨qtb_in 5 _ (List.mem_of_getElem? (i := 16) rfl), by decide +kernel⟩
abbrev mX11_book : qMr := (yX11_book, cX11_book, 2, (some .int), 1, 0, (5, 39), (5, 40), (1, 1))
theorem mX11_book_ok : qMg mX11_book := ⟨qtb_in 5 _ (List.mem_of_getElem? (i := 41) rfl), by decide +kernel⟩
abbrev mX11_fault : qMr := (yX11_fault, cX11_fault, 1, (some .int), 0, 0, (3, 14), (3, 15), (1, 1))
theorem mX11_fault_ok : qMg mX11_fault := ⟨qtb_in 3 _ (List.mem_of_getElem? (i := 16) rfl), by decide +kernel⟩
abbrev mX11_told : qMr := (yX11_told, cX11_told, 2, (some .int), 1, 0, (5, 67), (5, 68), (1, 1))
theorem mX11_told_ok : qMg mX11_told := ⟨qtb_in 5 _ (List.mem_of_getElem? (i := 69) rfl), by decide +kernel⟩
abbrev mX11_door : qMr := (yX11_door, cX11_door, 3, (some .int), 2, 0, (5, 75), (5, 76), (1, 1))
theorem mX11_door_ok : qMg mX11_door := ⟨qtb_in 5 _ (List.mem_of_getElem? (i := 77) rfl), by decide +kernel⟩
abbrev mX11_singer : qMr := (yX11_singer, cX11_singer, 3, (some .int), 2, 0, (5, 107), (5, 108), (1, 1))
theorem mX11_singer_ok : qMg mX11_singer := ⟨qtb_in 5 _ (List.mem_of_getElem? (i := 109) rfl), by decide +kernel⟩
abbrev mX11_line : qMr := (yX11_line, cX11_line, 3, (some .int), 2, 0, (5, 115), (5, 116), (1, 1))
theorem mX11_line_ok : qMg mX11_line := ⟨qtb_in 5 _ (List.mem_of_getElem? (i := 117) rfl), by decide +kernel⟩
abbrev mX11_gives : qMr := (yX11_gives, cX11_gives, 4, (some .int), 3, 0, (5, 128), (5, 129), (1, 1))
theorem mX11_gives_ok : qMg mX11_gives := ⟨qtb_in 5 _ (List.mem_of_getElem? (i := 130) rfl), by decide +kernel⟩
abbrev mX11_mean : qMr := (yX11_mean, cX11_mean, 6, (some .long), 5, 0, (5, 136), (5, 137), (1, 1))
theorem mX11_mean_ok : qMg mX11_mean := ⟨qtb_in 5 _ (List.mem_of_getElem? (i := 138) rfl), by decide +kernel⟩
abbrev mX11_planned : qMr := (yX11_planned, cX11_planned, 3, (some .long), 2, 0, (5, 155), (5, 156), (1, 1))
theorem mX11_planned_ok : qMg mX11_planned := ⟨qtb_in 5 _ (List.mem_of_getElem? (i := 157) rfl), by decide +kernel⟩
abbrev mX11_longest : qMr := (yX11_longest, cX11_longest, 1, (some .int), 0, 0, (3, 18), (3, 19), (1, 1))
theorem mX11_longest_ok : qMg mX11_longest := ⟨qtb_in 3 _ (List.mem_of_getElem? (i := 20) rfl), by decide +kernel⟩
abbrev mX11_sure : qMr := (yX11_sure, cX11_sure, 1, (some .int), 0, 0, (3, 50), (3, 51), (1, 1))
theorem mX11_sure_ok : qMg mX11_sure := ⟨qtb_in 3 _ (List.mem_of_getElem? (i := 52) rfl), by decide +kernel⟩
abbrev mX11_best : qMr := (yX11_best, cX11_best, 3, (some .long), 2, 0, (5, 172), (5, 173), (1, 1))
theorem mX11_best_ok : qMg mX11_best := ⟨qtb_in 5 _ (List.mem_of_getElem? (i := 174) rfl), by decide +kernel⟩
abbrev mX11_bestAt : qMr := (yX11_bestAt, cX11_bestAt, 3, (some .int), 2, 0, (5, 226), (5, 227), (1, 1))
theorem mX11_bestAt_ok : qMg mX11_bestAt := ⟨qtb_in 5 _ (List.mem_of_getElem? (i := 228) rfl), by decide +kernel⟩
abbrev mX11_bestLong : qMr := (yX11_bestLong, cX11_bestLong, 2, (some .int), 1, 0, (5, 237), (5, 238), (1, 1))
theorem mX11_bestLong_ok : qMg mX11_bestLong := ⟨qtb_in 5 _ (List.mem_of_getElem? (i := 239) rfl), by decide +kernel⟩
abbrev mX11_home : qMr := (yX11_home, cX11_home, 5, (some .long), 4, 0, (6, 4), (6, 5), (1, 1))
theorem mX11_home_ok : qMg mX11_home := ⟨qtb_in 6 _ (List.mem_of_getElem? (i := 6) rfl), by decide +kernel⟩
abbrev mX11_another : qMr := (yX11_another, cX11_another, 7, (some .long), 4, 0, (6, 26), (6, 27), (1, 1))
theorem mX11_another_ok : qMg mX11_another := ⟨qtb_in 6 _ (List.mem_of_getElem? (i := 28) rfl), by decide +kernel⟩
abbrev mX11_lineAt : qMr := (yX11_lineAt, cX11_lineAt, 5, (some .int), 3, 0, (6, 34), (6, 35), (1, 1))
theorem mX11_lineAt_ok : qMg mX11_lineAt := ⟨qtb_in 6 _ (List.mem_of_getElem? (i := 36) rfl), by decide +kernel⟩
abbrev mX11_ring : qMr := (yX11_ring, cX11_ring, 9, (some .int), 2, 0, (6, 46), (6, 47), (1, 1))
theorem mX11_ring_ok : qMg mX11_ring := ⟨qtb_in 6 _ (List.mem_of_getElem? (i := 48) rfl), by decide +kernel⟩
abbrev mX11_pays : qMr := (yX11_pays, cX11_pays, 5, (some .boolean), 4, 0, (6, 53), (6, 54), (1, 1))
theorem mX11_pays_ok : qMg mX11_pays := ⟨qtb_in 6 _ (List.mem_of_getElem? (i := 55) rfl), by decide +kernel⟩
abbrev mX11_stop : qMr := (yX11_stop, cX11_stop, 3, (some .int), 1, 0, (6, 60), (6, 61), (1, 1))
theorem mX11_stop_ok : qMg mX11_stop := ⟨qtb_in 6 _ (List.mem_of_getElem? (i := 62) rfl), by decide +kernel⟩
abbrev mX11_lasts : qMr := (yX11_lasts, cX11_lasts, 3, (some .int), 2, 0, (6, 67), (6, 68), (1, 1))
theorem mX11_lasts_ok : qMg mX11_lasts := ⟨qtb_in 6 _ (List.mem_of_getElem? (i := 69) rfl), by decide +kernel⟩
abbrev mX11_without : qMr := (yX11_without, cX11_without, 4, (some .int), 3, 0, (6, 90), (6, 91), (1, 1))
theorem mX11_without_ok : qMg mX11_without := ⟨qtb_in 6 _ (List.mem_of_getElem? (i := 92) rfl), by decide +kernel⟩
abbrev mX11_there : qMr := (yX11_there, cX11_there, 2, (some .int), 1, 0, (6, 97), (6, 98), (1, 1))
theorem mX11_there_ok : qMg mX11_there := ⟨qtb_in 6 _ (List.mem_of_getElem? (i := 99) rfl), by decide +kernel⟩
abbrev mX11_flat : qMr := (yX11_flat, cX11_flat, 1, (some .int), 0, 0, (3, 58), (3, 59), (1, 1))
theorem mX11_flat_ok : qMg mX11_flat := ⟨qtb_in 3 _ (List.mem_of_getElem? (i := 60) rfl), by decide +kernel⟩
abbrev mX11_solos : qMr := (yX11_solos, cX11_solos, 1, (some .int), 0, 0, (3, 78), (3, 79), (1, 1))
theorem mX11_solos_ok : qMg mX11_solos := ⟨qtb_in 3 _ (List.mem_of_getElem? (i := 80) rfl), by decide +kernel⟩
abbrev mX11_soloJoy : qMr := (yX11_soloJoy, cX11_soloJoy, 2, (some .long), 1, 0, (6, 108), (6, 109), (1, 1))
theorem mX11_soloJoy_ok : qMg mX11_soloJoy := ⟨qtb_in 6 _ (List.mem_of_getElem? (i := 110) rfl), by decide +kernel⟩
abbrev mX11_party : qMr := (yX11_party, cX11_party, 2, (some .int), 1, 0, (6, 115), (6, 116), (1, 1))
theorem mX11_party_ok : qMg mX11_party := ⟨qtb_in 6 _ (List.mem_of_getElem? (i := 117) rfl), by decide +kernel⟩
abbrev mX11_gave : qMr := (yX11_gave, cX11_gave, 2, (some .int), 1, 0, (6, 131), (6, 132), (1, 1))
theorem mX11_gave_ok : qMg mX11_gave := ⟨qtb_in 6 _ (List.mem_of_getElem? (i := 133) rfl), by decide +kernel⟩
abbrev mX11_right : qMr := (yX11_right, cX11_right, 2, (some .int), 1, 0, (6, 155), (6, 156), (1, 1))
theorem mX11_right_ok : qMg mX11_right := ⟨qtb_in 6 _ (List.mem_of_getElem? (i := 157) rfl), by decide +kernel⟩
abbrev mX11_evening : qMr := (yX11_evening, cX11_evening, 3, (some .int), 2, 0, (6, 164), (6, 165), (1, 1))
theorem mX11_evening_ok : qMg mX11_evening := ⟨qtb_in 6 _ (List.mem_of_getElem? (i := 166) rfl), by decide +kernel⟩
abbrev mX11_span : qMr := (yX11_span, cX11_span, 10, (some .int), 4, 0, (6, 203), (6, 204), (1, 1))
theorem mX11_span_ok : qMg mX11_span := ⟨qtb_in 6 _ (List.mem_of_getElem? (i := 205) rfl), by decide +kernel⟩
abbrev mX11_finest : qMr := (yX11_finest, cX11_finest, 6, (some .int), 2, 0, (6, 210), (6, 211), (1, 1))
theorem mX11_finest_ok : qMg mX11_finest := ⟨qtb_in 6 _ (List.mem_of_getElem? (i := 212) rfl), by decide +kernel⟩
abbrev mX11_change : qMr := (yX11_change, cX11_change, 5, (some .int), 3, 0, (6, 217), (6, 218), (1, 1))
theorem mX11_change_ok : qMg mX11_change := ⟨qtb_in 6 _ (List.mem_of_getElem? (i := 219) rfl), by decide +kernel⟩
abbrev mX11_sing : qMr := (yX11_sing, cX11_sing, 4, (some .int), 3, 0, (6, 234), (6, 235), (1, 1))
theorem mX11_sing_ok : qMg mX11_sing := ⟨qtb_in 6 _ (List.mem_of_getElem? (i := 236) rfl), by decide +kernel⟩
abbrev mX11_swap : qMr := (yX11_swap, cX11_swap, 3, (some .int), 2, 0, (7, 2), (7, 3), (1, 1))
theorem mX11_swap_ok : qMg mX11_swap := ⟨qtb_in 7 _ (List.mem_of_getElem? (i := 4) rfl), by decide +kernel⟩
abbrev mX11_skip : qMr := (yX11_skip, cX11_skip, 2, (some .int), 1, 0, (7, 10), (7, 11), (1, 1))
theorem mX11_skip_ok : qMg mX11_skip := ⟨qtb_in 7 _ (List.mem_of_getElem? (i := 12) rfl), by decide +kernel⟩
abbrev mX11_until : qMr := (yX11_until, cX11_until, 3, (some .int), 1, 0, (7, 21), (7, 22), (1, 1))
theorem mX11_until_ok : qMg mX11_until := ⟨qtb_in 7 _ (List.mem_of_getElem? (i := 23) rfl), by decide +kernel⟩
abbrev mX11_undo : qMr := (yX11_undo, cX11_undo, 1, (some .int), 0, 0, (3, 130), (3, 131), (1, 1))
theorem mX11_undo_ok : qMg mX11_undo := ⟨qtb_in 3 _ (List.mem_of_getElem? (i := 132) rfl), by decide +kernel⟩
abbrev mX11_image : qMr := (yX11_image, cX11_image, 2, (some .int), 0, 0, (3, 159), (3, 160), (1, 1))
theorem mX11_image_ok : qMg mX11_image := ⟨qtb_in 3 _ (List.mem_of_getElem? (i := 161) rfl), by decide +kernel⟩
abbrev mX11_restore : qMr := (yX11_restore, cX11_restore, 2, (some .int), 0, 0, (3, 174), (3, 175), (1, 1))
theorem mX11_restore_ok : qMg mX11_restore := ⟨qtb_in 3 _ (List.mem_of_getElem? (i := 176) rfl), by decide +kernel⟩
abbrev mX11_status : qMr := (yX11_status, cX11_status, 2, (some .int), 1, 0, (3, 178), (3, 179), (1, 1))
theorem mX11_status_ok : qMg mX11_status := ⟨qtb_in 3 _ (List.mem_of_getElem? (i := 180) rfl), by decide +kernel⟩
abbrev mX11_count : qMr := (yX11_count, cX11_count, 2, (some .int), 1, 0, (3, 182), (3, 183), (1, 1))
theorem mX11_count_ok : qMg mX11_count := ⟨qtb_in 3 _ (List.mem_of_getElem? (i := 184) rfl), by decide +kernel⟩
abbrev mX11_imageAt : qMr := (yX11_imageAt, cX11_imageAt, 2, (some (.object "CarolDoors$Round")), 1, 0, (3, 164), (0, 7), (1, 1))
theorem mX11_imageAt_ok : qMg mX11_imageAt := ⟨qtb_in 3 _ (List.mem_of_getElem? (i := 165) rfl), by decide +kernel⟩
abbrev mX11_needFound : qMr := (yX11_needFound, cX11_needFound, 2, none, 1, 0, (5, 84), (0, 28), (1, 1))
theorem mX11_needFound_ok : qMg mX11_needFound := ⟨qtb_in 5 _ (List.mem_of_getElem? (i := 85) rfl), by decide +kernel⟩
abbrev mX11_needDoor : qMr := (yX11_needDoor, cX11_needDoor, 2, none, 1, 0, (5, 80), (0, 27), (1, 1))
theorem mX11_needDoor_ok : qMg mX11_needDoor := ⟨qtb_in 5 _ (List.mem_of_getElem? (i := 81) rfl), by decide +kernel⟩
abbrev mX11_needLine : qMr := (yX11_needLine, cX11_needLine, 2, none, 1, 0, (5, 120), (0, 29), (1, 1))
theorem mX11_needLine_ok : qMg mX11_needLine := ⟨qtb_in 5 _ (List.mem_of_getElem? (i := 121) rfl), by decide +kernel⟩
abbrev mX11_need : qMr := (yX11_need, cX11_need, 2, none, 1, 0, (3, 200), (0, 9), (1, 1))
theorem mX11_need_ok : qMg mX11_need := ⟨qtb_in 3 _ (List.mem_of_getElem? (i := 201) rfl), by decide +kernel⟩
abbrev mX11_needText : qMr := (yX11_needText, cX11_needText, 3, none, 2, 0, (3, 195), (0, 8), (1, 1))
theorem mX11_needText_ok : qMg mX11_needText := ⟨qtb_in 3 _ (List.mem_of_getElem? (i := 196) rfl), by decide +kernel⟩
abbrev mX11_needFewDoors : qMr := (yX11_needFewDoors, cX11_needFewDoors, 1, none, 0, 0, (5, 177), (0, 30), (1, 1))
theorem mX11_needFewDoors_ok : qMg mX11_needFewDoors := ⟨qtb_in 5 _ (List.mem_of_getElem? (i := 178) rfl), by decide +kernel⟩
abbrev mX11_within : qMr := (yX11_within, cX11_within, 3, (some .boolean), 3, 1, (3, 87), (0, 0), (1, 1))
theorem mX11_within_ok : qMg mX11_within := ⟨qtb_in 3 _ (List.mem_of_getElem? (i := 88) rfl), by decide +kernel⟩
abbrev mX11_mostOf : qMr := (yX11_mostOf, cX11_mostOf, 1, (some .int), 1, 1, (4, 136), (0, 0), (1, 1))
theorem mX11_mostOf_ok : qMg mX11_mostOf := ⟨qtb_in 4 _ (List.mem_of_getElem? (i := 137) rfl), by decide +kernel⟩
abbrev mX11_apart : qMr := (yX11_apart, cX11_apart, 2, (some .int), 2, 1, (3, 42), (0, 0), (1, 1))
theorem mX11_apart_ok : qMg mX11_apart := ⟨qtb_in 3 _ (List.mem_of_getElem? (i := 43) rfl), by decide +kernel⟩
abbrev mX11_leastTerms : qMr := (yX11_leastTerms, cX11_leastTerms, 7, (some .long), 3, 1, (5, 146), (0, 0), (1, 1))
theorem mX11_leastTerms_ok : qMg mX11_leastTerms := ⟨qtb_in 5 _ (List.mem_of_getElem? (i := 147) rfl), by decide +kernel⟩
abbrev mX11_commonDivisor : qMr := (yX11_commonDivisor, cX11_commonDivisor, 7, (some .long), 2, 1, (5, 149), (0, 0), (1, 1))
theorem mX11_commonDivisor_ok : qMg mX11_commonDivisor := ⟨qtb_in 5 _ (List.mem_of_getElem? (i := 150) rfl), by decide +kernel⟩
abbrev mX12_thrown : qMr := (yX12_thrown, cX12_thrown, 1, (some .int), 0, 0, (7, 25), (7, 26), (1, 13))
theorem mX12_thrown_ok : qMg mX12_thrown := ⟨qtb_in 7 _ (List.mem_of_getElem? (i := 27) rfl), by decide +kernel⟩
abbrev mX12_may : qMr := (yX12_may, cX12_may, 4, (some .boolean), 3, 0, (8, 18), (0, 48), (1, 13))
theorem mX12_may_ok : qMg mX12_may := ⟨qtb_in 8 _ (List.mem_of_getElem? (i := 19) rfl), by decide +kernel⟩
abbrev mX12_within : qMr := (yX12_within, cX12_within, 3, (some .boolean), 3, 1, (8, 116), (0, 0), (1, 13))
theorem mX12_within_ok : qMg mX12_within := ⟨qtb_in 8 _ (List.mem_of_getElem? (i := 117) rfl), by decide +kernel⟩
abbrev mX12_init : qMr := (yX12_init, cX12_init, 1, none, 0, 2, (7, 31), (0, 0), (1, 13))
theorem mX12_init_ok : qMg mX12_init := ⟨qtb_in 7 _ (List.mem_of_getElem? (i := 32) rfl), by decide +kernel⟩
abbrev mX12_feed : qMr := (yX12_feed, cX12_feed, 8, (some .int), 5, 0, (8, 5), (8, 6), (1, 13))
theorem mX12_feed_ok : qMg mX12_feed := ⟨qtb_in 8 _ (List.mem_of_getElem? (i := 7) rfl), by decide +kernel⟩
abbrev mX12_fine : qMr := (yX12_fine, cX12_fine, 1, (some .boolean), 0, 0, (8, 26), (0, 50), (1, 13))
theorem mX12_fine_ok : qMg mX12_fine := ⟨qtb_in 8 _ (List.mem_of_getElem? (i := 27) rfl), by decide +kernel⟩
abbrev mX12_wrong : qMr := (yX12_wrong, cX12_wrong, 3, none, 2, 0, (8, 66), (0, 54), (1, 13))
theorem mX12_wrong_ok : qMg mX12_wrong := ⟨qtb_in 8 _ (List.mem_of_getElem? (i := 67) rfl), by decide +kernel⟩
abbrev mX12_here : qMr := (yX12_here, cX12_here, 1, (some .int), 0, 0, (8, 34), (0, 52), (1, 13))
theorem mX12_here_ok : qMg mX12_here := ⟨qtb_in 8 _ (List.mem_of_getElem? (i := 35) rfl), by decide +kernel⟩
abbrev mX12_isSmall : qMr := (yX12_isSmall, cX12_isSmall, 1, (some .boolean), 1, 1, (8, 41), (0, 0), (1, 13))
theorem mX12_isSmall_ok : qMg mX12_isSmall := ⟨qtb_in 8 _ (List.mem_of_getElem? (i := 42) rfl), by decide +kernel⟩
abbrev mX12_isDigit : qMr := (yX12_isDigit, cX12_isDigit, 1, (some .boolean), 1, 1, (8, 85), (0, 0), (1, 13))
theorem mX12_isDigit_ok : qMg mX12_isDigit := ⟨qtb_in 8 _ (List.mem_of_getElem? (i := 86) rfl), by decide +kernel⟩
abbrev mX12_word : qMr := (yX12_word, cX12_word, 4, (some .int), 0, 0, (8, 38), (0, 53), (1, 13))
theorem mX12_word_ok : qMg mX12_word := ⟨qtb_in 8 _ (List.mem_of_getElem? (i := 39) rfl), by decide +kernel⟩
abbrev mX12_of : qMr := (yX12_of, cX12_of, 3, (some .int), 1, 1, (8, 48), (0, 0), (1, 13))
theorem mX12_of_ok : qMg mX12_of := ⟨qtb_in 8 _ (List.mem_of_getElem? (i := 49) rfl), by decide +kernel⟩
abbrev mX12_pass : qMr := (yX12_pass, cX12_pass, 1, none, 0, 0, (8, 70), (0, 55), (1, 13))
theorem mX12_pass_ok : qMg mX12_pass := ⟨qtb_in 8 _ (List.mem_of_getElem? (i := 71) rfl), by decide +kernel⟩
abbrev mX12_readNumber : qMr := (yX12_readNumber, cX12_readNumber, 6, (some .int), 2, 0, (8, 82), (0, 58), (1, 13))
theorem mX12_readNumber_ok : qMg mX12_readNumber := ⟨qtb_in 8 _ (List.mem_of_getElem? (i := 83) rfl), by decide +kernel⟩
abbrev mX12_sign : qMr := (yX12_sign, cX12_sign, 2, none, 1, 0, (8, 105), (0, 63), (1, 13))
theorem mX12_sign_ok : qMg mX12_sign := ⟨qtb_in 8 _ (List.mem_of_getElem? (i := 106) rfl), by decide +kernel⟩
abbrev mX12_isMore : qMr := (yX12_isMore, cX12_isMore, 1, (some .boolean), 0, 0, (8, 30), (0, 51), (1, 13))
theorem mX12_isMore_ok : qMg mX12_isMore := ⟨qtb_in 8 _ (List.mem_of_getElem? (i := 31) rfl), by decide +kernel⟩
abbrev mX12_begins : qMr := (yX12_begins, cX12_begins, 2, none, 1, 0, (8, 22), (0, 49), (1, 13))
theorem mX12_begins_ok : qMg mX12_begins := ⟨qtb_in 8 _ (List.mem_of_getElem? (i := 23) rfl), by decide +kernel⟩
abbrev mX12_result : qMr := (yX12_result, cX12_result, 2, (some .int), 1, 0, (8, 109), (0, 64), (1, 13))
theorem mX12_result_ok : qMg mX12_result := ⟨qtb_in 8 _ (List.mem_of_getElem? (i := 110) rfl), by decide +kernel⟩
abbrev mX12_fault : qMr := (yX12_fault, cX12_fault, 1, (some .int), 0, 0, (8, 9), (8, 10), (1, 13))
theorem mX12_fault_ok : qMg mX12_fault := ⟨qtb_in 8 _ (List.mem_of_getElem? (i := 11) rfl), by decide +kernel⟩
abbrev mX12_clears : qMr := (yX12_clears, cX12_clears, 1, none, 0, 0, (7, 37), (0, 45), (1, 13))
theorem mX12_clears_ok : qMg mX12_clears := ⟨qtb_in 7 _ (List.mem_of_getElem? (i := 38) rfl), by decide +kernel⟩
abbrev mX12_copies : qMr := (yX12_copies, cX12_copies, 5, none, 3, 0, (7, 45), (0, 47), (1, 13))
theorem mX12_copies_ok : qMg mX12_copies := ⟨qtb_in 7 _ (List.mem_of_getElem? (i := 46) rfl), by decide +kernel⟩
abbrev mX12_sets : qMr := (yX12_sets, cX12_sets, 1, none, 0, 0, (7, 41), (0, 46), (1, 13))
theorem mX12_sets_ok : qMg mX12_sets := ⟨qtb_in 7 _ (List.mem_of_getElem? (i := 42) rfl), by decide +kernel⟩
abbrev mX12_readDoor : qMr := (yX12_readDoor, cX12_readDoor, 1, (some .int), 0, 0, (8, 93), (0, 60), (1, 13))
theorem mX12_readDoor_ok : qMg mX12_readDoor := ⟨qtb_in 8 _ (List.mem_of_getElem? (i := 94) rfl), by decide +kernel⟩
abbrev mX12_readSinger : qMr := (yX12_readSinger, cX12_readSinger, 1, (some .int), 0, 0, (8, 101), (0, 62), (1, 13))
theorem mX12_readSinger_ok : qMg mX12_readSinger := ⟨qtb_in 8 _ (List.mem_of_getElem? (i := 102) rfl), by decide +kernel⟩
abbrev mX12_readOf : qMr := (yX12_readOf, cX12_readOf, 5, none, 2, 0, (8, 89), (0, 59), (1, 13))
theorem mX12_readOf_ok : qMg mX12_readOf := ⟨qtb_in 8 _ (List.mem_of_getElem? (i := 90) rfl), by decide +kernel⟩
abbrev mX12_readNewDoor : qMr := (yX12_readNewDoor, cX12_readNewDoor, 2, none, 0, 0, (8, 78), (0, 57), (1, 13))
theorem mX12_readNewDoor_ok : qMg mX12_readNewDoor := ⟨qtb_in 8 _ (List.mem_of_getElem? (i := 79) rfl), by decide +kernel⟩
abbrev mX12_readPeople : qMr := (yX12_readPeople, cX12_readPeople, 4, none, 1, 0, (8, 97), (0, 61), (1, 13))
theorem mX12_readPeople_ok : qMg mX12_readPeople := ⟨qtb_in 8 _ (List.mem_of_getElem? (i := 98) rfl), by decide +kernel⟩
abbrev mX12_readClause : qMr := (yX12_readClause, cX12_readClause, 5, none, 1, 0, (8, 74), (0, 56), (1, 13))
theorem mX12_readClause_ok : qMg mX12_readClause := ⟨qtb_in 8 _ (List.mem_of_getElem? (i := 75) rfl), by decide +kernel⟩
abbrev mX12_isClause : qMr := (yX12_isClause, cX12_isClause, 1, (some .boolean), 1, 1, (8, 44), (0, 0), (1, 13))
theorem mX12_isClause_ok : qMg mX12_isClause := ⟨qtb_in 8 _ (List.mem_of_getElem? (i := 45) rfl), by decide +kernel⟩
abbrev mX12_village : qMr := (yX12_village, cX12_village, 4, (some .int), 1, 0, (8, 13), (8, 14), (1, 13))
theorem mX12_village_ok : qMg mX12_village := ⟨qtb_in 8 _ (List.mem_of_getElem? (i := 15) rfl), by decide +kernel⟩
abbrev mX12_emit : qMr := (yX12_emit, cX12_emit, 3, none, 2, 0, (8, 136), (0, 69), (1, 13))
theorem mX12_emit_ok : qMg mX12_emit := ⟨qtb_in 8 _ (List.mem_of_getElem? (i := 137) rfl), by decide +kernel⟩
abbrev mX12_opensOne : qMr := (yX12_opensOne, cX12_opensOne, 2, none, 1, 0, (8, 132), (0, 68), (1, 13))
theorem mX12_opensOne_ok : qMg mX12_opensOne := ⟨qtb_in 8 _ (List.mem_of_getElem? (i := 133) rfl), by decide +kernel⟩
abbrev mX12_readSum : qMr := (yX12_readSum, cX12_readSum, 2, none, 0, 0, (8, 120), (0, 65), (1, 13))
theorem mX12_readSum_ok : qMg mX12_readSum := ⟨qtb_in 8 _ (List.mem_of_getElem? (i := 121) rfl), by decide +kernel⟩
abbrev mX12_readProduct : qMr := (yX12_readProduct, cX12_readProduct, 2, none, 0, 0, (8, 124), (0, 66), (1, 13))
theorem mX12_readProduct_ok : qMg mX12_readProduct := ⟨qtb_in 8 _ (List.mem_of_getElem? (i := 125) rfl), by decide +kernel⟩
abbrev mX12_readRow : qMr := (yX12_readRow, cX12_readRow, 3, none, 2, 0, (8, 141), (0, 70), (1, 13))
theorem mX12_readRow_ok : qMg mX12_readRow := ⟨qtb_in 8 _ (List.mem_of_getElem? (i := 142) rfl), by decide +kernel⟩
abbrev mX12_standsHere : qMr := (yX12_standsHere, cX12_standsHere, 3, (some .boolean), 1, 0, (8, 152), (0, 72), (1, 13))
theorem mX12_standsHere_ok : qMg mX12_standsHere := ⟨qtb_in 8 _ (List.mem_of_getElem? (i := 153) rfl), by decide +kernel⟩
abbrev mX12_factHere : qMr := (yX12_factHere, cX12_factHere, 2, (some .int), 0, 0, (8, 147), (0, 71), (1, 13))
theorem mX12_factHere_ok : qMg mX12_factHere := ⟨qtb_in 8 _ (List.mem_of_getElem? (i := 148) rfl), by decide +kernel⟩
abbrev mX12_readUnit : qMr := (yX12_readUnit, cX12_readUnit, 2, none, 0, 0, (8, 128), (0, 67), (1, 13))
theorem mX12_readUnit_ok : qMg mX12_readUnit := ⟨qtb_in 8 _ (List.mem_of_getElem? (i := 129) rfl), by decide +kernel⟩
abbrev mX12_law : qMr := (yX12_law, cX12_law, 5, (some .int), 2, 0, (8, 112), (8, 113), (1, 13))
theorem mX12_law_ok : qMg mX12_law := ⟨qtb_in 8 _ (List.mem_of_getElem? (i := 114) rfl), by decide +kernel⟩
abbrev mX12_valueOf : qMr := (yX12_valueOf, cX12_valueOf, 5, (some .int), 1, 0, (8, 220), (0, 79), (1, 13))
theorem mX12_valueOf_ok : qMg mX12_valueOf := ⟨qtb_in 8 _ (List.mem_of_getElem? (i := 221) rfl), by decide +kernel⟩
abbrev mX12_both : qMr := (yX12_both, cX12_both, 3, (some .int), 3, 1, (8, 223), (0, 0), (1, 13))
theorem mX12_both_ok : qMg mX12_both := ⟨qtb_in 8 _ (List.mem_of_getElem? (i := 224) rfl), by decide +kernel⟩
abbrev mX12_findFacts : qMr := (yX12_findFacts, cX12_findFacts, 4, none, 3, 0, (8, 216), (0, 78), (1, 13))
theorem mX12_findFacts_ok : qMg mX12_findFacts := ⟨qtb_in 8 _ (List.mem_of_getElem? (i := 217) rfl), by decide +kernel⟩
abbrev mX12_giveOf : qMr := (yX12_giveOf, cX12_giveOf, 5, (some .int), 3, 0, (8, 212), (0, 77), (1, 13))
theorem mX12_giveOf_ok : qMg mX12_giveOf := ⟨qtb_in 8 _ (List.mem_of_getElem? (i := 213) rfl), by decide +kernel⟩
abbrev mX12_plan : qMr := (yX12_plan, cX12_plan, 8, (some .int), 1, 0, (8, 162), (8, 163), (1, 13))
theorem mX12_plan_ok : qMg mX12_plan := ⟨qtb_in 8 _ (List.mem_of_getElem? (i := 164) rfl), by decide +kernel⟩
abbrev mX12_book : qMr := (yX12_book, cX12_book, 8, (some .int), 1, 0, (8, 168), (8, 169), (1, 13))
theorem mX12_book_ok : qMg mX12_book := ⟨qtb_in 8 _ (List.mem_of_getElem? (i := 170) rfl), by decide +kernel⟩
abbrev mX12_told : qMr := (yX12_told, cX12_told, 2, (some .int), 1, 0, (8, 172), (8, 173), (1, 13))
theorem mX12_told_ok : qMg mX12_told := ⟨qtb_in 8 _ (List.mem_of_getElem? (i := 174) rfl), by decide +kernel⟩
abbrev mX12_isDoor : qMr := (yX12_isDoor, cX12_isDoor, 3, (some .boolean), 2, 0, (8, 181), (0, 73), (1, 13))
theorem mX12_isDoor_ok : qMg mX12_isDoor := ⟨qtb_in 8 _ (List.mem_of_getElem? (i := 182) rfl), by decide +kernel⟩
abbrev mX12_isLine : qMr := (yX12_isLine, cX12_isLine, 3, (some .boolean), 2, 0, (8, 193), (0, 74), (1, 13))
theorem mX12_isLine_ok : qMg mX12_isLine := ⟨qtb_in 8 _ (List.mem_of_getElem? (i := 194) rfl), by decide +kernel⟩
abbrev mX12_door : qMr := (yX12_door, cX12_door, 3, (some .int), 2, 0, (8, 176), (8, 177), (1, 13))
theorem mX12_door_ok : qMg mX12_door := ⟨qtb_in 8 _ (List.mem_of_getElem? (i := 178) rfl), by decide +kernel⟩
abbrev mX12_singer : qMr := (yX12_singer, cX12_singer, 3, (some .int), 2, 0, (8, 184), (8, 185), (1, 13))
theorem mX12_singer_ok : qMg mX12_singer := ⟨qtb_in 8 _ (List.mem_of_getElem? (i := 186) rfl), by decide +kernel⟩
abbrev mX12_xOf : qMr := (yX12_xOf, cX12_xOf, 2, (some .int), 1, 0, (8, 201), (0, 76), (1, 13))
theorem mX12_xOf_ok : qMg mX12_xOf := ⟨qtb_in 8 _ (List.mem_of_getElem? (i := 202) rfl), by decide +kernel⟩
abbrev mX12_apart : qMr := (yX12_apart, cX12_apart, 2, (some .int), 2, 1, (8, 204), (0, 0), (1, 13))
theorem mX12_apart_ok : qMg mX12_apart := ⟨qtb_in 8 _ (List.mem_of_getElem? (i := 205) rfl), by decide +kernel⟩
abbrev mX12_wayTo : qMr := (yX12_wayTo, cX12_wayTo, 2, (some .int), 1, 0, (8, 197), (0, 75), (1, 13))
theorem mX12_wayTo_ok : qMg mX12_wayTo := ⟨qtb_in 8 _ (List.mem_of_getElem? (i := 198) rfl), by decide +kernel⟩
abbrev mX12_line : qMr := (yX12_line, cX12_line, 3, (some .int), 2, 0, (8, 188), (8, 189), (1, 13))
theorem mX12_line_ok : qMg mX12_line := ⟨qtb_in 8 _ (List.mem_of_getElem? (i := 190) rfl), by decide +kernel⟩
abbrev mX12_gives : qMr := (yX12_gives, cX12_gives, 4, (some .int), 3, 0, (8, 207), (8, 208), (1, 13))
theorem mX12_gives_ok : qMg mX12_gives := ⟨qtb_in 8 _ (List.mem_of_getElem? (i := 209) rfl), by decide +kernel⟩
abbrev mX12_isRing : qMr := (yX12_isRing, cX12_isRing, 3, (some .boolean), 3, 1, (8, 235), (0, 0), (1, 13))
theorem mX12_isRing_ok : qMg mX12_isRing := ⟨qtb_in 8 _ (List.mem_of_getElem? (i := 236) rfl), by decide +kernel⟩
abbrev mX12_findMeans : qMr := (yX12_findMeans, cX12_findMeans, 15, none, 4, 0, (8, 231), (0, 80), (1, 13))
theorem mX12_findMeans_ok : qMg mX12_findMeans := ⟨qtb_in 8 _ (List.mem_of_getElem? (i := 232) rfl), by decide +kernel⟩
abbrev mX12_least : qMr := (yX12_least, cX12_least, 11, (some .long), 3, 1, (9, 4), (0, 0), (1, 13))
theorem mX12_least_ok : qMg mX12_least := ⟨qtb_in 9 _ (List.mem_of_getElem? (i := 5) rfl), by decide +kernel⟩
abbrev mX12_meanOf : qMr := (yX12_meanOf, cX12_meanOf, 2, (some .long), 1, 0, (9, 1), (0, 81), (1, 13))
theorem mX12_meanOf_ok : qMg mX12_meanOf := ⟨qtb_in 9 _ (List.mem_of_getElem? (i := 2) rfl), by decide +kernel⟩
abbrev mX12_mean : qMr := (yX12_mean, cX12_mean, 6, (some .long), 5, 0, (8, 226), (8, 227), (1, 13))
theorem mX12_mean_ok : qMg mX12_mean := ⟨qtb_in 8 _ (List.mem_of_getElem? (i := 228) rfl), by decide +kernel⟩
abbrev mX12_findLine : qMr := (yX12_findLine, cX12_findLine, 2, none, 1, 0, (9, 16), (0, 83), (1, 13))
theorem mX12_findLine_ok : qMg mX12_findLine := ⟨qtb_in 9 _ (List.mem_of_getElem? (i := 17) rfl), by decide +kernel⟩
abbrev mX12_sumFrom : qMr := (yX12_sumFrom, cX12_sumFrom, 6, (some .long), 2, 0, (9, 12), (0, 82), (1, 13))
theorem mX12_sumFrom_ok : qMg mX12_sumFrom := ⟨qtb_in 9 _ (List.mem_of_getElem? (i := 13) rfl), by decide +kernel⟩
abbrev mX12_planned : qMr := (yX12_planned, cX12_planned, 3, (some .long), 2, 0, (9, 7), (9, 8), (1, 13))
theorem mX12_planned_ok : qMg mX12_planned := ⟨qtb_in 9 _ (List.mem_of_getElem? (i := 9) rfl), by decide +kernel⟩
abbrev mX12_longOf : qMr := (yX12_longOf, cX12_longOf, 4, (some .int), 1, 0, (9, 24), (0, 84), (1, 13))
theorem mX12_longOf_ok : qMg mX12_longOf := ⟨qtb_in 9 _ (List.mem_of_getElem? (i := 25) rfl), by decide +kernel⟩
abbrev mX12_longest : qMr := (yX12_longest, cX12_longest, 1, (some .int), 0, 0, (9, 19), (9, 20), (1, 13))
theorem mX12_longest_ok : qMg mX12_longest := ⟨qtb_in 9 _ (List.mem_of_getElem? (i := 21) rfl), by decide +kernel⟩
abbrev mX12_sure : qMr := (yX12_sure, cX12_sure, 2, (some .int), 0, 0, (9, 27), (9, 28), (1, 13))
theorem mX12_sure_ok : qMg mX12_sure := ⟨qtb_in 9 _ (List.mem_of_getElem? (i := 29) rfl), by decide +kernel⟩
abbrev mX12_findValues : qMr := (yX12_findValues, cX12_findValues, 4, none, 1, 0, (9, 44), (0, 87), (1, 13))
theorem mX12_findValues_ok : qMg mX12_findValues := ⟨qtb_in 9 _ (List.mem_of_getElem? (i := 45) rfl), by decide +kernel⟩
abbrev mX12_wayOver : qMr := (yX12_wayOver, cX12_wayOver, 6, (some .int), 1, 0, (9, 49), (0, 88), (1, 13))
theorem mX12_wayOver_ok : qMg mX12_wayOver := ⟨qtb_in 9 _ (List.mem_of_getElem? (i := 50) rfl), by decide +kernel⟩
abbrev mX12_index : qMr := (yX12_index, cX12_index, 4, (some .int), 3, 0, (9, 57), (0, 90), (1, 13))
theorem mX12_index_ok : qMg mX12_index := ⟨qtb_in 9 _ (List.mem_of_getElem? (i := 58) rfl), by decide +kernel⟩
abbrev mX12_isOf : qMr := (yX12_isOf, cX12_isOf, 4, (some .boolean), 3, 0, (9, 61), (0, 91), (1, 13))
theorem mX12_isOf_ok : qMg mX12_isOf := ⟨qtb_in 9 _ (List.mem_of_getElem? (i := 62) rfl), by decide +kernel⟩
abbrev mX12_findMost : qMr := (yX12_findMost, cX12_findMost, 10, none, 1, 0, (9, 53), (0, 89), (1, 13))
theorem mX12_findMost_ok : qMg mX12_findMost := ⟨qtb_in 9 _ (List.mem_of_getElem? (i := 54) rfl), by decide +kernel⟩
abbrev mX12_findBest : qMr := (yX12_findBest, cX12_findBest, 8, none, 1, 0, (9, 40), (0, 86), (1, 13))
theorem mX12_findBest_ok : qMg mX12_findBest := ⟨qtb_in 9 _ (List.mem_of_getElem? (i := 41) rfl), by decide +kernel⟩
abbrev mX12_goesOn : qMr := (yX12_goesOn, cX12_goesOn, 9, (some .boolean), 3, 0, (9, 65), (0, 92), (1, 13))
theorem mX12_goesOn_ok : qMg mX12_goesOn := ⟨qtb_in 9 _ (List.mem_of_getElem? (i := 66) rfl), by decide +kernel⟩
abbrev mX12_isBest : qMr := (yX12_isBest, cX12_isBest, 4, (some .boolean), 3, 0, (9, 36), (0, 85), (1, 13))
theorem mX12_isBest_ok : qMg mX12_isBest := ⟨qtb_in 9 _ (List.mem_of_getElem? (i := 37) rfl), by decide +kernel⟩
abbrev mX12_best : qMr := (yX12_best, cX12_best, 3, (some .long), 2, 0, (9, 31), (9, 32), (1, 13))
theorem mX12_best_ok : qMg mX12_best := ⟨qtb_in 9 _ (List.mem_of_getElem? (i := 33) rfl), by decide +kernel⟩
abbrev mX12_bestAt : qMr := (yX12_bestAt, cX12_bestAt, 4, (some .int), 2, 0, (9, 68), (9, 69), (1, 13))
theorem mX12_bestAt_ok : qMg mX12_bestAt := ⟨qtb_in 9 _ (List.mem_of_getElem? (i := 70) rfl), by decide +kernel⟩
abbrev mX12_bestLong : qMr := (yX12_bestLong, cX12_bestLong, 2, (some .int), 1, 0, (9, 72), (9, 73), (1, 13))
theorem mX12_bestLong_ok : qMg mX12_bestLong := ⟨qtb_in 9 _ (List.mem_of_getElem? (i := 74) rfl), by decide +kernel⟩
abbrev mX12_weigh : qMr := (yX12_weigh, cX12_weigh, 8, none, 3, 0, (9, 85), (0, 94), (1, 13))
theorem mX12_weigh_ok : qMg mX12_weigh := ⟨qtb_in 9 _ (List.mem_of_getElem? (i := 86) rfl), by decide +kernel⟩
abbrev mX12_isVain : qMr := (yX12_isVain, cX12_isVain, 5, (some .boolean), 4, 0, (9, 81), (0, 93), (1, 13))
theorem mX12_isVain_ok : qMg mX12_isVain := ⟨qtb_in 9 _ (List.mem_of_getElem? (i := 82) rfl), by decide +kernel⟩
abbrev mX12_homeBy : qMr := (yX12_homeBy, cX12_homeBy, 6, (some .long), 3, 0, (9, 89), (0, 95), (1, 13))
theorem mX12_homeBy_ok : qMg mX12_homeBy := ⟨qtb_in 9 _ (List.mem_of_getElem? (i := 90) rfl), by decide +kernel⟩
abbrev mX12_home : qMr := (yX12_home, cX12_home, 5, (some .long), 4, 0, (9, 76), (9, 77), (1, 13))
theorem mX12_home_ok : qMg mX12_home := ⟨qtb_in 9 _ (List.mem_of_getElem? (i := 78) rfl), by decide +kernel⟩
abbrev mX12_another : qMr := (yX12_another, cX12_another, 5, (some .long), 4, 0, (9, 92), (9, 93), (1, 13))
theorem mX12_another_ok : qMg mX12_another := ⟨qtb_in 9 _ (List.mem_of_getElem? (i := 94) rfl), by decide +kernel⟩
abbrev mX12_lineAt : qMr := (yX12_lineAt, cX12_lineAt, 5, (some .int), 3, 0, (9, 96), (9, 97), (1, 13))
theorem mX12_lineAt_ok : qMg mX12_lineAt := ⟨qtb_in 9 _ (List.mem_of_getElem? (i := 98) rfl), by decide +kernel⟩
abbrev mX12_ring : qMr := (yX12_ring, cX12_ring, 9, (some .int), 2, 0, (9, 100), (9, 101), (1, 13))
theorem mX12_ring_ok : qMg mX12_ring := ⟨qtb_in 9 _ (List.mem_of_getElem? (i := 102) rfl), by decide +kernel⟩
abbrev mX12_pays : qMr := (yX12_pays, cX12_pays, 5, (some .boolean), 4, 0, (9, 104), (9, 105), (1, 13))
theorem mX12_pays_ok : qMg mX12_pays := ⟨qtb_in 9 _ (List.mem_of_getElem? (i := 106) rfl), by decide +kernel⟩
abbrev mX12_stop : qMr := (yX12_stop, cX12_stop, 3, (some .int), 1, 0, (9, 108), (9, 109), (1, 13))
theorem mX12_stop_ok : qMg mX12_stop := ⟨qtb_in 9 _ (List.mem_of_getElem? (i := 110) rfl), by decide +kernel⟩
abbrev mX12_thereIn : qMr := (yX12_thereIn, cX12_thereIn, 4, (some .int), 1, 0, (9, 128), (0, 98), (1, 13))
theorem mX12_thereIn_ok : qMg mX12_thereIn := ⟨qtb_in 9 _ (List.mem_of_getElem? (i := 129) rfl), by decide +kernel⟩
abbrev mX12_partsOf : qMr := (yX12_partsOf, cX12_partsOf, 4, (some .int), 1, 0, (9, 120), (0, 96), (1, 13))
theorem mX12_partsOf_ok : qMg mX12_partsOf := ⟨qtb_in 9 _ (List.mem_of_getElem? (i := 121) rfl), by decide +kernel⟩
abbrev mX12_canSing : qMr := (yX12_canSing, cX12_canSing, 9, (some .boolean), 4, 0, (9, 132), (0, 99), (1, 13))
theorem mX12_canSing_ok : qMg mX12_canSing := ⟨qtb_in 9 _ (List.mem_of_getElem? (i := 133) rfl), by decide +kernel⟩
abbrev mX12_lastsBy : qMr := (yX12_lastsBy, cX12_lastsBy, 6, (some .int), 3, 0, (9, 124), (0, 97), (1, 13))
theorem mX12_lastsBy_ok : qMg mX12_lastsBy := ⟨qtb_in 9 _ (List.mem_of_getElem? (i := 125) rfl), by decide +kernel⟩
abbrev mX12_isMinute : qMr := (yX12_isMinute, cX12_isMinute, 1, (some .boolean), 1, 1, (9, 116), (0, 0), (1, 13))
theorem mX12_isMinute_ok : qMg mX12_isMinute := ⟨qtb_in 9 _ (List.mem_of_getElem? (i := 117) rfl), by decide +kernel⟩
abbrev mX12_lasts : qMr := (yX12_lasts, cX12_lasts, 3, (some .int), 2, 0, (9, 112), (9, 113), (1, 13))
theorem mX12_lasts_ok : qMg mX12_lasts := ⟨qtb_in 9 _ (List.mem_of_getElem? (i := 114) rfl), by decide +kernel⟩
abbrev mX12_without : qMr := (yX12_without, cX12_without, 4, (some .int), 3, 0, (9, 135), (9, 136), (1, 13))
theorem mX12_without_ok : qMg mX12_without := ⟨qtb_in 9 _ (List.mem_of_getElem? (i := 137) rfl), by decide +kernel⟩
abbrev mX12_there : qMr := (yX12_there, cX12_there, 2, (some .int), 1, 0, (9, 139), (9, 140), (1, 13))
theorem mX12_there_ok : qMg mX12_there := ⟨qtb_in 9 _ (List.mem_of_getElem? (i := 141) rfl), by decide +kernel⟩
abbrev mX12_flat : qMr := (yX12_flat, cX12_flat, 3, (some .int), 0, 0, (9, 143), (9, 144), (1, 13))
theorem mX12_flat_ok : qMg mX12_flat := ⟨qtb_in 9 _ (List.mem_of_getElem? (i := 145) rfl), by decide +kernel⟩
abbrev mX12_ones : qMr := (yX12_ones, cX12_ones, 4, (some .int), 1, 0, (9, 156), (0, 101), (1, 13))
theorem mX12_ones_ok : qMg mX12_ones := ⟨qtb_in 9 _ (List.mem_of_getElem? (i := 157) rfl), by decide +kernel⟩
abbrev mX12_findSolos : qMr := (yX12_findSolos, cX12_findSolos, 7, none, 0, 0, (9, 152), (0, 100), (1, 13))
theorem mX12_findSolos_ok : qMg mX12_findSolos := ⟨qtb_in 9 _ (List.mem_of_getElem? (i := 153) rfl), by decide +kernel⟩
abbrev mX12_solos : qMr := (yX12_solos, cX12_solos, 1, (some .int), 0, 0, (9, 147), (9, 148), (1, 13))
theorem mX12_solos_ok : qMg mX12_solos := ⟨qtb_in 9 _ (List.mem_of_getElem? (i := 149) rfl), by decide +kernel⟩
abbrev mX12_soloJoy : qMr := (yX12_soloJoy, cX12_soloJoy, 2, (some .long), 1, 0, (9, 159), (9, 160), (1, 13))
theorem mX12_soloJoy_ok : qMg mX12_soloJoy := ⟨qtb_in 9 _ (List.mem_of_getElem? (i := 161) rfl), by decide +kernel⟩
abbrev mX12_findRow : qMr := (yX12_findRow, cX12_findRow, 3, none, 0, 0, (9, 172), (0, 103), (1, 13))
theorem mX12_findRow_ok : qMg mX12_findRow := ⟨qtb_in 9 _ (List.mem_of_getElem? (i := 173) rfl), by decide +kernel⟩
abbrev mX12_findLead : qMr := (yX12_findLead, cX12_findLead, 7, none, 0, 0, (9, 168), (0, 102), (1, 13))
theorem mX12_findLead_ok : qMg mX12_findLead := ⟨qtb_in 9 _ (List.mem_of_getElem? (i := 169) rfl), by decide +kernel⟩
abbrev mX12_party : qMr := (yX12_party, cX12_party, 3, (some .int), 1, 0, (9, 163), (9, 164), (1, 13))
theorem mX12_party_ok : qMg mX12_party := ⟨qtb_in 9 _ (List.mem_of_getElem? (i := 165) rfl), by decide +kernel⟩
abbrev mX12_isRight : qMr := (yX12_isRight, cX12_isRight, 5, (some .boolean), 2, 0, (9, 180), (0, 104), (1, 13))
theorem mX12_isRight_ok : qMg mX12_isRight := ⟨qtb_in 9 _ (List.mem_of_getElem? (i := 181) rfl), by decide +kernel⟩
abbrev mX12_gave : qMr := (yX12_gave, cX12_gave, 9, (some .int), 1, 0, (9, 175), (9, 176), (1, 13))
theorem mX12_gave_ok : qMg mX12_gave := ⟨qtb_in 9 _ (List.mem_of_getElem? (i := 177) rfl), by decide +kernel⟩
abbrev mX12_right : qMr := (yX12_right, cX12_right, 3, (some .int), 1, 0, (9, 183), (9, 184), (1, 13))
theorem mX12_right_ok : qMg mX12_right := ⟨qtb_in 9 _ (List.mem_of_getElem? (i := 185) rfl), by decide +kernel⟩
abbrev mX12_draws : qMr := (yX12_draws, cX12_draws, 1, (some .int), 0, 0, (9, 200), (0, 107), (1, 13))
theorem mX12_draws_ok : qMg mX12_draws := ⟨qtb_in 9 _ (List.mem_of_getElem? (i := 201) rfl), by decide +kernel⟩
abbrev mX12_stepAt : qMr := (yX12_stepAt, cX12_stepAt, 3, none, 2, 0, (9, 205), (0, 108), (1, 13))
theorem mX12_stepAt_ok : qMg mX12_stepAt := ⟨qtb_in 9 _ (List.mem_of_getElem? (i := 206) rfl), by decide +kernel⟩
abbrev mX12_singsOn : qMr := (yX12_singsOn, cX12_singsOn, 4, (some .boolean), 2, 0, (9, 209), (0, 109), (1, 13))
theorem mX12_singsOn_ok : qMg mX12_singsOn := ⟨qtb_in 9 _ (List.mem_of_getElem? (i := 210) rfl), by decide +kernel⟩
abbrev mX12_visits : qMr := (yX12_visits, cX12_visits, 5, none, 1, 0, (9, 196), (0, 106), (1, 13))
theorem mX12_visits_ok : qMg mX12_visits := ⟨qtb_in 9 _ (List.mem_of_getElem? (i := 197) rfl), by decide +kernel⟩
abbrev mX12_goesOut : qMr := (yX12_goesOut, cX12_goesOut, 3, none, 1, 0, (9, 192), (0, 105), (1, 13))
theorem mX12_goesOut_ok : qMg mX12_goesOut := ⟨qtb_in 9 _ (List.mem_of_getElem? (i := 193) rfl), by decide +kernel⟩
abbrev mX12_evening : qMr := (yX12_evening, cX12_evening, 3, (some .int), 2, 0, (9, 187), (9, 188), (1, 13))
theorem mX12_evening_ok : qMg mX12_evening := ⟨qtb_in 9 _ (List.mem_of_getElem? (i := 189) rfl), by decide +kernel⟩
abbrev mX12_isSpan : qMr := (yX12_isSpan, cX12_isSpan, 3, (some .boolean), 2, 0, (9, 217), (0, 110), (1, 13))
theorem mX12_isSpan_ok : qMg mX12_isSpan := ⟨qtb_in 9 _ (List.mem_of_getElem? (i := 218) rfl), by decide +kernel⟩
abbrev mX12_span : qMr := (yX12_span, cX12_span, 10, (some .int), 4, 0, (9, 212), (9, 213), (1, 13))
theorem mX12_span_ok : qMg mX12_span := ⟨qtb_in 9 _ (List.mem_of_getElem? (i := 214) rfl), by decide +kernel⟩
abbrev mX12_finest : qMr := (yX12_finest, cX12_finest, 6, (some .int), 2, 0, (9, 220), (9, 221), (1, 13))
theorem mX12_finest_ok : qMg mX12_finest := ⟨qtb_in 9 _ (List.mem_of_getElem? (i := 222) rfl), by decide +kernel⟩
abbrev mX12_keepsIn : qMr := (yX12_keepsIn, cX12_keepsIn, 4, none, 2, 0, (9, 236), (0, 112), (1, 13))
theorem mX12_keepsIn_ok : qMg mX12_keepsIn := ⟨qtb_in 9 _ (List.mem_of_getElem? (i := 237) rfl), by decide +kernel⟩
abbrev mX12_takesFrom : qMr := (yX12_takesFrom, cX12_takesFrom, 4, none, 2, 0, (10, 20), (0, 113), (1, 13))
theorem mX12_takesFrom_ok : qMg mX12_takesFrom := ⟨qtb_in 10 _ (List.mem_of_getElem? (i := 21) rfl), by decide +kernel⟩
abbrev mX12_changes : qMr := (yX12_changes, cX12_changes, 1, (some .boolean), 0, 0, (9, 232), (0, 111), (1, 13))
theorem mX12_changes_ok : qMg mX12_changes := ⟨qtb_in 9 _ (List.mem_of_getElem? (i := 233) rfl), by decide +kernel⟩
abbrev mX12_mostOf : qMr := (yX12_mostOf, cX12_mostOf, 1, (some .int), 1, 1, (9, 228), (0, 0), (1, 13))
theorem mX12_mostOf_ok : qMg mX12_mostOf := ⟨qtb_in 9 _ (List.mem_of_getElem? (i := 229) rfl), by decide +kernel⟩
abbrev mX12_change : qMr := (yX12_change, cX12_change, 5, (some .int), 3, 0, (9, 224), (9, 225), (1, 13))
theorem mX12_change_ok : qMg mX12_change := ⟨qtb_in 9 _ (List.mem_of_getElem? (i := 226) rfl), by decide +kernel⟩
abbrev mX12_sing : qMr := (yX12_sing, cX12_sing, 4, (some .int), 3, 0, (9, 239), (10, 0), (1, 13))
theorem mX12_sing_ok : qMg mX12_sing := ⟨qtb_in 10 _ (List.mem_of_getElem? (i := 1) rfl), by decide +kernel⟩
abbrev mX12_swap : qMr := (yX12_swap, cX12_swap, 5, (some .int), 2, 0, (10, 3), (10, 4), (1, 13))
theorem mX12_swap_ok : qMg mX12_swap := ⟨qtb_in 10 _ (List.mem_of_getElem? (i := 5) rfl), by decide +kernel⟩
abbrev mX12_skip : qMr := (yX12_skip, cX12_skip, 3, (some .int), 1, 0, (10, 7), (10, 8), (1, 13))
theorem mX12_skip_ok : qMg mX12_skip := ⟨qtb_in 10 _ (List.mem_of_getElem? (i := 9) rfl), by decide +kernel⟩
abbrev mX12_until : qMr := (yX12_until, cX12_until, 3, (some .int), 1, 0, (10, 11), (10, 12), (1, 13))
theorem mX12_until_ok : qMg mX12_until := ⟨qtb_in 10 _ (List.mem_of_getElem? (i := 13) rfl), by decide +kernel⟩
abbrev mX12_undo : qMr := (yX12_undo, cX12_undo, 1, (some .int), 0, 0, (10, 15), (10, 16), (1, 13))
theorem mX12_undo_ok : qMg mX12_undo := ⟨qtb_in 10 _ (List.mem_of_getElem? (i := 17) rfl), by decide +kernel⟩
abbrev mX12_image : qMr := (yX12_image, cX12_image, 3, (some .int), 0, 0, (10, 23), (10, 24), (1, 13))
theorem mX12_image_ok : qMg mX12_image := ⟨qtb_in 10 _ (List.mem_of_getElem? (i := 25) rfl), by decide +kernel⟩
abbrev mX12_restore : qMr := (yX12_restore, cX12_restore, 3, (some .int), 0, 0, (10, 27), (10, 28), (1, 13))
theorem mX12_restore_ok : qMg mX12_restore := ⟨qtb_in 10 _ (List.mem_of_getElem? (i := 29) rfl), by decide +kernel⟩
abbrev mX12_status : qMr := (yX12_status, cX12_status, 2, (some .int), 1, 0, (10, 31), (10, 32), (1, 13))
theorem mX12_status_ok : qMg mX12_status := ⟨qtb_in 10 _ (List.mem_of_getElem? (i := 33) rfl), by decide +kernel⟩
abbrev mX12_count : qMr := (yX12_count, cX12_count, 2, (some .int), 1, 0, (10, 35), (10, 36), (1, 13))
theorem mX12_count_ok : qMg mX12_count := ⟨qtb_in 10 _ (List.mem_of_getElem? (i := 37) rfl), by decide +kernel⟩
abbrev mJ0_length_8abf5 : qMr := (yJ0_length_8abf5, cJ0_length_8abf5, 1, (some .int), 0, 0, (4, 75), (4, 76), (1, 18))
theorem mJ0_length_8abf5_ok : qMg mJ0_length_8abf5 := ⟨qtb_in 4 _ (List.mem_of_getElem? (i := 77) rfl), by decide +kernel⟩
abbrev mJ0_charAt_5068e : qMr := (yJ0_charAt_5068e, cJ0_charAt_5068e, 2, (some .char), 1, 0, (4, 85), (4, 86), (1, 18))
theorem mJ0_charAt_5068e_ok : qMg mJ0_charAt_5068e := ⟨qtb_in 4 _ (List.mem_of_getElem? (i := 87) rfl), by decide +kernel⟩
abbrev mJ0_coder_7d493 : qMr := (yJ0_coder_7d493, cJ0_coder_7d493, 1, (some .byte), 0, 0, (4, 79), (4, 80), (1, 18))
theorem mJ0_coder_7d493_ok : qMg mJ0_coder_7d493 := ⟨qtb_in 4 _ (List.mem_of_getElem? (i := 81) rfl), by decide +kernel⟩
abbrev mJ0_isLatin1_aae02 : qMr := (yJ0_isLatin1_aae02, cJ0_isLatin1_aae02, 1, (some .boolean), 0, 0, (4, 89), (4, 90), (1, 18))
theorem mJ0_isLatin1_aae02_ok : qMg mJ0_isLatin1_aae02 := ⟨qtb_in 4 _ (List.mem_of_getElem? (i := 91) rfl), by decide +kernel⟩
abbrev mJ0_checkIndex_df160 : qMr := (yJ0_checkIndex_df160, cJ0_checkIndex_df160, 2, none, 2, 1, (4, 96), (0, 0), (1, 18))
theorem mJ0_checkIndex_df160_ok : qMg mJ0_checkIndex_df160 := ⟨qtb_in 4 _ (List.mem_of_getElem? (i := 97) rfl), by decide +kernel⟩
abbrev mJ1_charAt_3b067 : qMr := (yJ1_charAt_3b067, cJ1_charAt_3b067, 2, (some .char), 2, 1, (4, 93), (0, 0), (1, 19))
theorem mJ1_charAt_3b067_ok : qMg mJ1_charAt_3b067 := ⟨qtb_in 4 _ (List.mem_of_getElem? (i := 94) rfl), by decide +kernel⟩
abbrev mJ2_getChar_3b067 : qMr := (yJ2_getChar_3b067, cJ2_getChar_3b067, 2, (some .char), 2, 1, (4, 114), (0, 0), (1, 21))
theorem mJ2_getChar_3b067_ok : qMg mJ2_getChar_3b067 := ⟨qtb_in 4 _ (List.mem_of_getElem? (i := 115) rfl), by decide +kernel⟩
abbrev mJ2_length_9d52b : qMr := (yJ2_length_9d52b, cJ2_length_9d52b, 1, (some .int), 1, 1, (4, 110), (0, 0), (1, 21))
theorem mJ2_length_9d52b_ok : qMg mJ2_length_9d52b := ⟨qtb_in 4 _ (List.mem_of_getElem? (i := 111) rfl), by decide +kernel⟩
abbrev mJ2_charAt_3b067 : qMr := (yJ2_charAt_3b067, cJ2_charAt_3b067, 2, (some .char), 2, 1, (4, 104), (0, 0), (1, 21))
theorem mJ2_charAt_3b067_ok : qMg mJ2_charAt_3b067 := ⟨qtb_in 4 _ (List.mem_of_getElem? (i := 105) rfl), by decide +kernel⟩
abbrev mJ2_checkIndex_2214a : qMr := (yJ2_checkIndex_2214a, cJ2_checkIndex_2214a, 2, none, 2, 1, (4, 107), (0, 0), (1, 21))
theorem mJ2_checkIndex_2214a_ok : qMg mJ2_checkIndex_2214a := ⟨qtb_in 4 _ (List.mem_of_getElem? (i := 108) rfl), by decide +kernel⟩
abbrev mJ3_checkIndex_8e157 : qMr := (yJ3_checkIndex_8e157, cJ3_checkIndex_8e157, 3, (some .int), 3, 1, (4, 101), (0, 0), (1, 20))
theorem mJ3_checkIndex_8e157_ok : qMg mJ3_checkIndex_8e157 := ⟨qtb_in 4 _ (List.mem_of_getElem? (i := 102) rfl), by decide +kernel⟩
end QT
