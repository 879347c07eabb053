section QSGL
def sgL_village_0 : List qEl := [(.aload_n 2, 1, 0, 0, 0, 0), (.iconst 0, 1, 0, 0, 0, 0), (.aload_n 0, 1, 0, 0, 0, 0), (.iload_n 1, 1, 0, 0, 0, 0), (.invokevirtual 7, 3, 1, 1, 0, 0), (.i2l, 1, 0, 0, 0, 0), (.lastore, 1, 0, 0, 0, 0), (.goto 6, 3, 15, 0, 0, 0)]
theorem sgL_village_0_ok : qsg cL_village 13 4 false 0 sgL_village_0 = true := by decide +kernel
def sgL_village_12 : List qEl := [(.astore_n 3, 1, 0, 0, 0, 0)]
theorem sgL_village_12_ok : qsg cL_village 13 4 false 12 sgL_village_12 = true := by decide +kernel
def sgL_village_13 : List qEl := [(.iconst 1, 1, 0, 0, 1, 0), (.ireturn, 1, 0, 0, 0, 0)]
theorem sgL_village_13_ok : qsg cL_village 13 4 false 13 sgL_village_13 = true := by decide +kernel
def sgL_village_15 : List qEl := [(.iconst 0, 1, 0, 0, 0, 0), (.ireturn, 1, 0, 0, 0, 0)]
theorem sgL_village_15_ok : qsg cL_village 13 4 false 15 sgL_village_15 = true := by decide +kernel
abbrev wL_village : qWr := (yL_village, cL_village, 4, 3, [(0, 9, 12, 13)])
theorem wL_village_ok : qWg wL_village := ⟨qtb_in 3 _ (List.mem_of_getElem? (i := 187) rfl), qat_in (p := (3, 186)) (by decide +kernel), qat_in (p := (1, 0)) (by decide +kernel), by decide +kernel, by decide +kernel, by decide, by decide, by decide⟩
def sgL_law_0 : List qEl := [(.aload_n 3, 1, 0, 0, 0, 0), (.iconst 0, 1, 0, 0, 0, 0), (.aload_n 0, 1, 0, 0, 0, 0), (.iload_n 1, 1, 0, 0, 0, 0), (.iload_n 2, 1, 0, 0, 0, 0), (.invokevirtual 15, 3, 1, 2, 0, 0), (.i2l, 1, 0, 0, 0, 0), (.lastore, 1, 0, 0, 0, 0), (.goto 7, 3, 17, 0, 0, 0)]
theorem sgL_law_0_ok : qsg cL_law 13 5 false 0 sgL_law_0 = true := by decide +kernel
def sgL_law_15 : List qEl := [(.iconst 1, 1, 0, 0, 1, 0), (.ireturn, 1, 0, 0, 0, 0)]
theorem sgL_law_15_ok : qsg cL_law 13 5 false 15 sgL_law_15 = true := by decide +kernel
def sgL_law_17 : List qEl := [(.iconst 0, 1, 0, 0, 0, 0), (.ireturn, 1, 0, 0, 0, 0)]
theorem sgL_law_17_ok : qsg cL_law 13 5 false 17 sgL_law_17 = true := by decide +kernel
abbrev wL_law : qWr := (yL_law, cL_law, 5, 4, [(0, 10, 13, 13)])
theorem wL_law_ok : qWg wL_law := ⟨qtb_in 4 _ (List.mem_of_getElem? (i := 194) rfl), qat_in (p := (4, 193)) (by decide +kernel), qat_in (p := (1, 0)) (by decide +kernel), by decide +kernel, by decide +kernel, by decide, by decide, by decide⟩
def sgL_plan_0 : List qEl := [(.aload_n 2, 1, 0, 0, 0, 0), (.iconst 0, 1, 0, 0, 0, 0), (.aload_n 0, 1, 0, 0, 0, 0), (.iload_n 1, 1, 0, 0, 0, 0), (.invokevirtual 19, 3, 1, 1, 0, 0), (.i2l, 1, 0, 0, 0, 0), (.lastore, 1, 0, 0, 0, 0), (.goto 6, 3, 15, 0, 0, 0)]
theorem sgL_plan_0_ok : qsg cL_plan 13 4 false 0 sgL_plan_0 = true := by decide +kernel
def sgL_plan_12 : List qEl := [(.astore_n 3, 1, 0, 0, 0, 0)]
theorem sgL_plan_12_ok : qsg cL_plan 13 4 false 12 sgL_plan_12 = true := by decide +kernel
def sgL_plan_13 : List qEl := [(.iconst 1, 1, 0, 0, 1, 0), (.ireturn, 1, 0, 0, 0, 0)]
theorem sgL_plan_13_ok : qsg cL_plan 13 4 false 13 sgL_plan_13 = true := by decide +kernel
def sgL_plan_15 : List qEl := [(.iconst 0, 1, 0, 0, 0, 0), (.ireturn, 1, 0, 0, 0, 0)]
theorem sgL_plan_15_ok : qsg cL_plan 13 4 false 15 sgL_plan_15 = true := by decide +kernel
abbrev wL_plan : qWr := (yL_plan, cL_plan, 4, 3, [(0, 9, 12, 13)])
theorem wL_plan_ok : qWg wL_plan := ⟨qtb_in 5 _ (List.mem_of_getElem? (i := 12) rfl), qat_in (p := (5, 11)) (by decide +kernel), qat_in (p := (1, 0)) (by decide +kernel), by decide +kernel, by decide +kernel, by decide, by decide, by decide⟩
def sgL_book_0 : List qEl := [(.aload_n 2, 1, 0, 0, 0, 0), (.iconst 0, 1, 0, 0, 0, 0), (.aload_n 0, 1, 0, 0, 0, 0), (.iload_n 1, 1, 0, 0, 0, 0), (.invokevirtual 22, 3, 1, 1, 0, 0), (.i2l, 1, 0, 0, 0, 0), (.lastore, 1, 0, 0, 0, 0), (.goto 6, 3, 15, 0, 0, 0)]
theorem sgL_book_0_ok : qsg cL_book 13 4 false 0 sgL_book_0 = true := by decide +kernel
def sgL_book_12 : List qEl := [(.astore_n 3, 1, 0, 0, 0, 0)]
theorem sgL_book_12_ok : qsg cL_book 13 4 false 12 sgL_book_12 = true := by decide +kernel
def sgL_book_13 : List qEl := [(.iconst 1, 1, 0, 0, 1, 0), (.ireturn, 1, 0, 0, 0, 0)]
theorem sgL_book_13_ok : qsg cL_book 13 4 false 13 sgL_book_13 = true := by decide +kernel
def sgL_book_15 : List qEl := [(.iconst 0, 1, 0, 0, 0, 0), (.ireturn, 1, 0, 0, 0, 0)]
theorem sgL_book_15_ok : qsg cL_book 13 4 false 15 sgL_book_15 = true := by decide +kernel
abbrev wL_book : qWr := (yL_book, cL_book, 4, 3, [(0, 9, 12, 13)])
theorem wL_book_ok : qWg wL_book := ⟨qtb_in 5 _ (List.mem_of_getElem? (i := 37) rfl), qat_in (p := (5, 36)) (by decide +kernel), qat_in (p := (1, 0)) (by decide +kernel), by decide +kernel, by decide +kernel, by decide, by decide, by decide⟩
def sgL_told_0 : List qEl := [(.aload_n 2, 1, 0, 0, 0, 0), (.iconst 0, 1, 0, 0, 0, 0), (.aload_n 0, 1, 0, 0, 0, 0), (.iload_n 1, 1, 0, 0, 0, 0), (.invokevirtual 25, 3, 1, 1, 0, 0), (.i2l, 1, 0, 0, 0, 0), (.lastore, 1, 0, 0, 0, 0), (.goto 6, 3, 15, 0, 0, 0)]
theorem sgL_told_0_ok : qsg cL_told 13 4 false 0 sgL_told_0 = true := by decide +kernel
def sgL_told_12 : List qEl := [(.astore_n 3, 1, 0, 0, 0, 0)]
theorem sgL_told_12_ok : qsg cL_told 13 4 false 12 sgL_told_12 = true := by decide +kernel
def sgL_told_13 : List qEl := [(.iconst 1, 1, 0, 0, 1, 0), (.ireturn, 1, 0, 0, 0, 0)]
theorem sgL_told_13_ok : qsg cL_told 13 4 false 13 sgL_told_13 = true := by decide +kernel
def sgL_told_15 : List qEl := [(.iconst 0, 1, 0, 0, 0, 0), (.ireturn, 1, 0, 0, 0, 0)]
theorem sgL_told_15_ok : qsg cL_told 13 4 false 15 sgL_told_15 = true := by decide +kernel
abbrev wL_told : qWr := (yL_told, cL_told, 4, 3, [(0, 9, 12, 13)])
theorem wL_told_ok : qWg wL_told := ⟨qtb_in 5 _ (List.mem_of_getElem? (i := 65) rfl), qat_in (p := (5, 64)) (by decide +kernel), qat_in (p := (1, 0)) (by decide +kernel), by decide +kernel, by decide +kernel, by decide, by decide, by decide⟩
def sgL_door_0 : List qEl := [(.aload_n 3, 1, 0, 0, 0, 0), (.iconst 0, 1, 0, 0, 0, 0), (.aload_n 0, 1, 0, 0, 0, 0), (.iload_n 1, 1, 0, 0, 0, 0), (.iload_n 2, 1, 0, 0, 0, 0), (.invokevirtual 28, 3, 1, 2, 0, 0), (.i2l, 1, 0, 0, 0, 0), (.lastore, 1, 0, 0, 0, 0), (.goto 11, 3, 21, 0, 0, 0)]
theorem sgL_door_0_ok : qsg cL_door 13 5 false 0 sgL_door_0 = true := by decide +kernel
def sgL_door_15 : List qEl := [(.iconst 1, 1, 0, 0, 1, 0), (.ireturn, 1, 0, 0, 0, 0)]
theorem sgL_door_15_ok : qsg cL_door 13 5 false 15 sgL_door_15 = true := by decide +kernel
def sgL_door_19 : List qEl := [(.iconst 2, 1, 0, 0, 2, 0), (.ireturn, 1, 0, 0, 0, 0)]
theorem sgL_door_19_ok : qsg cL_door 13 5 false 19 sgL_door_19 = true := by decide +kernel
def sgL_door_21 : List qEl := [(.iconst 0, 1, 0, 0, 0, 0), (.ireturn, 1, 0, 0, 0, 0)]
theorem sgL_door_21_ok : qsg cL_door 13 5 false 21 sgL_door_21 = true := by decide +kernel
abbrev wL_door : qWr := (yL_door, cL_door, 5, 4, [(0, 10, 13, 31), (0, 10, 17, 13)])
theorem wL_door_ok : qWg wL_door := ⟨qtb_in 5 _ (List.mem_of_getElem? (i := 72) rfl), qat_in (p := (5, 71)) (by decide +kernel), qat_in (p := (1, 0)) (by decide +kernel), by decide +kernel, by decide +kernel, by decide, by decide, by decide⟩
def sgL_singer_0 : List qEl := [(.aload_n 3, 1, 0, 0, 0, 0), (.iconst 0, 1, 0, 0, 0, 0), (.aload_n 0, 1, 0, 0, 0, 0), (.iload_n 1, 1, 0, 0, 0, 0), (.iload_n 2, 1, 0, 0, 0, 0), (.invokevirtual 33, 3, 1, 2, 0, 0), (.i2l, 1, 0, 0, 0, 0), (.lastore, 1, 0, 0, 0, 0), (.goto 11, 3, 21, 0, 0, 0)]
theorem sgL_singer_0_ok : qsg cL_singer 13 5 false 0 sgL_singer_0 = true := by decide +kernel
def sgL_singer_15 : List qEl := [(.iconst 1, 1, 0, 0, 1, 0), (.ireturn, 1, 0, 0, 0, 0)]
theorem sgL_singer_15_ok : qsg cL_singer 13 5 false 15 sgL_singer_15 = true := by decide +kernel
def sgL_singer_19 : List qEl := [(.iconst 2, 1, 0, 0, 2, 0), (.ireturn, 1, 0, 0, 0, 0)]
theorem sgL_singer_19_ok : qsg cL_singer 13 5 false 19 sgL_singer_19 = true := by decide +kernel
def sgL_singer_21 : List qEl := [(.iconst 0, 1, 0, 0, 0, 0), (.ireturn, 1, 0, 0, 0, 0)]
theorem sgL_singer_21_ok : qsg cL_singer 13 5 false 21 sgL_singer_21 = true := by decide +kernel
abbrev wL_singer : qWr := (yL_singer, cL_singer, 5, 4, [(0, 10, 13, 31), (0, 10, 17, 13)])
theorem wL_singer_ok : qWg wL_singer := ⟨qtb_in 5 _ (List.mem_of_getElem? (i := 105) rfl), qat_in (p := (5, 104)) (by decide +kernel), qat_in (p := (1, 0)) (by decide +kernel), by decide +kernel, by decide +kernel, by decide, by decide, by decide⟩
def sgL_line_0 : List qEl := [(.aload_n 3, 1, 0, 0, 0, 0), (.iconst 0, 1, 0, 0, 0, 0), (.aload_n 0, 1, 0, 0, 0, 0), (.iload_n 1, 1, 0, 0, 0, 0), (.iload_n 2, 1, 0, 0, 0, 0), (.invokevirtual 36, 3, 1, 2, 0, 0), (.i2l, 1, 0, 0, 0, 0), (.lastore, 1, 0, 0, 0, 0), (.goto 11, 3, 21, 0, 0, 0)]
theorem sgL_line_0_ok : qsg cL_line 13 5 false 0 sgL_line_0 = true := by decide +kernel
def sgL_line_15 : List qEl := [(.iconst 1, 1, 0, 0, 1, 0), (.ireturn, 1, 0, 0, 0, 0)]
theorem sgL_line_15_ok : qsg cL_line 13 5 false 15 sgL_line_15 = true := by decide +kernel
def sgL_line_19 : List qEl := [(.iconst 2, 1, 0, 0, 2, 0), (.ireturn, 1, 0, 0, 0, 0)]
theorem sgL_line_19_ok : qsg cL_line 13 5 false 19 sgL_line_19 = true := by decide +kernel
def sgL_line_21 : List qEl := [(.iconst 0, 1, 0, 0, 0, 0), (.ireturn, 1, 0, 0, 0, 0)]
theorem sgL_line_21_ok : qsg cL_line 13 5 false 21 sgL_line_21 = true := by decide +kernel
abbrev wL_line : qWr := (yL_line, cL_line, 5, 4, [(0, 10, 13, 31), (0, 10, 17, 13)])
theorem wL_line_ok : qWg wL_line := ⟨qtb_in 5 _ (List.mem_of_getElem? (i := 113) rfl), qat_in (p := (5, 112)) (by decide +kernel), qat_in (p := (1, 0)) (by decide +kernel), by decide +kernel, by decide +kernel, by decide, by decide, by decide⟩
def sgL_gives_0 : List qEl := [(.aload 4, 2, 0, 0, 0, 0), (.iconst 0, 1, 0, 0, 0, 0), (.aload_n 0, 1, 0, 0, 0, 0), (.iload_n 1, 1, 0, 0, 0, 0), (.iload_n 2, 1, 0, 0, 0, 0), (.iload_n 3, 1, 0, 0, 0, 0), (.invokevirtual 39, 3, 1, 3, 0, 0), (.i2l, 1, 0, 0, 0, 0), (.lastore, 1, 0, 0, 0, 0), (.goto 11, 3, 23, 0, 0, 0)]
theorem sgL_gives_0_ok : qsg cL_gives 13 6 false 0 sgL_gives_0 = true := by decide +kernel
def sgL_gives_17 : List qEl := [(.iconst 1, 1, 0, 0, 1, 0), (.ireturn, 1, 0, 0, 0, 0)]
theorem sgL_gives_17_ok : qsg cL_gives 13 6 false 17 sgL_gives_17 = true := by decide +kernel
def sgL_gives_21 : List qEl := [(.iconst 2, 1, 0, 0, 2, 0), (.ireturn, 1, 0, 0, 0, 0)]
theorem sgL_gives_21_ok : qsg cL_gives 13 6 false 21 sgL_gives_21 = true := by decide +kernel
def sgL_gives_23 : List qEl := [(.iconst 0, 1, 0, 0, 0, 0), (.ireturn, 1, 0, 0, 0, 0)]
theorem sgL_gives_23_ok : qsg cL_gives 13 6 false 23 sgL_gives_23 = true := by decide +kernel
abbrev wL_gives : qWr := (yL_gives, cL_gives, 6, 5, [(0, 12, 15, 31), (0, 12, 19, 13)])
theorem wL_gives_ok : qWg wL_gives := ⟨qtb_in 5 _ (List.mem_of_getElem? (i := 126) rfl), qat_in (p := (5, 125)) (by decide +kernel), qat_in (p := (1, 0)) (by decide +kernel), by decide +kernel, by decide +kernel, by decide, by decide, by decide⟩
def sgL_mean_0 : List qEl := [(.aload 6, 2, 0, 0, 0, 0), (.iconst 0, 1, 0, 0, 0, 0), (.aload_n 0, 1, 0, 0, 0, 0), (.iload_n 1, 1, 0, 0, 0, 0), (.iload_n 2, 1, 0, 0, 0, 0), (.iload_n 3, 1, 0, 0, 0, 0), (.iload 4, 2, 0, 0, 0, 0), (.iload 5, 2, 0, 0, 0, 0), (.invokevirtual 43, 3, 1, 5, 0, 0), (.lastore, 1, 0, 0, 0, 0), (.goto 11, 3, 26, 0, 0, 0)]
theorem sgL_mean_0_ok : qsg cL_mean 13 8 false 0 sgL_mean_0 = true := by decide +kernel
def sgL_mean_20 : List qEl := [(.iconst 1, 1, 0, 0, 1, 0), (.ireturn, 1, 0, 0, 0, 0)]
theorem sgL_mean_20_ok : qsg cL_mean 13 8 false 20 sgL_mean_20 = true := by decide +kernel
def sgL_mean_24 : List qEl := [(.iconst 2, 1, 0, 0, 2, 0), (.ireturn, 1, 0, 0, 0, 0)]
theorem sgL_mean_24_ok : qsg cL_mean 13 8 false 24 sgL_mean_24 = true := by decide +kernel
def sgL_mean_26 : List qEl := [(.iconst 0, 1, 0, 0, 0, 0), (.ireturn, 1, 0, 0, 0, 0)]
theorem sgL_mean_26_ok : qsg cL_mean 13 8 false 26 sgL_mean_26 = true := by decide +kernel
abbrev wL_mean : qWr := (yL_mean, cL_mean, 8, 7, [(0, 15, 18, 31), (0, 15, 22, 13)])
theorem wL_mean_ok : qWg wL_mean := ⟨qtb_in 5 _ (List.mem_of_getElem? (i := 134) rfl), qat_in (p := (5, 133)) (by decide +kernel), qat_in (p := (1, 0)) (by decide +kernel), by decide +kernel, by decide +kernel, by decide, by decide, by decide⟩
def sgL_planned_0 : List qEl := [(.aload_n 3, 1, 0, 0, 0, 0), (.iconst 0, 1, 0, 0, 0, 0), (.aload_n 0, 1, 0, 0, 0, 0), (.iload_n 1, 1, 0, 0, 0, 0), (.iload_n 2, 1, 0, 0, 0, 0), (.invokevirtual 47, 3, 1, 2, 0, 0), (.lastore, 1, 0, 0, 0, 0), (.goto 7, 3, 16, 0, 0, 0)]
theorem sgL_planned_0_ok : qsg cL_planned 13 5 false 0 sgL_planned_0 = true := by decide +kernel
def sgL_planned_14 : List qEl := [(.iconst 1, 1, 0, 0, 1, 0), (.ireturn, 1, 0, 0, 0, 0)]
theorem sgL_planned_14_ok : qsg cL_planned 13 5 false 14 sgL_planned_14 = true := by decide +kernel
def sgL_planned_16 : List qEl := [(.iconst 0, 1, 0, 0, 0, 0), (.ireturn, 1, 0, 0, 0, 0)]
theorem sgL_planned_16_ok : qsg cL_planned 13 5 false 16 sgL_planned_16 = true := by decide +kernel
abbrev wL_planned : qWr := (yL_planned, cL_planned, 5, 4, [(0, 9, 12, 13)])
theorem wL_planned_ok : qWg wL_planned := ⟨qtb_in 5 _ (List.mem_of_getElem? (i := 153) rfl), qat_in (p := (5, 152)) (by decide +kernel), qat_in (p := (1, 0)) (by decide +kernel), by decide +kernel, by decide +kernel, by decide, by decide, by decide⟩
def sgL_best_0 : List qEl := [(.aload_n 3, 1, 0, 0, 0, 0), (.iconst 0, 1, 0, 0, 0, 0), (.aload_n 0, 1, 0, 0, 0, 0), (.iload_n 1, 1, 0, 0, 0, 0), (.iload_n 2, 1, 0, 0, 0, 0), (.invokevirtual 51, 3, 1, 2, 0, 0), (.lastore, 1, 0, 0, 0, 0), (.goto 11, 3, 20, 0, 0, 0)]
theorem sgL_best_0_ok : qsg cL_best 13 5 false 0 sgL_best_0 = true := by decide +kernel
def sgL_best_14 : List qEl := [(.iconst 1, 1, 0, 0, 1, 0), (.ireturn, 1, 0, 0, 0, 0)]
theorem sgL_best_14_ok : qsg cL_best 13 5 false 14 sgL_best_14 = true := by decide +kernel
def sgL_best_18 : List qEl := [(.iconst 2, 1, 0, 0, 2, 0), (.ireturn, 1, 0, 0, 0, 0)]
theorem sgL_best_18_ok : qsg cL_best 13 5 false 18 sgL_best_18 = true := by decide +kernel
def sgL_best_20 : List qEl := [(.iconst 0, 1, 0, 0, 0, 0), (.ireturn, 1, 0, 0, 0, 0)]
theorem sgL_best_20_ok : qsg cL_best 13 5 false 20 sgL_best_20 = true := by decide +kernel
abbrev wL_best : qWr := (yL_best, cL_best, 5, 4, [(0, 9, 12, 13), (0, 9, 16, 54)])
theorem wL_best_ok : qWg wL_best := ⟨qtb_in 5 _ (List.mem_of_getElem? (i := 169) rfl), qat_in (p := (5, 168)) (by decide +kernel), qat_in (p := (1, 0)) (by decide +kernel), by decide +kernel, by decide +kernel, by decide, by decide, by decide⟩
def sgL_bestAt_0 : List qEl := [(.aload_n 3, 1, 0, 0, 0, 0), (.iconst 0, 1, 0, 0, 0, 0), (.aload_n 0, 1, 0, 0, 0, 0), (.iload_n 1, 1, 0, 0, 0, 0), (.iload_n 2, 1, 0, 0, 0, 0), (.invokevirtual 56, 3, 1, 2, 0, 0), (.i2l, 1, 0, 0, 0, 0), (.lastore, 1, 0, 0, 0, 0), (.goto 15, 3, 25, 0, 0, 0)]
theorem sgL_bestAt_0_ok : qsg cL_bestAt 13 5 false 0 sgL_bestAt_0 = true := by decide +kernel
def sgL_bestAt_15 : List qEl := [(.iconst 1, 1, 0, 0, 1, 0), (.ireturn, 1, 0, 0, 0, 0)]
theorem sgL_bestAt_15_ok : qsg cL_bestAt 13 5 false 15 sgL_bestAt_15 = true := by decide +kernel
def sgL_bestAt_19 : List qEl := [(.iconst 2, 1, 0, 0, 2, 0), (.ireturn, 1, 0, 0, 0, 0)]
theorem sgL_bestAt_19_ok : qsg cL_bestAt 13 5 false 19 sgL_bestAt_19 = true := by decide +kernel
def sgL_bestAt_23 : List qEl := [(.iconst 3, 1, 0, 0, 3, 0), (.ireturn, 1, 0, 0, 0, 0)]
theorem sgL_bestAt_23_ok : qsg cL_bestAt 13 5 false 23 sgL_bestAt_23 = true := by decide +kernel
def sgL_bestAt_25 : List qEl := [(.iconst 0, 1, 0, 0, 0, 0), (.ireturn, 1, 0, 0, 0, 0)]
theorem sgL_bestAt_25_ok : qsg cL_bestAt 13 5 false 25 sgL_bestAt_25 = true := by decide +kernel
abbrev wL_bestAt : qWr := (yL_bestAt, cL_bestAt, 5, 4, [(0, 10, 13, 31), (0, 10, 17, 13), (0, 10, 21, 54)])
theorem wL_bestAt_ok : qWg wL_bestAt := ⟨qtb_in 5 _ (List.mem_of_getElem? (i := 224) rfl), qat_in (p := (5, 223)) (by decide +kernel), qat_in (p := (1, 0)) (by decide +kernel), by decide +kernel, by decide +kernel, by decide, by decide, by decide⟩
def sgL_bestLong_0 : List qEl := [(.aload_n 2, 1, 0, 0, 0, 0), (.iconst 0, 1, 0, 0, 0, 0), (.aload_n 0, 1, 0, 0, 0, 0), (.iload_n 1, 1, 0, 0, 0, 0), (.invokevirtual 59, 3, 1, 1, 0, 0), (.i2l, 1, 0, 0, 0, 0), (.lastore, 1, 0, 0, 0, 0), (.goto 9, 3, 18, 0, 0, 0)]
theorem sgL_bestLong_0_ok : qsg cL_bestLong 13 4 false 0 sgL_bestLong_0 = true := by decide +kernel
def sgL_bestLong_12 : List qEl := [(.astore_n 3, 1, 0, 0, 0, 0)]
theorem sgL_bestLong_12_ok : qsg cL_bestLong 13 4 false 12 sgL_bestLong_12 = true := by decide +kernel
def sgL_bestLong_13 : List qEl := [(.iconst 1, 1, 0, 0, 1, 0), (.ireturn, 1, 0, 0, 0, 0)]
theorem sgL_bestLong_13_ok : qsg cL_bestLong 13 4 false 13 sgL_bestLong_13 = true := by decide +kernel
def sgL_bestLong_15 : List qEl := [(.astore_n 3, 1, 0, 0, 0, 0)]
theorem sgL_bestLong_15_ok : qsg cL_bestLong 13 4 false 15 sgL_bestLong_15 = true := by decide +kernel
def sgL_bestLong_16 : List qEl := [(.iconst 2, 1, 0, 0, 2, 0), (.ireturn, 1, 0, 0, 0, 0)]
theorem sgL_bestLong_16_ok : qsg cL_bestLong 13 4 false 16 sgL_bestLong_16 = true := by decide +kernel
def sgL_bestLong_18 : List qEl := [(.iconst 0, 1, 0, 0, 0, 0), (.ireturn, 1, 0, 0, 0, 0)]
theorem sgL_bestLong_18_ok : qsg cL_bestLong 13 4 false 18 sgL_bestLong_18 = true := by decide +kernel
abbrev wL_bestLong : qWr := (yL_bestLong, cL_bestLong, 4, 3, [(0, 9, 12, 13), (0, 9, 15, 54)])
theorem wL_bestLong_ok : qWg wL_bestLong := ⟨qtb_in 5 _ (List.mem_of_getElem? (i := 235) rfl), qat_in (p := (5, 234)) (by decide +kernel), qat_in (p := (1, 0)) (by decide +kernel), by decide +kernel, by decide +kernel, by decide, by decide, by decide⟩
def sgL_home_0 : List qEl := [(.aload 5, 2, 0, 0, 0, 0), (.iconst 0, 1, 0, 0, 0, 0), (.aload_n 0, 1, 0, 0, 0, 0), (.iload_n 1, 1, 0, 0, 0, 0), (.iload_n 2, 1, 0, 0, 0, 0), (.iload_n 3, 1, 0, 0, 0, 0), (.iload 4, 2, 0, 0, 0, 0), (.invokevirtual 62, 3, 1, 4, 0, 0), (.lastore, 1, 0, 0, 0, 0), (.goto 11, 3, 24, 0, 0, 0)]
theorem sgL_home_0_ok : qsg cL_home 13 7 false 0 sgL_home_0 = true := by decide +kernel
def sgL_home_18 : List qEl := [(.iconst 1, 1, 0, 0, 1, 0), (.ireturn, 1, 0, 0, 0, 0)]
theorem sgL_home_18_ok : qsg cL_home 13 7 false 18 sgL_home_18 = true := by decide +kernel
def sgL_home_22 : List qEl := [(.iconst 2, 1, 0, 0, 2, 0), (.ireturn, 1, 0, 0, 0, 0)]
theorem sgL_home_22_ok : qsg cL_home 13 7 false 22 sgL_home_22 = true := by decide +kernel
def sgL_home_24 : List qEl := [(.iconst 0, 1, 0, 0, 0, 0), (.ireturn, 1, 0, 0, 0, 0)]
theorem sgL_home_24_ok : qsg cL_home 13 7 false 24 sgL_home_24 = true := by decide +kernel
abbrev wL_home : qWr := (yL_home, cL_home, 7, 6, [(0, 13, 16, 31), (0, 13, 20, 13)])
theorem wL_home_ok : qWg wL_home := ⟨qtb_in 6 _ (List.mem_of_getElem? (i := 2) rfl), qat_in (p := (6, 1)) (by decide +kernel), qat_in (p := (1, 0)) (by decide +kernel), by decide +kernel, by decide +kernel, by decide, by decide, by decide⟩
def sgL_another_0 : List qEl := [(.aload 5, 2, 0, 0, 0, 0), (.iconst 0, 1, 0, 0, 0, 0), (.aload_n 0, 1, 0, 0, 0, 0), (.iload_n 1, 1, 0, 0, 0, 0), (.iload_n 2, 1, 0, 0, 0, 0), (.iload_n 3, 1, 0, 0, 0, 0), (.iload 4, 2, 0, 0, 0, 0), (.invokevirtual 66, 3, 1, 4, 0, 0), (.lastore, 1, 0, 0, 0, 0), (.goto 11, 3, 24, 0, 0, 0)]
theorem sgL_another_0_ok : qsg cL_another 13 7 false 0 sgL_another_0 = true := by decide +kernel
def sgL_another_18 : List qEl := [(.iconst 1, 1, 0, 0, 1, 0), (.ireturn, 1, 0, 0, 0, 0)]
theorem sgL_another_18_ok : qsg cL_another 13 7 false 18 sgL_another_18 = true := by decide +kernel
def sgL_another_22 : List qEl := [(.iconst 2, 1, 0, 0, 2, 0), (.ireturn, 1, 0, 0, 0, 0)]
theorem sgL_another_22_ok : qsg cL_another 13 7 false 22 sgL_another_22 = true := by decide +kernel
def sgL_another_24 : List qEl := [(.iconst 0, 1, 0, 0, 0, 0), (.ireturn, 1, 0, 0, 0, 0)]
theorem sgL_another_24_ok : qsg cL_another 13 7 false 24 sgL_another_24 = true := by decide +kernel
abbrev wL_another : qWr := (yL_another, cL_another, 7, 6, [(0, 13, 16, 31), (0, 13, 20, 13)])
theorem wL_another_ok : qWg wL_another := ⟨qtb_in 6 _ (List.mem_of_getElem? (i := 24) rfl), qat_in (p := (6, 23)) (by decide +kernel), qat_in (p := (1, 0)) (by decide +kernel), by decide +kernel, by decide +kernel, by decide, by decide, by decide⟩
def sgL_lineAt_0 : List qEl := [(.aload 4, 2, 0, 0, 0, 0), (.iconst 0, 1, 0, 0, 0, 0), (.aload_n 0, 1, 0, 0, 0, 0), (.iload_n 1, 1, 0, 0, 0, 0), (.iload_n 2, 1, 0, 0, 0, 0), (.iload_n 3, 1, 0, 0, 0, 0), (.invokevirtual 69, 3, 1, 3, 0, 0), (.i2l, 1, 0, 0, 0, 0), (.lastore, 1, 0, 0, 0, 0), (.goto 11, 3, 23, 0, 0, 0)]
theorem sgL_lineAt_0_ok : qsg cL_lineAt 13 6 false 0 sgL_lineAt_0 = true := by decide +kernel
def sgL_lineAt_17 : List qEl := [(.iconst 1, 1, 0, 0, 1, 0), (.ireturn, 1, 0, 0, 0, 0)]
theorem sgL_lineAt_17_ok : qsg cL_lineAt 13 6 false 17 sgL_lineAt_17 = true := by decide +kernel
def sgL_lineAt_21 : List qEl := [(.iconst 2, 1, 0, 0, 2, 0), (.ireturn, 1, 0, 0, 0, 0)]
theorem sgL_lineAt_21_ok : qsg cL_lineAt 13 6 false 21 sgL_lineAt_21 = true := by decide +kernel
def sgL_lineAt_23 : List qEl := [(.iconst 0, 1, 0, 0, 0, 0), (.ireturn, 1, 0, 0, 0, 0)]
theorem sgL_lineAt_23_ok : qsg cL_lineAt 13 6 false 23 sgL_lineAt_23 = true := by decide +kernel
abbrev wL_lineAt : qWr := (yL_lineAt, cL_lineAt, 6, 5, [(0, 12, 15, 31), (0, 12, 19, 13)])
theorem wL_lineAt_ok : qWg wL_lineAt := ⟨qtb_in 6 _ (List.mem_of_getElem? (i := 32) rfl), qat_in (p := (6, 31)) (by decide +kernel), qat_in (p := (1, 0)) (by decide +kernel), by decide +kernel, by decide +kernel, by decide, by decide, by decide⟩
def sgL_ring_0 : List qEl := [(.aload_n 3, 1, 0, 0, 0, 0), (.iconst 0, 1, 0, 0, 0, 0), (.aload_n 0, 1, 0, 0, 0, 0), (.iload_n 1, 1, 0, 0, 0, 0), (.iload_n 2, 1, 0, 0, 0, 0), (.invokevirtual 72, 3, 1, 2, 0, 0), (.i2l, 1, 0, 0, 0, 0), (.lastore, 1, 0, 0, 0, 0), (.goto 11, 3, 21, 0, 0, 0)]
theorem sgL_ring_0_ok : qsg cL_ring 13 5 false 0 sgL_ring_0 = true := by decide +kernel
def sgL_ring_15 : List qEl := [(.iconst 1, 1, 0, 0, 1, 0), (.ireturn, 1, 0, 0, 0, 0)]
theorem sgL_ring_15_ok : qsg cL_ring 13 5 false 15 sgL_ring_15 = true := by decide +kernel
def sgL_ring_19 : List qEl := [(.iconst 2, 1, 0, 0, 2, 0), (.ireturn, 1, 0, 0, 0, 0)]
theorem sgL_ring_19_ok : qsg cL_ring 13 5 false 19 sgL_ring_19 = true := by decide +kernel
def sgL_ring_21 : List qEl := [(.iconst 0, 1, 0, 0, 0, 0), (.ireturn, 1, 0, 0, 0, 0)]
theorem sgL_ring_21_ok : qsg cL_ring 13 5 false 21 sgL_ring_21 = true := by decide +kernel
abbrev wL_ring : qWr := (yL_ring, cL_ring, 5, 4, [(0, 10, 13, 31), (0, 10, 17, 13)])
theorem wL_ring_ok : qWg wL_ring := ⟨qtb_in 6 _ (List.mem_of_getElem? (i := 44) rfl), qat_in (p := (6, 43)) (by decide +kernel), qat_in (p := (1, 0)) (by decide +kernel), by decide +kernel, by decide +kernel, by decide, by decide, by decide⟩
def sgL_pays_0 : List qEl := [(.aload 5, 2, 0, 0, 0, 0), (.iconst 0, 1, 0, 0, 0, 0), (.aload_n 0, 1, 0, 0, 0, 0), (.iload_n 1, 1, 0, 0, 0, 0), (.iload_n 2, 1, 0, 0, 0, 0), (.iload_n 3, 1, 0, 0, 0, 0), (.iload 4, 2, 0, 0, 0, 0), (.invokevirtual 75, 3, 1, 4, 0, 0), (.ifCond .eq 7, 3, 19, 0, 0, 0), (.lconst 1, 1, 0, 0, 0, 1), (.goto 4, 3, 20, 0, 0, 0)]
theorem sgL_pays_0_ok : qsg cL_pays 13 7 false 0 sgL_pays_0 = true := by decide +kernel
def sgL_pays_19 : List qEl := [(.lconst 0, 1, 0, 0, 0, 0)]
theorem sgL_pays_19_ok : qsg cL_pays 13 7 false 19 sgL_pays_19 = true := by decide +kernel
def sgL_pays_20 : List qEl := [(.lastore, 1, 0, 0, 0, 0), (.goto 11, 3, 32, 0, 0, 0)]
theorem sgL_pays_20_ok : qsg cL_pays 13 7 false 20 sgL_pays_20 = true := by decide +kernel
def sgL_pays_26 : List qEl := [(.iconst 1, 1, 0, 0, 1, 0), (.ireturn, 1, 0, 0, 0, 0)]
theorem sgL_pays_26_ok : qsg cL_pays 13 7 false 26 sgL_pays_26 = true := by decide +kernel
def sgL_pays_30 : List qEl := [(.iconst 2, 1, 0, 0, 2, 0), (.ireturn, 1, 0, 0, 0, 0)]
theorem sgL_pays_30_ok : qsg cL_pays 13 7 false 30 sgL_pays_30 = true := by decide +kernel
def sgL_pays_32 : List qEl := [(.iconst 0, 1, 0, 0, 0, 0), (.ireturn, 1, 0, 0, 0, 0)]
theorem sgL_pays_32_ok : qsg cL_pays 13 7 false 32 sgL_pays_32 = true := by decide +kernel
abbrev wL_pays : qWr := (yL_pays, cL_pays, 7, 6, [(0, 21, 24, 31), (0, 21, 28, 13)])
theorem wL_pays_ok : qWg wL_pays := ⟨qtb_in 6 _ (List.mem_of_getElem? (i := 51) rfl), qat_in (p := (6, 50)) (by decide +kernel), qat_in (p := (1, 0)) (by decide +kernel), by decide +kernel, by decide +kernel, by decide, by decide, by decide⟩
def sgL_stop_0 : List qEl := [(.aload_n 2, 1, 0, 0, 0, 0), (.iconst 0, 1, 0, 0, 0, 0), (.aload_n 0, 1, 0, 0, 0, 0), (.iload_n 1, 1, 0, 0, 0, 0), (.invokevirtual 79, 3, 1, 1, 0, 0), (.i2l, 1, 0, 0, 0, 0), (.lastore, 1, 0, 0, 0, 0), (.goto 6, 3, 15, 0, 0, 0)]
theorem sgL_stop_0_ok : qsg cL_stop 13 4 false 0 sgL_stop_0 = true := by decide +kernel
def sgL_stop_12 : List qEl := [(.astore_n 3, 1, 0, 0, 0, 0)]
theorem sgL_stop_12_ok : qsg cL_stop 13 4 false 12 sgL_stop_12 = true := by decide +kernel
def sgL_stop_13 : List qEl := [(.iconst 1, 1, 0, 0, 1, 0), (.ireturn, 1, 0, 0, 0, 0)]
theorem sgL_stop_13_ok : qsg cL_stop 13 4 false 13 sgL_stop_13 = true := by decide +kernel
def sgL_stop_15 : List qEl := [(.iconst 0, 1, 0, 0, 0, 0), (.ireturn, 1, 0, 0, 0, 0)]
theorem sgL_stop_15_ok : qsg cL_stop 13 4 false 15 sgL_stop_15 = true := by decide +kernel
abbrev wL_stop : qWr := (yL_stop, cL_stop, 4, 3, [(0, 9, 12, 13)])
theorem wL_stop_ok : qWg wL_stop := ⟨qtb_in 6 _ (List.mem_of_getElem? (i := 58) rfl), qat_in (p := (6, 57)) (by decide +kernel), qat_in (p := (1, 0)) (by decide +kernel), by decide +kernel, by decide +kernel, by decide, by decide, by decide⟩
def sgL_lasts_0 : List qEl := [(.aload_n 3, 1, 0, 0, 0, 0), (.iconst 0, 1, 0, 0, 0, 0), (.aload_n 0, 1, 0, 0, 0, 0), (.iload_n 1, 1, 0, 0, 0, 0), (.iload_n 2, 1, 0, 0, 0, 0), (.invokevirtual 82, 3, 1, 2, 0, 0), (.i2l, 1, 0, 0, 0, 0), (.lastore, 1, 0, 0, 0, 0), (.goto 7, 3, 17, 0, 0, 0)]
theorem sgL_lasts_0_ok : qsg cL_lasts 13 5 false 0 sgL_lasts_0 = true := by decide +kernel
def sgL_lasts_15 : List qEl := [(.iconst 1, 1, 0, 0, 1, 0), (.ireturn, 1, 0, 0, 0, 0)]
theorem sgL_lasts_15_ok : qsg cL_lasts 13 5 false 15 sgL_lasts_15 = true := by decide +kernel
def sgL_lasts_17 : List qEl := [(.iconst 0, 1, 0, 0, 0, 0), (.ireturn, 1, 0, 0, 0, 0)]
theorem sgL_lasts_17_ok : qsg cL_lasts 13 5 false 17 sgL_lasts_17 = true := by decide +kernel
abbrev wL_lasts : qWr := (yL_lasts, cL_lasts, 5, 4, [(0, 10, 13, 13)])
theorem wL_lasts_ok : qWg wL_lasts := ⟨qtb_in 6 _ (List.mem_of_getElem? (i := 65) rfl), qat_in (p := (6, 64)) (by decide +kernel), qat_in (p := (1, 0)) (by decide +kernel), by decide +kernel, by decide +kernel, by decide, by decide, by decide⟩
def sgL_without_0 : List qEl := [(.aload 4, 2, 0, 0, 0, 0), (.iconst 0, 1, 0, 0, 0, 0), (.aload_n 0, 1, 0, 0, 0, 0), (.iload_n 1, 1, 0, 0, 0, 0), (.iload_n 2, 1, 0, 0, 0, 0), (.iload_n 3, 1, 0, 0, 0, 0), (.invokevirtual 85, 3, 1, 3, 0, 0), (.i2l, 1, 0, 0, 0, 0), (.lastore, 1, 0, 0, 0, 0), (.goto 7, 3, 19, 0, 0, 0)]
theorem sgL_without_0_ok : qsg cL_without 13 6 false 0 sgL_without_0 = true := by decide +kernel
def sgL_without_17 : List qEl := [(.iconst 1, 1, 0, 0, 1, 0), (.ireturn, 1, 0, 0, 0, 0)]
theorem sgL_without_17_ok : qsg cL_without 13 6 false 17 sgL_without_17 = true := by decide +kernel
def sgL_without_19 : List qEl := [(.iconst 0, 1, 0, 0, 0, 0), (.ireturn, 1, 0, 0, 0, 0)]
theorem sgL_without_19_ok : qsg cL_without 13 6 false 19 sgL_without_19 = true := by decide +kernel
abbrev wL_without : qWr := (yL_without, cL_without, 6, 5, [(0, 12, 15, 13)])
theorem wL_without_ok : qWg wL_without := ⟨qtb_in 6 _ (List.mem_of_getElem? (i := 88) rfl), qat_in (p := (6, 87)) (by decide +kernel), qat_in (p := (1, 0)) (by decide +kernel), by decide +kernel, by decide +kernel, by decide, by decide, by decide⟩
def sgL_there_0 : List qEl := [(.aload_n 2, 1, 0, 0, 0, 0), (.iconst 0, 1, 0, 0, 0, 0), (.aload_n 0, 1, 0, 0, 0, 0), (.iload_n 1, 1, 0, 0, 0, 0), (.invokevirtual 88, 3, 1, 1, 0, 0), (.i2l, 1, 0, 0, 0, 0), (.lastore, 1, 0, 0, 0, 0), (.goto 6, 3, 15, 0, 0, 0)]
theorem sgL_there_0_ok : qsg cL_there 13 4 false 0 sgL_there_0 = true := by decide +kernel
def sgL_there_12 : List qEl := [(.astore_n 3, 1, 0, 0, 0, 0)]
theorem sgL_there_12_ok : qsg cL_there 13 4 false 12 sgL_there_12 = true := by decide +kernel
def sgL_there_13 : List qEl := [(.iconst 1, 1, 0, 0, 1, 0), (.ireturn, 1, 0, 0, 0, 0)]
theorem sgL_there_13_ok : qsg cL_there 13 4 false 13 sgL_there_13 = true := by decide +kernel
def sgL_there_15 : List qEl := [(.iconst 0, 1, 0, 0, 0, 0), (.ireturn, 1, 0, 0, 0, 0)]
theorem sgL_there_15_ok : qsg cL_there 13 4 false 15 sgL_there_15 = true := by decide +kernel
abbrev wL_there : qWr := (yL_there, cL_there, 4, 3, [(0, 9, 12, 13)])
theorem wL_there_ok : qWg wL_there := ⟨qtb_in 6 _ (List.mem_of_getElem? (i := 95) rfl), qat_in (p := (6, 94)) (by decide +kernel), qat_in (p := (1, 0)) (by decide +kernel), by decide +kernel, by decide +kernel, by decide, by decide, by decide⟩
def sgL_soloJoy_0 : List qEl := [(.aload_n 2, 1, 0, 0, 0, 0), (.iconst 0, 1, 0, 0, 0, 0), (.aload_n 0, 1, 0, 0, 0, 0), (.iload_n 1, 1, 0, 0, 0, 0), (.invokevirtual 91, 3, 1, 1, 0, 0), (.lastore, 1, 0, 0, 0, 0), (.goto 6, 3, 14, 0, 0, 0)]
theorem sgL_soloJoy_0_ok : qsg cL_soloJoy 13 4 false 0 sgL_soloJoy_0 = true := by decide +kernel
def sgL_soloJoy_11 : List qEl := [(.astore_n 3, 1, 0, 0, 0, 0)]
theorem sgL_soloJoy_11_ok : qsg cL_soloJoy 13 4 false 11 sgL_soloJoy_11 = true := by decide +kernel
def sgL_soloJoy_12 : List qEl := [(.iconst 1, 1, 0, 0, 1, 0), (.ireturn, 1, 0, 0, 0, 0)]
theorem sgL_soloJoy_12_ok : qsg cL_soloJoy 13 4 false 12 sgL_soloJoy_12 = true := by decide +kernel
def sgL_soloJoy_14 : List qEl := [(.iconst 0, 1, 0, 0, 0, 0), (.ireturn, 1, 0, 0, 0, 0)]
theorem sgL_soloJoy_14_ok : qsg cL_soloJoy 13 4 false 14 sgL_soloJoy_14 = true := by decide +kernel
abbrev wL_soloJoy : qWr := (yL_soloJoy, cL_soloJoy, 4, 3, [(0, 8, 11, 13)])
theorem wL_soloJoy_ok : qWg wL_soloJoy := ⟨qtb_in 6 _ (List.mem_of_getElem? (i := 106) rfl), qat_in (p := (6, 105)) (by decide +kernel), qat_in (p := (1, 0)) (by decide +kernel), by decide +kernel, by decide +kernel, by decide, by decide, by decide⟩
def sgL_party_0 : List qEl := [(.aload_n 2, 1, 0, 0, 0, 0), (.iconst 0, 1, 0, 0, 0, 0), (.aload_n 0, 1, 0, 0, 0, 0), (.iload_n 1, 1, 0, 0, 0, 0), (.invokevirtual 95, 3, 1, 1, 0, 0), (.i2l, 1, 0, 0, 0, 0), (.lastore, 1, 0, 0, 0, 0), (.goto 6, 3, 15, 0, 0, 0)]
theorem sgL_party_0_ok : qsg cL_party 13 4 false 0 sgL_party_0 = true := by decide +kernel
def sgL_party_12 : List qEl := [(.astore_n 3, 1, 0, 0, 0, 0)]
theorem sgL_party_12_ok : qsg cL_party 13 4 false 12 sgL_party_12 = true := by decide +kernel
def sgL_party_13 : List qEl := [(.iconst 1, 1, 0, 0, 1, 0), (.ireturn, 1, 0, 0, 0, 0)]
theorem sgL_party_13_ok : qsg cL_party 13 4 false 13 sgL_party_13 = true := by decide +kernel
def sgL_party_15 : List qEl := [(.iconst 0, 1, 0, 0, 0, 0), (.ireturn, 1, 0, 0, 0, 0)]
theorem sgL_party_15_ok : qsg cL_party 13 4 false 15 sgL_party_15 = true := by decide +kernel
abbrev wL_party : qWr := (yL_party, cL_party, 4, 3, [(0, 9, 12, 13)])
theorem wL_party_ok : qWg wL_party := ⟨qtb_in 6 _ (List.mem_of_getElem? (i := 113) rfl), qat_in (p := (6, 112)) (by decide +kernel), qat_in (p := (1, 0)) (by decide +kernel), by decide +kernel, by decide +kernel, by decide, by decide, by decide⟩
def sgL_gave_0 : List qEl := [(.aload_n 2, 1, 0, 0, 0, 0), (.iconst 0, 1, 0, 0, 0, 0), (.aload_n 0, 1, 0, 0, 0, 0), (.iload_n 1, 1, 0, 0, 0, 0), (.invokevirtual 98, 3, 1, 1, 0, 0), (.i2l, 1, 0, 0, 0, 0), (.lastore, 1, 0, 0, 0, 0), (.goto 6, 3, 15, 0, 0, 0)]
theorem sgL_gave_0_ok : qsg cL_gave 13 4 false 0 sgL_gave_0 = true := by decide +kernel
def sgL_gave_12 : List qEl := [(.astore_n 3, 1, 0, 0, 0, 0)]
theorem sgL_gave_12_ok : qsg cL_gave 13 4 false 12 sgL_gave_12 = true := by decide +kernel
def sgL_gave_13 : List qEl := [(.iconst 1, 1, 0, 0, 1, 0), (.ireturn, 1, 0, 0, 0, 0)]
theorem sgL_gave_13_ok : qsg cL_gave 13 4 false 13 sgL_gave_13 = true := by decide +kernel
def sgL_gave_15 : List qEl := [(.iconst 0, 1, 0, 0, 0, 0), (.ireturn, 1, 0, 0, 0, 0)]
theorem sgL_gave_15_ok : qsg cL_gave 13 4 false 15 sgL_gave_15 = true := by decide +kernel
abbrev wL_gave : qWr := (yL_gave, cL_gave, 4, 3, [(0, 9, 12, 13)])
theorem wL_gave_ok : qWg wL_gave := ⟨qtb_in 6 _ (List.mem_of_getElem? (i := 129) rfl), qat_in (p := (6, 128)) (by decide +kernel), qat_in (p := (1, 0)) (by decide +kernel), by decide +kernel, by decide +kernel, by decide, by decide, by decide⟩
def sgL_right_0 : List qEl := [(.aload_n 2, 1, 0, 0, 0, 0), (.iconst 0, 1, 0, 0, 0, 0), (.aload_n 0, 1, 0, 0, 0, 0), (.iload_n 1, 1, 0, 0, 0, 0), (.invokevirtual 101, 3, 1, 1, 0, 0), (.i2l, 1, 0, 0, 0, 0), (.lastore, 1, 0, 0, 0, 0), (.goto 6, 3, 15, 0, 0, 0)]
theorem sgL_right_0_ok : qsg cL_right 13 4 false 0 sgL_right_0 = true := by decide +kernel
def sgL_right_12 : List qEl := [(.astore_n 3, 1, 0, 0, 0, 0)]
theorem sgL_right_12_ok : qsg cL_right 13 4 false 12 sgL_right_12 = true := by decide +kernel
def sgL_right_13 : List qEl := [(.iconst 1, 1, 0, 0, 1, 0), (.ireturn, 1, 0, 0, 0, 0)]
theorem sgL_right_13_ok : qsg cL_right 13 4 false 13 sgL_right_13 = true := by decide +kernel
def sgL_right_15 : List qEl := [(.iconst 0, 1, 0, 0, 0, 0), (.ireturn, 1, 0, 0, 0, 0)]
theorem sgL_right_15_ok : qsg cL_right 13 4 false 15 sgL_right_15 = true := by decide +kernel
abbrev wL_right : qWr := (yL_right, cL_right, 4, 3, [(0, 9, 12, 13)])
theorem wL_right_ok : qWg wL_right := ⟨qtb_in 6 _ (List.mem_of_getElem? (i := 153) rfl), qat_in (p := (6, 152)) (by decide +kernel), qat_in (p := (1, 0)) (by decide +kernel), by decide +kernel, by decide +kernel, by decide, by decide, by decide⟩
def sgL_evening_0 : List qEl := [(.aload_n 3, 1, 0, 0, 0, 0), (.iconst 0, 1, 0, 0, 0, 0), (.aload_n 0, 1, 0, 0, 0, 0), (.iload_n 1, 1, 0, 0, 0, 0), (.iload_n 2, 1, 0, 0, 0, 0), (.invokevirtual 104, 3, 1, 2, 0, 0), (.i2l, 1, 0, 0, 0, 0), (.lastore, 1, 0, 0, 0, 0), (.goto 7, 3, 17, 0, 0, 0)]
theorem sgL_evening_0_ok : qsg cL_evening 13 5 false 0 sgL_evening_0 = true := by decide +kernel
def sgL_evening_15 : List qEl := [(.iconst 1, 1, 0, 0, 1, 0), (.ireturn, 1, 0, 0, 0, 0)]
theorem sgL_evening_15_ok : qsg cL_evening 13 5 false 15 sgL_evening_15 = true := by decide +kernel
def sgL_evening_17 : List qEl := [(.iconst 0, 1, 0, 0, 0, 0), (.ireturn, 1, 0, 0, 0, 0)]
theorem sgL_evening_17_ok : qsg cL_evening 13 5 false 17 sgL_evening_17 = true := by decide +kernel
abbrev wL_evening : qWr := (yL_evening, cL_evening, 5, 4, [(0, 10, 13, 13)])
theorem wL_evening_ok : qWg wL_evening := ⟨qtb_in 6 _ (List.mem_of_getElem? (i := 162) rfl), qat_in (p := (6, 161)) (by decide +kernel), qat_in (p := (1, 0)) (by decide +kernel), by decide +kernel, by decide +kernel, by decide, by decide, by decide⟩
def sgL_span_0 : List qEl := [(.aload 5, 2, 0, 0, 0, 0), (.iconst 0, 1, 0, 0, 0, 0), (.aload_n 0, 1, 0, 0, 0, 0), (.iload_n 1, 1, 0, 0, 0, 0), (.iload_n 2, 1, 0, 0, 0, 0), (.iload_n 3, 1, 0, 0, 0, 0), (.iload 4, 2, 0, 0, 0, 0), (.invokevirtual 107, 3, 1, 4, 0, 0), (.i2l, 1, 0, 0, 0, 0), (.lastore, 1, 0, 0, 0, 0), (.goto 7, 3, 21, 0, 0, 0)]
theorem sgL_span_0_ok : qsg cL_span 13 7 false 0 sgL_span_0 = true := by decide +kernel
def sgL_span_19 : List qEl := [(.iconst 1, 1, 0, 0, 1, 0), (.ireturn, 1, 0, 0, 0, 0)]
theorem sgL_span_19_ok : qsg cL_span 13 7 false 19 sgL_span_19 = true := by decide +kernel
def sgL_span_21 : List qEl := [(.iconst 0, 1, 0, 0, 0, 0), (.ireturn, 1, 0, 0, 0, 0)]
theorem sgL_span_21_ok : qsg cL_span 13 7 false 21 sgL_span_21 = true := by decide +kernel
abbrev wL_span : qWr := (yL_span, cL_span, 7, 6, [(0, 14, 17, 13)])
theorem wL_span_ok : qWg wL_span := ⟨qtb_in 6 _ (List.mem_of_getElem? (i := 201) rfl), qat_in (p := (6, 200)) (by decide +kernel), qat_in (p := (1, 0)) (by decide +kernel), by decide +kernel, by decide +kernel, by decide, by decide, by decide⟩
def sgL_finest_0 : List qEl := [(.aload_n 3, 1, 0, 0, 0, 0), (.iconst 0, 1, 0, 0, 0, 0), (.aload_n 0, 1, 0, 0, 0, 0), (.iload_n 1, 1, 0, 0, 0, 0), (.iload_n 2, 1, 0, 0, 0, 0), (.invokevirtual 111, 3, 1, 2, 0, 0), (.i2l, 1, 0, 0, 0, 0), (.lastore, 1, 0, 0, 0, 0), (.goto 7, 3, 17, 0, 0, 0)]
theorem sgL_finest_0_ok : qsg cL_finest 13 5 false 0 sgL_finest_0 = true := by decide +kernel
def sgL_finest_15 : List qEl := [(.iconst 1, 1, 0, 0, 1, 0), (.ireturn, 1, 0, 0, 0, 0)]
theorem sgL_finest_15_ok : qsg cL_finest 13 5 false 15 sgL_finest_15 = true := by decide +kernel
def sgL_finest_17 : List qEl := [(.iconst 0, 1, 0, 0, 0, 0), (.ireturn, 1, 0, 0, 0, 0)]
theorem sgL_finest_17_ok : qsg cL_finest 13 5 false 17 sgL_finest_17 = true := by decide +kernel
abbrev wL_finest : qWr := (yL_finest, cL_finest, 5, 4, [(0, 10, 13, 13)])
theorem wL_finest_ok : qWg wL_finest := ⟨qtb_in 6 _ (List.mem_of_getElem? (i := 208) rfl), qat_in (p := (6, 207)) (by decide +kernel), qat_in (p := (1, 0)) (by decide +kernel), by decide +kernel, by decide +kernel, by decide, by decide, by decide⟩
def sgL_change_0 : List qEl := [(.aload 4, 2, 0, 0, 0, 0), (.iconst 0, 1, 0, 0, 0, 0), (.aload_n 0, 1, 0, 0, 0, 0), (.iload_n 1, 1, 0, 0, 0, 0), (.iload_n 2, 1, 0, 0, 0, 0), (.iload_n 3, 1, 0, 0, 0, 0), (.invokevirtual 114, 3, 1, 3, 0, 0), (.i2l, 1, 0, 0, 0, 0), (.lastore, 1, 0, 0, 0, 0), (.goto 11, 3, 23, 0, 0, 0)]
theorem sgL_change_0_ok : qsg cL_change 13 6 false 0 sgL_change_0 = true := by decide +kernel
def sgL_change_17 : List qEl := [(.iconst 1, 1, 0, 0, 1, 0), (.ireturn, 1, 0, 0, 0, 0)]
theorem sgL_change_17_ok : qsg cL_change 13 6 false 17 sgL_change_17 = true := by decide +kernel
def sgL_change_21 : List qEl := [(.iconst 2, 1, 0, 0, 2, 0), (.ireturn, 1, 0, 0, 0, 0)]
theorem sgL_change_21_ok : qsg cL_change 13 6 false 21 sgL_change_21 = true := by decide +kernel
def sgL_change_23 : List qEl := [(.iconst 0, 1, 0, 0, 0, 0), (.ireturn, 1, 0, 0, 0, 0)]
theorem sgL_change_23_ok : qsg cL_change 13 6 false 23 sgL_change_23 = true := by decide +kernel
abbrev wL_change : qWr := (yL_change, cL_change, 6, 5, [(0, 12, 15, 31), (0, 12, 19, 13)])
theorem wL_change_ok : qWg wL_change := ⟨qtb_in 6 _ (List.mem_of_getElem? (i := 215) rfl), qat_in (p := (6, 214)) (by decide +kernel), qat_in (p := (1, 0)) (by decide +kernel), by decide +kernel, by decide +kernel, by decide, by decide, by decide⟩
def sgL_sing_0 : List qEl := [(.aload 4, 2, 0, 0, 0, 0), (.iconst 0, 1, 0, 0, 0, 0), (.aload_n 0, 1, 0, 0, 0, 0), (.iload_n 1, 1, 0, 0, 0, 0), (.iload_n 2, 1, 0, 0, 0, 0), (.iload_n 3, 1, 0, 0, 0, 0), (.invokevirtual 117, 3, 1, 3, 0, 0), (.i2l, 1, 0, 0, 0, 0), (.lastore, 1, 0, 0, 0, 0), (.goto 11, 3, 23, 0, 0, 0)]
theorem sgL_sing_0_ok : qsg cL_sing 13 6 false 0 sgL_sing_0 = true := by decide +kernel
def sgL_sing_17 : List qEl := [(.iconst 1, 1, 0, 0, 1, 0), (.ireturn, 1, 0, 0, 0, 0)]
theorem sgL_sing_17_ok : qsg cL_sing 13 6 false 17 sgL_sing_17 = true := by decide +kernel
def sgL_sing_21 : List qEl := [(.iconst 2, 1, 0, 0, 2, 0), (.ireturn, 1, 0, 0, 0, 0)]
theorem sgL_sing_21_ok : qsg cL_sing 13 6 false 21 sgL_sing_21 = true := by decide +kernel
def sgL_sing_23 : List qEl := [(.iconst 0, 1, 0, 0, 0, 0), (.ireturn, 1, 0, 0, 0, 0)]
theorem sgL_sing_23_ok : qsg cL_sing 13 6 false 23 sgL_sing_23 = true := by decide +kernel
abbrev wL_sing : qWr := (yL_sing, cL_sing, 6, 5, [(0, 12, 15, 31), (0, 12, 19, 13)])
theorem wL_sing_ok : qWg wL_sing := ⟨qtb_in 6 _ (List.mem_of_getElem? (i := 232) rfl), qat_in (p := (6, 231)) (by decide +kernel), qat_in (p := (1, 0)) (by decide +kernel), by decide +kernel, by decide +kernel, by decide, by decide, by decide⟩
def sgL_swap_0 : List qEl := [(.aload_n 3, 1, 0, 0, 0, 0), (.iconst 0, 1, 0, 0, 0, 0), (.aload_n 0, 1, 0, 0, 0, 0), (.iload_n 1, 1, 0, 0, 0, 0), (.iload_n 2, 1, 0, 0, 0, 0), (.invokevirtual 120, 3, 1, 2, 0, 0), (.i2l, 1, 0, 0, 0, 0), (.lastore, 1, 0, 0, 0, 0), (.goto 7, 3, 17, 0, 0, 0)]
theorem sgL_swap_0_ok : qsg cL_swap 13 5 false 0 sgL_swap_0 = true := by decide +kernel
def sgL_swap_15 : List qEl := [(.iconst 1, 1, 0, 0, 1, 0), (.ireturn, 1, 0, 0, 0, 0)]
theorem sgL_swap_15_ok : qsg cL_swap 13 5 false 15 sgL_swap_15 = true := by decide +kernel
def sgL_swap_17 : List qEl := [(.iconst 0, 1, 0, 0, 0, 0), (.ireturn, 1, 0, 0, 0, 0)]
theorem sgL_swap_17_ok : qsg cL_swap 13 5 false 17 sgL_swap_17 = true := by decide +kernel
abbrev wL_swap : qWr := (yL_swap, cL_swap, 5, 4, [(0, 10, 13, 31)])
theorem wL_swap_ok : qWg wL_swap := ⟨qtb_in 7 _ (List.mem_of_getElem? (i := 0) rfl), qat_in (p := (6, 239)) (by decide +kernel), qat_in (p := (1, 0)) (by decide +kernel), by decide +kernel, by decide +kernel, by decide, by decide, by decide⟩
def sgL_skip_0 : List qEl := [(.aload_n 2, 1, 0, 0, 0, 0), (.iconst 0, 1, 0, 0, 0, 0), (.aload_n 0, 1, 0, 0, 0, 0), (.iload_n 1, 1, 0, 0, 0, 0), (.invokevirtual 123, 3, 1, 1, 0, 0), (.i2l, 1, 0, 0, 0, 0), (.lastore, 1, 0, 0, 0, 0), (.goto 6, 3, 15, 0, 0, 0)]
theorem sgL_skip_0_ok : qsg cL_skip 13 4 false 0 sgL_skip_0 = true := by decide +kernel
def sgL_skip_12 : List qEl := [(.astore_n 3, 1, 0, 0, 0, 0)]
theorem sgL_skip_12_ok : qsg cL_skip 13 4 false 12 sgL_skip_12 = true := by decide +kernel
def sgL_skip_13 : List qEl := [(.iconst 1, 1, 0, 0, 1, 0), (.ireturn, 1, 0, 0, 0, 0)]
theorem sgL_skip_13_ok : qsg cL_skip 13 4 false 13 sgL_skip_13 = true := by decide +kernel
def sgL_skip_15 : List qEl := [(.iconst 0, 1, 0, 0, 0, 0), (.ireturn, 1, 0, 0, 0, 0)]
theorem sgL_skip_15_ok : qsg cL_skip 13 4 false 15 sgL_skip_15 = true := by decide +kernel
abbrev wL_skip : qWr := (yL_skip, cL_skip, 4, 3, [(0, 9, 12, 31)])
theorem wL_skip_ok : qWg wL_skip := ⟨qtb_in 7 _ (List.mem_of_getElem? (i := 8) rfl), qat_in (p := (7, 7)) (by decide +kernel), qat_in (p := (1, 0)) (by decide +kernel), by decide +kernel, by decide +kernel, by decide, by decide, by decide⟩
def sgL_until_0 : List qEl := [(.aload_n 2, 1, 0, 0, 0, 0), (.iconst 0, 1, 0, 0, 0, 0), (.aload_n 0, 1, 0, 0, 0, 0), (.iload_n 1, 1, 0, 0, 0, 0), (.invokevirtual 126, 3, 1, 1, 0, 0), (.i2l, 1, 0, 0, 0, 0), (.lastore, 1, 0, 0, 0, 0), (.goto 6, 3, 15, 0, 0, 0)]
theorem sgL_until_0_ok : qsg cL_until 13 4 false 0 sgL_until_0 = true := by decide +kernel
def sgL_until_12 : List qEl := [(.astore_n 3, 1, 0, 0, 0, 0)]
theorem sgL_until_12_ok : qsg cL_until 13 4 false 12 sgL_until_12 = true := by decide +kernel
def sgL_until_13 : List qEl := [(.iconst 1, 1, 0, 0, 1, 0), (.ireturn, 1, 0, 0, 0, 0)]
theorem sgL_until_13_ok : qsg cL_until 13 4 false 13 sgL_until_13 = true := by decide +kernel
def sgL_until_15 : List qEl := [(.iconst 0, 1, 0, 0, 0, 0), (.ireturn, 1, 0, 0, 0, 0)]
theorem sgL_until_15_ok : qsg cL_until 13 4 false 15 sgL_until_15 = true := by decide +kernel
abbrev wL_until : qWr := (yL_until, cL_until, 4, 3, [(0, 9, 12, 13)])
theorem wL_until_ok : qWg wL_until := ⟨qtb_in 7 _ (List.mem_of_getElem? (i := 19) rfl), qat_in (p := (7, 18)) (by decide +kernel), qat_in (p := (1, 0)) (by decide +kernel), by decide +kernel, by decide +kernel, by decide, by decide, by decide⟩
end QSGL
