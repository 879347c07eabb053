section QSG
def sgX1_init_0 : List qEl := [(.aload_n 0, 1, 0, 0, 0, 0), (.invokespecial 3, 3, 1, 0, 0, 0), (.aload_n 0, 1, 0, 0, 0, 0), (.bipush 32, 2, 0, 0, 32, 0), (.newarray .int, 2, 0, 0, 0, 0), (.putfield 11, 3, 1, 0, 0, 0), (.return_, 1, 0, 0, 0, 0)]
theorem sgX1_init_0_ok : qsg cX1_init 1 1 true 0 sgX1_init_0 = true := by decide +kernel
def sgX1_clear_0 : List qEl := [(.aload_n 0, 1, 0, 0, 0, 0), (.iconst 0, 1, 0, 0, 0, 0), (.putfield 15, 3, 1, 1, 0, 0), (.return_, 1, 0, 0, 0, 0)]
theorem sgX1_clear_0_ok : qsg cX1_clear 1 1 false 0 sgX1_clear_0 = true := by decide +kernel
def sgX1_copy_0 : List qEl := [(.aload_n 1, 1, 0, 0, 0, 0), (.getfield 11, 3, 1, 0, 0, 0), (.iconst 0, 1, 0, 0, 0, 0), (.aload_n 0, 1, 0, 0, 0, 0), (.getfield 11, 3, 1, 0, 0, 0), (.iconst 0, 1, 0, 0, 0, 0), (.bipush 32, 2, 0, 0, 32, 0), (.invokestatic 19, 3, 1, 0, 0, 0), (.aload_n 0, 1, 0, 0, 0, 0), (.aload_n 1, 1, 0, 0, 0, 0), (.getfield 15, 3, 1, 1, 0, 0), (.putfield 15, 3, 1, 1, 0, 0), (.return_, 1, 0, 0, 0, 0)]
theorem sgX1_copy_0_ok : qsg cX1_copy 1 2 false 0 sgX1_copy_0 = true := by decide +kernel
def sgX1_of_0 : List qEl := [(.iload_n 1, 1, 0, 0, 0, 0), (.iconst 4, 1, 0, 0, 4, 0), (.imul, 1, 0, 0, 0, 0), (.iload_n 2, 1, 0, 0, 0, 0), (.iadd, 1, 0, 0, 0, 0), (.istore_n 3, 1, 0, 0, 0, 0), (.iload_n 3, 1, 0, 0, 0, 0), (.ifCond .lt 21, 3, 28, 0, 0, 0), (.iload_n 3, 1, 0, 0, 0, 0), (.aload_n 0, 1, 0, 0, 0, 0), (.getfield 11, 3, 1, 0, 0, 0), (.arraylength, 1, 0, 0, 0, 0), (.if_icmp .ge 12, 3, 28, 0, 0, 0), (.aload_n 0, 1, 0, 0, 0, 0), (.getfield 11, 3, 1, 0, 0, 0), (.iload_n 3, 1, 0, 0, 0, 0), (.iaload, 1, 0, 0, 0, 0), (.goto 4, 3, 29, 0, 0, 0)]
theorem sgX1_of_0_ok : qsg cX1_of 1 4 false 0 sgX1_of_0 = true := by decide +kernel
def sgX1_of_28 : List qEl := [(.iconst 0, 1, 0, 0, 0, 0)]
theorem sgX1_of_28_ok : qsg cX1_of 1 4 false 28 sgX1_of_28 = true := by decide +kernel
def sgX1_of_29 : List qEl := [(.ireturn, 1, 0, 0, 0, 0)]
theorem sgX1_of_29_ok : qsg cX1_of 1 4 false 29 sgX1_of_29 = true := by decide +kernel
def sgX1_set_0 : List qEl := [(.iload_n 1, 1, 0, 0, 0, 0), (.iconst 4, 1, 0, 0, 4, 0), (.imul, 1, 0, 0, 0, 0), (.iload_n 2, 1, 0, 0, 0, 0), (.iadd, 1, 0, 0, 0, 0), (.istore 4, 2, 0, 0, 0, 0), (.iload 4, 2, 0, 0, 0, 0), (.ifCond .lt 21, 3, 30, 0, 0, 0), (.iload 4, 2, 0, 0, 0, 0), (.aload_n 0, 1, 0, 0, 0, 0), (.getfield 11, 3, 1, 0, 0, 0), (.arraylength, 1, 0, 0, 0, 0), (.if_icmp .ge 11, 3, 30, 0, 0, 0), (.aload_n 0, 1, 0, 0, 0, 0), (.getfield 11, 3, 1, 0, 0, 0), (.iload 4, 2, 0, 0, 0, 0), (.iload_n 3, 1, 0, 0, 0, 0), (.iastore, 1, 0, 0, 0, 0)]
theorem sgX1_set_0_ok : qsg cX1_set 1 5 false 0 sgX1_set_0 = true := by decide +kernel
def sgX1_set_30 : List qEl := [(.return_, 1, 0, 0, 0, 0)]
theorem sgX1_set_30_ok : qsg cX1_set 1 5 false 30 sgX1_set_30 = true := by decide +kernel
def sgX1_add_0 : List qEl := [(.aload_n 0, 1, 0, 0, 0, 0), (.getfield 15, 3, 1, 1, 0, 0), (.istore_n 3, 1, 0, 0, 0, 0), (.aload_n 0, 1, 0, 0, 0, 0), (.iload_n 3, 1, 0, 0, 0, 0), (.iconst 0, 1, 0, 0, 0, 0), (.iload_n 1, 1, 0, 0, 0, 0), (.invokevirtual 25, 3, 0, 3, 0, 0), (.aload_n 0, 1, 0, 0, 0, 0), (.iload_n 3, 1, 0, 0, 0, 0), (.iconst 1, 1, 0, 0, 1, 0), (.iload_n 2, 1, 0, 0, 0, 0), (.invokevirtual 25, 3, 0, 3, 0, 0), (.aload_n 0, 1, 0, 0, 0, 0), (.iload_n 3, 1, 0, 0, 0, 0), (.iconst 2, 1, 0, 0, 2, 0), (.iconst (-1), 1, 0, 0, (-1), 0), (.invokevirtual 25, 3, 0, 3, 0, 0), (.aload_n 0, 1, 0, 0, 0, 0), (.iload_n 3, 1, 0, 0, 0, 0), (.iconst 3, 1, 0, 0, 3, 0), (.iconst 0, 1, 0, 0, 0, 0), (.invokevirtual 25, 3, 0, 3, 0, 0), (.aload_n 0, 1, 0, 0, 0, 0), (.dup, 1, 0, 0, 0, 0), (.getfield 15, 3, 1, 1, 0, 0), (.iconst 1, 1, 0, 0, 1, 0), (.iadd, 1, 0, 0, 0, 0), (.putfield 15, 3, 1, 1, 0, 0), (.return_, 1, 0, 0, 0, 0)]
theorem sgX1_add_0_ok : qsg cX1_add 1 4 false 0 sgX1_add_0 = true := by decide +kernel
def sgX1_allSolos_0 : List qEl := [(.iconst 0, 1, 0, 0, 0, 0), (.istore_n 1, 1, 0, 0, 0, 0), (.iconst 0, 1, 0, 0, 0, 0), (.istore_n 2, 1, 0, 0, 0, 0)]
theorem sgX1_allSolos_0_ok : qsg cX1_allSolos 1 3 false 0 sgX1_allSolos_0 = true := by decide +kernel
def sgX1_allSolos_4 : List qEl := [(.iload_n 2, 1, 0, 0, 0, 0), (.aload_n 0, 1, 0, 0, 0, 0), (.getfield 15, 3, 1, 1, 0, 0), (.if_icmp .ge 18, 3, 27, 0, 0, 0), (.iload_n 1, 1, 0, 0, 0, 0), (.aload_n 0, 1, 0, 0, 0, 0), (.iload_n 2, 1, 0, 0, 0, 0), (.iconst 3, 1, 0, 0, 3, 0), (.invokevirtual 29, 3, 0, 2, 0, 0), (.iadd, 1, 0, 0, 0, 0), (.istore_n 1, 1, 0, 0, 0, 0), (.iinc 2 1, 3, 0, 0, 1, 0), (.goto (-20), 3, 4, 0, 0, 0)]
theorem sgX1_allSolos_4_ok : qsg cX1_allSolos 1 3 false 4 sgX1_allSolos_4 = true := by decide +kernel
def sgX1_allSolos_27 : List qEl := [(.iload_n 1, 1, 0, 0, 0, 0), (.ireturn, 1, 0, 0, 0, 0)]
theorem sgX1_allSolos_27_ok : qsg cX1_allSolos 1 3 false 27 sgX1_allSolos_27 = true := by decide +kernel
def sgX1_isThere_0 : List qEl := [(.aload_n 0, 1, 0, 0, 0, 0), (.iload_n 1, 1, 0, 0, 0, 0), (.iconst 2, 1, 0, 0, 2, 0), (.invokevirtual 29, 3, 0, 2, 0, 0), (.istore_n 3, 1, 0, 0, 0, 0), (.iload_n 3, 1, 0, 0, 0, 0), (.iconst (-1), 1, 0, 0, (-1), 0), (.if_icmp .eq 8, 3, 17, 0, 0, 0), (.iload_n 2, 1, 0, 0, 0, 0), (.iload_n 3, 1, 0, 0, 0, 0), (.if_icmp .ge 7, 3, 21, 0, 0, 0)]
theorem sgX1_isThere_0_ok : qsg cX1_isThere 1 4 false 0 sgX1_isThere_0 = true := by decide +kernel
def sgX1_isThere_17 : List qEl := [(.iconst 1, 1, 0, 0, 1, 0), (.goto 4, 3, 22, 0, 0, 0)]
theorem sgX1_isThere_17_ok : qsg cX1_isThere 1 4 false 17 sgX1_isThere_17 = true := by decide +kernel
def sgX1_isThere_21 : List qEl := [(.iconst 0, 1, 0, 0, 0, 0)]
theorem sgX1_isThere_21_ok : qsg cX1_isThere 1 4 false 21 sgX1_isThere_21 = true := by decide +kernel
def sgX1_isThere_22 : List qEl := [(.ireturn, 1, 0, 0, 0, 0)]
theorem sgX1_isThere_22_ok : qsg cX1_isThere 1 4 false 22 sgX1_isThere_22 = true := by decide +kernel
def sgX1_notHome_0 : List qEl := [(.iconst 0, 1, 0, 0, 0, 0), (.istore_n 2, 1, 0, 0, 0, 0), (.iconst 0, 1, 0, 0, 0, 0), (.istore_n 3, 1, 0, 0, 0, 0)]
theorem sgX1_notHome_0_ok : qsg cX1_notHome 1 4 false 0 sgX1_notHome_0 = true := by decide +kernel
def sgX1_notHome_4 : List qEl := [(.iload_n 3, 1, 0, 0, 0, 0), (.aload_n 0, 1, 0, 0, 0, 0), (.getfield 15, 3, 1, 1, 0, 0), (.if_icmp .ge 28, 3, 37, 0, 0, 0), (.iload_n 2, 1, 0, 0, 0, 0), (.aload_n 0, 1, 0, 0, 0, 0), (.iload_n 3, 1, 0, 0, 0, 0), (.iload_n 1, 1, 0, 0, 0, 0), (.invokevirtual 33, 3, 0, 2, 0, 0), (.ifCond .eq 9, 3, 28, 0, 0, 0), (.iconst 1, 1, 0, 0, 1, 0), (.iload_n 3, 1, 0, 0, 0, 0), (.ishl, 1, 0, 0, 0, 0), (.goto 4, 3, 29, 0, 0, 0)]
theorem sgX1_notHome_4_ok : qsg cX1_notHome 1 4 false 4 sgX1_notHome_4 = true := by decide +kernel
def sgX1_notHome_28 : List qEl := [(.iconst 0, 1, 0, 0, 0, 0)]
theorem sgX1_notHome_28_ok : qsg cX1_notHome 1 4 false 28 sgX1_notHome_28 = true := by decide +kernel
def sgX1_notHome_29 : List qEl := [(.ior, 1, 0, 0, 0, 0), (.istore_n 2, 1, 0, 0, 0, 0), (.iinc 3 1, 3, 0, 0, 1, 0), (.goto (-30), 3, 4, 0, 0, 0)]
theorem sgX1_notHome_29_ok : qsg cX1_notHome 1 4 false 29 sgX1_notHome_29 = true := by decide +kernel
def sgX1_notHome_37 : List qEl := [(.iload_n 2, 1, 0, 0, 0, 0), (.ireturn, 1, 0, 0, 0, 0)]
theorem sgX1_notHome_37_ok : qsg cX1_notHome 1 4 false 37 sgX1_notHome_37 = true := by decide +kernel
def sgX1_isNeeded_0 : List qEl := [(.iconst 0, 1, 0, 0, 0, 0), (.istore_n 2, 1, 0, 0, 0, 0)]
theorem sgX1_isNeeded_0_ok : qsg cX1_isNeeded 1 3 false 0 sgX1_isNeeded_0 = true := by decide +kernel
def sgX1_isNeeded_2 : List qEl := [(.iload_n 2, 1, 0, 0, 0, 0), (.aload_n 0, 1, 0, 0, 0, 0), (.getfield 15, 3, 1, 1, 0, 0), (.if_icmp .ge 21, 3, 28, 0, 0, 0), (.aload_n 0, 1, 0, 0, 0, 0), (.iload_n 2, 1, 0, 0, 0, 0), (.iconst 1, 1, 0, 0, 1, 0), (.invokevirtual 29, 3, 0, 2, 0, 0), (.iload_n 1, 1, 0, 0, 0, 0), (.if_icmp .ne 5, 3, 22, 0, 0, 0), (.iconst 1, 1, 0, 0, 1, 0), (.ireturn, 1, 0, 0, 0, 0)]
theorem sgX1_isNeeded_2_ok : qsg cX1_isNeeded 1 3 false 2 sgX1_isNeeded_2 = true := by decide +kernel
def sgX1_isNeeded_22 : List qEl := [(.iinc 2 1, 3, 0, 0, 1, 0), (.goto (-23), 3, 2, 0, 0, 0)]
theorem sgX1_isNeeded_22_ok : qsg cX1_isNeeded 1 3 false 22 sgX1_isNeeded_22 = true := by decide +kernel
def sgX1_isNeeded_28 : List qEl := [(.iconst 0, 1, 0, 0, 0, 0), (.ireturn, 1, 0, 0, 0, 0)]
theorem sgX1_isNeeded_28_ok : qsg cX1_isNeeded 1 3 false 28 sgX1_isNeeded_28 = true := by decide +kernel
def sgX1_firstMissing_0 : List qEl := [(.iconst (-1), 1, 0, 0, (-1), 0), (.istore_n 1, 1, 0, 0, 0, 0), (.iconst 0, 1, 0, 0, 0, 0), (.istore_n 2, 1, 0, 0, 0, 0)]
theorem sgX1_firstMissing_0_ok : qsg cX1_firstMissing 1 4 false 0 sgX1_firstMissing_0 = true := by decide +kernel
def sgX1_firstMissing_4 : List qEl := [(.iload_n 2, 1, 0, 0, 0, 0), (.iconst 4, 1, 0, 0, 4, 0), (.if_icmp .ge 44, 3, 50, 0, 0, 0), (.aload_n 0, 1, 0, 0, 0, 0), (.iload_n 2, 1, 0, 0, 0, 0), (.invokevirtual 37, 3, 0, 1, 0, 0), (.ifCond .eq 11, 3, 25, 0, 0, 0), (.aload_n 0, 1, 0, 0, 0, 0), (.iload_n 2, 1, 0, 0, 0, 0), (.invokevirtual 41, 3, 0, 1, 0, 0), (.goto 4, 3, 26, 0, 0, 0)]
theorem sgX1_firstMissing_4_ok : qsg cX1_firstMissing 1 4 false 4 sgX1_firstMissing_4 = true := by decide +kernel
def sgX1_firstMissing_25 : List qEl := [(.iconst (-1), 1, 0, 0, (-1), 0)]
theorem sgX1_firstMissing_25_ok : qsg cX1_firstMissing 1 4 false 25 sgX1_firstMissing_25 = true := by decide +kernel
def sgX1_firstMissing_26 : List qEl := [(.istore_n 3, 1, 0, 0, 0, 0), (.iload_n 3, 1, 0, 0, 0, 0), (.iconst (-1), 1, 0, 0, (-1), 0), (.if_icmp .eq 15, 3, 44, 0, 0, 0), (.iload_n 1, 1, 0, 0, 0, 0), (.iconst (-1), 1, 0, 0, (-1), 0), (.if_icmp .eq 8, 3, 42, 0, 0, 0), (.iload_n 3, 1, 0, 0, 0, 0), (.iload_n 1, 1, 0, 0, 0, 0), (.if_icmp .ge 5, 3, 44, 0, 0, 0)]
theorem sgX1_firstMissing_26_ok : qsg cX1_firstMissing 1 4 false 26 sgX1_firstMissing_26 = true := by decide +kernel
def sgX1_firstMissing_42 : List qEl := [(.iload_n 3, 1, 0, 0, 0, 0), (.istore_n 1, 1, 0, 0, 0, 0)]
theorem sgX1_firstMissing_42_ok : qsg cX1_firstMissing 1 4 false 42 sgX1_firstMissing_42 = true := by decide +kernel
def sgX1_firstMissing_44 : List qEl := [(.iinc 2 1, 3, 0, 0, 1, 0), (.goto (-43), 3, 4, 0, 0, 0)]
theorem sgX1_firstMissing_44_ok : qsg cX1_firstMissing 1 4 false 44 sgX1_firstMissing_44 = true := by decide +kernel
def sgX1_firstMissing_50 : List qEl := [(.iload_n 1, 1, 0, 0, 0, 0), (.ireturn, 1, 0, 0, 0, 0)]
theorem sgX1_firstMissing_50_ok : qsg cX1_firstMissing 1 4 false 50 sgX1_firstMissing_50 = true := by decide +kernel
def sgX1_goneFrom_0 : List qEl := [(.iconst (-1), 1, 0, 0, (-1), 0), (.istore_n 2, 1, 0, 0, 0, 0), (.iconst 0, 1, 0, 0, 0, 0), (.istore_n 3, 1, 0, 0, 0, 0)]
theorem sgX1_goneFrom_0_ok : qsg cX1_goneFrom 1 5 false 0 sgX1_goneFrom_0 = true := by decide +kernel
def sgX1_goneFrom_4 : List qEl := [(.iload_n 3, 1, 0, 0, 0, 0), (.aload_n 0, 1, 0, 0, 0, 0), (.getfield 15, 3, 1, 1, 0, 0), (.if_icmp .ge 48, 3, 57, 0, 0, 0), (.aload_n 0, 1, 0, 0, 0, 0), (.iload_n 3, 1, 0, 0, 0, 0), (.iconst 1, 1, 0, 0, 1, 0), (.invokevirtual 29, 3, 0, 2, 0, 0), (.iload_n 1, 1, 0, 0, 0, 0), (.if_icmp .ne 32, 3, 51, 0, 0, 0), (.aload_n 0, 1, 0, 0, 0, 0), (.iload_n 3, 1, 0, 0, 0, 0), (.iconst 2, 1, 0, 0, 2, 0), (.invokevirtual 29, 3, 0, 2, 0, 0), (.istore 4, 2, 0, 0, 0, 0), (.iload 4, 2, 0, 0, 0, 0), (.iconst (-1), 1, 0, 0, (-1), 0), (.if_icmp .ne 5, 3, 38, 0, 0, 0), (.iconst (-1), 1, 0, 0, (-1), 0), (.ireturn, 1, 0, 0, 0, 0)]
theorem sgX1_goneFrom_4_ok : qsg cX1_goneFrom 1 5 false 4 sgX1_goneFrom_4 = true := by decide +kernel
def sgX1_goneFrom_38 : List qEl := [(.iload 4, 2, 0, 0, 0, 0), (.iload_n 2, 1, 0, 0, 0, 0), (.if_icmp .le 8, 3, 49, 0, 0, 0), (.iload 4, 2, 0, 0, 0, 0), (.goto 4, 3, 50, 0, 0, 0)]
theorem sgX1_goneFrom_38_ok : qsg cX1_goneFrom 1 5 false 38 sgX1_goneFrom_38 = true := by decide +kernel
def sgX1_goneFrom_49 : List qEl := [(.iload_n 2, 1, 0, 0, 0, 0)]
theorem sgX1_goneFrom_49_ok : qsg cX1_goneFrom 1 5 false 49 sgX1_goneFrom_49 = true := by decide +kernel
def sgX1_goneFrom_50 : List qEl := [(.istore_n 2, 1, 0, 0, 0, 0)]
theorem sgX1_goneFrom_50_ok : qsg cX1_goneFrom 1 5 false 50 sgX1_goneFrom_50 = true := by decide +kernel
def sgX1_goneFrom_51 : List qEl := [(.iinc 3 1, 3, 0, 0, 1, 0), (.goto (-50), 3, 4, 0, 0, 0)]
theorem sgX1_goneFrom_51_ok : qsg cX1_goneFrom 1 5 false 51 sgX1_goneFrom_51 = true := by decide +kernel
def sgX1_goneFrom_57 : List qEl := [(.iload_n 2, 1, 0, 0, 0, 0), (.ireturn, 1, 0, 0, 0, 0)]
theorem sgX1_goneFrom_57_ok : qsg cX1_goneFrom 1 5 false 57 sgX1_goneFrom_57 = true := by decide +kernel
def sgX1_mostVerses_0 : List qEl := [(.bipush 99, 2, 0, 0, 99, 0), (.istore 4, 2, 0, 0, 0, 0)]
theorem sgX1_mostVerses_0_ok : qsg cX1_mostVerses 1 5 false 0 sgX1_mostVerses_0 = true := by decide +kernel
def sgX1_mostVerses_4 : List qEl := [(.iload 4, 2, 0, 0, 0, 0), (.ifCond .le 24, 3, 30, 0, 0, 0), (.aload_n 0, 1, 0, 0, 0, 0), (.iload 4, 2, 0, 0, 0, 0), (.iload_n 1, 1, 0, 0, 0, 0), (.iload_n 2, 1, 0, 0, 0, 0), (.iload_n 3, 1, 0, 0, 0, 0), (.invokevirtual 45, 3, 0, 4, 0, 0), (.ifCond .eq 6, 3, 24, 0, 0, 0), (.iload 4, 2, 0, 0, 0, 0), (.ireturn, 1, 0, 0, 0, 0)]
theorem sgX1_mostVerses_4_ok : qsg cX1_mostVerses 1 5 false 4 sgX1_mostVerses_4 = true := by decide +kernel
def sgX1_mostVerses_24 : List qEl := [(.iinc 4 (-1), 3, 0, 0, (-1), 0), (.goto (-23), 3, 4, 0, 0, 0)]
theorem sgX1_mostVerses_24_ok : qsg cX1_mostVerses 1 5 false 24 sgX1_mostVerses_24 = true := by decide +kernel
def sgX1_mostVerses_30 : List qEl := [(.iconst 0, 1, 0, 0, 0, 0), (.ireturn, 1, 0, 0, 0, 0)]
theorem sgX1_mostVerses_30_ok : qsg cX1_mostVerses 1 5 false 30 sgX1_mostVerses_30 = true := by decide +kernel
def sgX1_canSing_0 : List qEl := [(.iconst 0, 1, 0, 0, 0, 0), (.istore 5, 2, 0, 0, 0, 0), (.iconst 0, 1, 0, 0, 0, 0), (.istore 6, 2, 0, 0, 0, 0)]
theorem sgX1_canSing_0_ok : qsg cX1_canSing 1 8 false 0 sgX1_canSing_0 = true := by decide +kernel
def sgX1_canSing_6 : List qEl := [(.iload 6, 2, 0, 0, 0, 0), (.iconst 4, 1, 0, 0, 4, 0), (.if_icmp .ge 50, 3, 59, 0, 0, 0), (.aload_n 0, 1, 0, 0, 0, 0), (.iload 6, 2, 0, 0, 0, 0), (.iload_n 1, 1, 0, 0, 0, 0), (.iload_n 3, 1, 0, 0, 0, 0), (.invokevirtual 49, 3, 0, 3, 0, 0), (.istore 7, 2, 0, 0, 0, 0), (.iload 7, 2, 0, 0, 0, 0), (.iload_n 1, 1, 0, 0, 0, 0), (.if_icmp .ge 21, 3, 46, 0, 0, 0), (.iload 6, 2, 0, 0, 0, 0), (.iload 4, 2, 0, 0, 0, 0), (.if_icmp .eq 14, 3, 46, 0, 0, 0), (.aload_n 0, 1, 0, 0, 0, 0), (.iload 6, 2, 0, 0, 0, 0), (.invokevirtual 37, 3, 0, 1, 0, 0), (.ifCond .eq 5, 3, 46, 0, 0, 0), (.iconst 0, 1, 0, 0, 0, 0), (.ireturn, 1, 0, 0, 0, 0)]
theorem sgX1_canSing_6_ok : qsg cX1_canSing 1 8 false 6 sgX1_canSing_6 = true := by decide +kernel
def sgX1_canSing_46 : List qEl := [(.iload 5, 2, 0, 0, 0, 0), (.iload 7, 2, 0, 0, 0, 0), (.iadd, 1, 0, 0, 0, 0), (.istore 5, 2, 0, 0, 0, 0), (.iinc 6 1, 3, 0, 0, 1, 0), (.goto (-50), 3, 6, 0, 0, 0)]
theorem sgX1_canSing_46_ok : qsg cX1_canSing 1 8 false 46 sgX1_canSing_46 = true := by decide +kernel
def sgX1_canSing_59 : List qEl := [(.iload 5, 2, 0, 0, 0, 0), (.iload_n 2, 1, 0, 0, 0, 0), (.iload_n 1, 1, 0, 0, 0, 0), (.imul, 1, 0, 0, 0, 0), (.if_icmp .lt 7, 3, 71, 0, 0, 0), (.iconst 1, 1, 0, 0, 1, 0), (.goto 4, 3, 72, 0, 0, 0)]
theorem sgX1_canSing_59_ok : qsg cX1_canSing 1 8 false 59 sgX1_canSing_59 = true := by decide +kernel
def sgX1_canSing_71 : List qEl := [(.iconst 0, 1, 0, 0, 0, 0)]
theorem sgX1_canSing_71_ok : qsg cX1_canSing 1 8 false 71 sgX1_canSing_71 = true := by decide +kernel
def sgX1_canSing_72 : List qEl := [(.ireturn, 1, 0, 0, 0, 0)]
theorem sgX1_canSing_72_ok : qsg cX1_canSing 1 8 false 72 sgX1_canSing_72 = true := by decide +kernel
def sgX1_sungIn_0 : List qEl := [(.iconst 0, 1, 0, 0, 0, 0), (.istore 4, 2, 0, 0, 0, 0), (.iconst 0, 1, 0, 0, 0, 0), (.istore 5, 2, 0, 0, 0, 0)]
theorem sgX1_sungIn_0_ok : qsg cX1_sungIn 1 7 false 0 sgX1_sungIn_0 = true := by decide +kernel
def sgX1_sungIn_6 : List qEl := [(.iload 5, 2, 0, 0, 0, 0), (.aload_n 0, 1, 0, 0, 0, 0), (.getfield 15, 3, 1, 1, 0, 0), (.if_icmp .ge 56, 3, 68, 0, 0, 0), (.aload_n 0, 1, 0, 0, 0, 0), (.iload 5, 2, 0, 0, 0, 0), (.iconst 1, 1, 0, 0, 1, 0), (.invokevirtual 29, 3, 0, 2, 0, 0), (.iload_n 1, 1, 0, 0, 0, 0), (.if_icmp .ne 39, 3, 62, 0, 0, 0), (.aload_n 0, 1, 0, 0, 0, 0), (.iload 5, 2, 0, 0, 0, 0), (.iload_n 3, 1, 0, 0, 0, 0), (.invokevirtual 33, 3, 0, 2, 0, 0), (.ifCond .eq 29, 3, 62, 0, 0, 0), (.aload_n 0, 1, 0, 0, 0, 0), (.iload 5, 2, 0, 0, 0, 0), (.iconst 0, 1, 0, 0, 0, 0), (.invokevirtual 29, 3, 0, 2, 0, 0), (.istore 6, 2, 0, 0, 0, 0), (.iload 4, 2, 0, 0, 0, 0), (.iload 6, 2, 0, 0, 0, 0), (.iload_n 2, 1, 0, 0, 0, 0), (.if_icmp .ge 8, 3, 58, 0, 0, 0), (.iload 6, 2, 0, 0, 0, 0), (.goto 4, 3, 59, 0, 0, 0)]
theorem sgX1_sungIn_6_ok : qsg cX1_sungIn 1 7 false 6 sgX1_sungIn_6 = true := by decide +kernel
def sgX1_sungIn_58 : List qEl := [(.iload_n 2, 1, 0, 0, 0, 0)]
theorem sgX1_sungIn_58_ok : qsg cX1_sungIn 1 7 false 58 sgX1_sungIn_58 = true := by decide +kernel
def sgX1_sungIn_59 : List qEl := [(.iadd, 1, 0, 0, 0, 0), (.istore 4, 2, 0, 0, 0, 0)]
theorem sgX1_sungIn_59_ok : qsg cX1_sungIn 1 7 false 59 sgX1_sungIn_59 = true := by decide +kernel
def sgX1_sungIn_62 : List qEl := [(.iinc 5 1, 3, 0, 0, 1, 0), (.goto (-59), 3, 6, 0, 0, 0)]
theorem sgX1_sungIn_62_ok : qsg cX1_sungIn 1 7 false 62 sgX1_sungIn_62 = true := by decide +kernel
def sgX1_sungIn_68 : List qEl := [(.iload 4, 2, 0, 0, 0, 0), (.ireturn, 1, 0, 0, 0, 0)]
theorem sgX1_sungIn_68_ok : qsg cX1_sungIn 1 7 false 68 sgX1_sungIn_68 = true := by decide +kernel
end QSG
