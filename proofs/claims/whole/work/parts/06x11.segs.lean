section QSG
def sgX11_init_0 : List qEl := [(.aload_n 0, 1, 0, 0, 0, 0), (.invokespecial 1, 3, 1, 0, 0, 0), (.aload_n 0, 1, 0, 0, 0, 0), (.new 7, 3, 8, 7, 0, 0), (.dup, 1, 0, 0, 0, 0), (.invokespecial 9, 3, 0, 0, 0, 0), (.putfield 10, 3, 11, 0, 0, 0), (.aload_n 0, 1, 0, 0, 0, 0), (.new 16, 3, 6, 9, 0, 0), (.dup, 1, 0, 0, 0, 0), (.invokespecial 18, 3, 0, 0, 0, 0), (.putfield 19, 3, 11, 1, 0, 0), (.aload_n 0, 1, 0, 0, 0, 0), (.iconst 3, 1, 0, 0, 3, 0), (.anewarray 16, 3, 0, 0, 0, 0), (.putfield 23, 3, 11, 2, 0, 0), (.iconst 0, 1, 0, 0, 0, 0), (.istore_n 1, 1, 0, 0, 0, 0)]
theorem sgX11_init_0_ok : qsg cX11_init 11 2 true 0 sgX11_init_0 = true := by decide +kernel
def sgX11_init_36 : List qEl := [(.iload_n 1, 1, 0, 0, 0, 0), (.aload_n 0, 1, 0, 0, 0, 0), (.getfield 23, 3, 11, 2, 0, 0), (.arraylength, 1, 0, 0, 0, 0), (.if_icmp .ge 22, 3, 64, 0, 0, 0), (.aload_n 0, 1, 0, 0, 0, 0), (.getfield 23, 3, 11, 2, 0, 0), (.iload_n 1, 1, 0, 0, 0, 0), (.new 16, 3, 6, 9, 0, 0), (.dup, 1, 0, 0, 0, 0), (.invokespecial 18, 3, 0, 0, 0, 0), (.aastore, 1, 0, 0, 0, 0), (.iinc 1 1, 3, 0, 0, 1, 0), (.goto (-25), 3, 36, 0, 0, 0)]
theorem sgX11_init_36_ok : qsg cX11_init 11 2 true 36 sgX11_init_36 = true := by decide +kernel
def sgX11_init_64 : List qEl := [(.aload_n 0, 1, 0, 0, 0, 0), (.new 27, 3, 1, 2, 0, 0), (.dup, 1, 0, 0, 0, 0), (.invokespecial 29, 3, 0, 0, 0, 0), (.putfield 30, 3, 11, 3, 0, 0), (.aload_n 0, 1, 0, 0, 0, 0), (.new 34, 3, 3, 4, 0, 0), (.dup, 1, 0, 0, 0, 0), (.invokespecial 36, 3, 0, 0, 0, 0), (.putfield 37, 3, 11, 4, 0, 0), (.aload_n 0, 1, 0, 0, 0, 0), (.new 34, 3, 3, 4, 0, 0), (.dup, 1, 0, 0, 0, 0), (.invokespecial 36, 3, 0, 0, 0, 0), (.putfield 41, 3, 11, 5, 0, 0), (.aload_n 0, 1, 0, 0, 0, 0), (.new 44, 3, 0, 7, 0, 0), (.dup, 1, 0, 0, 0, 0), (.invokespecial 46, 3, 0, 0, 0, 0), (.putfield 47, 3, 11, 6, 0, 0), (.aload_n 0, 1, 0, 0, 0, 0), (.new 51, 3, 5, 4, 0, 0), (.dup, 1, 0, 0, 0, 0), (.aload_n 0, 1, 0, 0, 0, 0), (.getfield 10, 3, 11, 0, 0, 0), (.invokespecial 53, 3, 0, 1, 0, 0), (.putfield 56, 3, 11, 7, 0, 0), (.aload_n 0, 1, 0, 0, 0, 0), (.new 60, 3, 4, 2, 0, 0), (.dup, 1, 0, 0, 0, 0), (.aload_n 0, 1, 0, 0, 0, 0), (.getfield 10, 3, 11, 0, 0, 0), (.invokespecial 62, 3, 0, 1, 0, 0), (.putfield 63, 3, 11, 8, 0, 0), (.aload_n 0, 1, 0, 0, 0, 0), (.new 67, 3, 10, 8, 0, 0), (.dup, 1, 0, 0, 0, 0), (.aload_n 0, 1, 0, 0, 0, 0), (.getfield 19, 3, 11, 1, 0, 0), (.aload_n 0, 1, 0, 0, 0, 0), (.getfield 30, 3, 11, 3, 0, 0), (.aload_n 0, 1, 0, 0, 0, 0), (.getfield 37, 3, 11, 4, 0, 0), (.invokespecial 69, 3, 0, 3, 0, 0), (.putfield 72, 3, 11, 9, 0, 0), (.aload_n 0, 1, 0, 0, 0, 0), (.new 76, 3, 9, 14, 0, 0), (.dup, 1, 0, 0, 0, 0), (.aload_n 0, 1, 0, 0, 0, 0), (.getfield 19, 3, 11, 1, 0, 0), (.aload_n 0, 1, 0, 0, 0, 0), (.getfield 30, 3, 11, 3, 0, 0), (.aload_n 0, 1, 0, 0, 0, 0), (.getfield 72, 3, 11, 9, 0, 0), (.invokespecial 78, 3, 0, 3, 0, 0), (.putfield 81, 3, 11, 10, 0, 0), (.aload_n 0, 1, 0, 0, 0, 0), (.new 85, 3, 7, 12, 0, 0), (.dup, 1, 0, 0, 0, 0), (.aload_n 0, 1, 0, 0, 0, 0), (.getfield 19, 3, 11, 1, 0, 0), (.aload_n 0, 1, 0, 0, 0, 0), (.getfield 72, 3, 11, 9, 0, 0), (.invokespecial 87, 3, 0, 2, 0, 0), (.putfield 90, 3, 11, 11, 0, 0), (.aload_n 0, 1, 0, 0, 0, 0), (.new 94, 3, 2, 12, 0, 0), (.dup, 1, 0, 0, 0, 0), (.aload_n 0, 1, 0, 0, 0, 0), (.getfield 19, 3, 11, 1, 0, 0), (.aload_n 0, 1, 0, 0, 0, 0), (.getfield 72, 3, 11, 9, 0, 0), (.aload_n 0, 1, 0, 0, 0, 0), (.getfield 41, 3, 11, 5, 0, 0), (.invokespecial 96, 3, 0, 3, 0, 0), (.putfield 99, 3, 11, 12, 0, 0), (.return_, 1, 0, 0, 0, 0)]
theorem sgX11_init_64_ok : qsg cX11_init 11 2 true 64 sgX11_init_64 = true := by decide +kernel
def sgX11_feed_0 : List qEl := [(.aload_n 0, 1, 0, 0, 0, 0), (.getfield 10, 3, 11, 0, 0, 0), (.invokevirtual 103, 3, 0, 0, 0, 0), (.ifCond .ne 5, 3, 12, 0, 0, 0), (.iconst (-1), 1, 0, 0, (-1), 0), (.ireturn, 1, 0, 0, 0, 0)]
theorem sgX11_feed_0_ok : qsg cX11_feed 11 6 false 0 sgX11_feed_0 = true := by decide +kernel
def sgX11_feed_12 : List qEl := [(.aload_n 0, 1, 0, 0, 0, 0), (.getfield 10, 3, 11, 0, 0, 0), (.iload_n 1, 1, 0, 0, 0, 0), (.invokevirtual 107, 3, 0, 1, 0, 0), (.aload_n 0, 1, 0, 0, 0, 0), (.getfield 10, 3, 11, 0, 0, 0), (.iload_n 2, 1, 0, 0, 0, 0), (.invokevirtual 107, 3, 0, 1, 0, 0), (.aload_n 0, 1, 0, 0, 0, 0), (.getfield 10, 3, 11, 0, 0, 0), (.iload_n 3, 1, 0, 0, 0, 0), (.invokevirtual 107, 3, 0, 1, 0, 0), (.aload_n 0, 1, 0, 0, 0, 0), (.getfield 10, 3, 11, 0, 0, 0), (.iload 4, 2, 0, 0, 0, 0), (.invokevirtual 107, 3, 0, 1, 0, 0), (.aload_n 0, 1, 0, 0, 0, 0), (.getfield 10, 3, 11, 0, 0, 0), (.iload 5, 2, 0, 0, 0, 0), (.invokevirtual 107, 3, 0, 1, 0, 0), (.aload_n 0, 1, 0, 0, 0, 0), (.getfield 10, 3, 11, 0, 0, 0), (.getfield 111, 3, 8, 1, 0, 0), (.ireturn, 1, 0, 0, 0, 0)]
theorem sgX11_feed_12_ok : qsg cX11_feed 11 6 false 12 sgX11_feed_12 = true := by decide +kernel
def sgX11_village_0 : List qEl := [(.aload_n 0, 1, 0, 0, 0, 0), (.iload_n 1, 1, 0, 0, 0, 0), (.sipush 600, 3, 0, 0, 600, 0), (.invokevirtual 115, 3, 1, 2, 0, 0), (.aload_n 0, 1, 0, 0, 0, 0), (.getfield 10, 3, 11, 0, 0, 0), (.iload_n 1, 1, 0, 0, 0, 0), (.invokevirtual 119, 3, 0, 1, 0, 0), (.aload_n 0, 1, 0, 0, 0, 0), (.getfield 56, 3, 11, 7, 0, 0), (.invokevirtual 122, 3, 0, 0, 0, 0), (.ifCond .ne 14, 3, 37, 0, 0, 0), (.aload_n 0, 1, 0, 0, 0, 0), (.getfield 10, 3, 11, 0, 0, 0), (.getfield 125, 3, 8, 5, 0, 0), (.bipush 10, 2, 0, 0, 10, 0), (.isub, 1, 0, 0, 0, 0), (.ireturn, 1, 0, 0, 0, 0)]
theorem sgX11_village_0_ok : qsg cX11_village 11 2 false 0 sgX11_village_0 = true := by decide +kernel
def sgX11_village_37 : List qEl := [(.aload_n 0, 1, 0, 0, 0, 0), (.getfield 19, 3, 11, 1, 0, 0), (.aload_n 0, 1, 0, 0, 0, 0), (.getfield 56, 3, 11, 7, 0, 0), (.getfield 128, 3, 5, 1, 0, 0), (.invokevirtual 129, 3, 0, 1, 0, 0), (.aload_n 0, 1, 0, 0, 0, 0), (.getfield 30, 3, 11, 3, 0, 0), (.aload_n 0, 1, 0, 0, 0, 0), (.getfield 56, 3, 11, 7, 0, 0), (.getfield 133, 3, 5, 2, 0, 0), (.invokevirtual 134, 3, 0, 1, 0, 0), (.aload_n 0, 1, 0, 0, 0, 0), (.getfield 37, 3, 11, 4, 0, 0), (.invokevirtual 137, 3, 0, 0, 0, 0), (.aload_n 0, 1, 0, 0, 0, 0), (.getfield 41, 3, 11, 5, 0, 0), (.invokevirtual 137, 3, 0, 0, 0, 0), (.aload_n 0, 1, 0, 0, 0, 0), (.getfield 47, 3, 11, 6, 0, 0), (.invokevirtual 140, 3, 0, 0, 0, 0), (.aload_n 0, 1, 0, 0, 0, 0), (.iconst 0, 1, 0, 0, 0, 0), (.putfield 141, 3, 11, 13, 0, 0), (.aload_n 0, 1, 0, 0, 0, 0), (.getfield 19, 3, 11, 1, 0, 0), (.getfield 144, 3, 6, 3, 0, 0), (.ireturn, 1, 0, 0, 0, 0)]
theorem sgX11_village_37_ok : qsg cX11_village 11 2 false 37 sgX11_village_37 = true := by decide +kernel
def sgX11_law_0 : List qEl := [(.aload_n 0, 1, 0, 0, 0, 0), (.iload_n 1, 1, 0, 0, 0, 0), (.iconst 0, 1, 0, 0, 0, 0), (.iconst 1, 1, 0, 0, 1, 0), (.invokestatic 147, 3, 0, 3, 0, 0), (.invokevirtual 151, 3, 1, 1, 0, 0), (.aload_n 0, 1, 0, 0, 0, 0), (.iload_n 2, 1, 0, 0, 0, 0), (.sipush 150, 3, 0, 0, 150, 0), (.invokevirtual 115, 3, 1, 2, 0, 0), (.aload_n 0, 1, 0, 0, 0, 0), (.getfield 10, 3, 11, 0, 0, 0), (.iload_n 2, 1, 0, 0, 0, 0), (.invokevirtual 119, 3, 0, 1, 0, 0), (.aload_n 0, 1, 0, 0, 0, 0), (.getfield 63, 3, 11, 8, 0, 0), (.invokevirtual 155, 3, 0, 0, 0, 0), (.ifCond .ne 14, 3, 47, 0, 0, 0), (.aload_n 0, 1, 0, 0, 0, 0), (.getfield 10, 3, 11, 0, 0, 0), (.getfield 125, 3, 8, 5, 0, 0), (.bipush 10, 2, 0, 0, 10, 0), (.isub, 1, 0, 0, 0, 0), (.ireturn, 1, 0, 0, 0, 0)]
theorem sgX11_law_0_ok : qsg cX11_law 11 4 false 0 sgX11_law_0 = true := by decide +kernel
def sgX11_law_47 : List qEl := [(.iload_n 1, 1, 0, 0, 0, 0), (.ifCond .ne 10, 3, 58, 0, 0, 0), (.aload_n 0, 1, 0, 0, 0, 0), (.getfield 37, 3, 11, 4, 0, 0), (.goto 7, 3, 62, 0, 0, 0)]
theorem sgX11_law_47_ok : qsg cX11_law 11 4 false 47 sgX11_law_47 = true := by decide +kernel
def sgX11_law_58 : List qEl := [(.aload_n 0, 1, 0, 0, 0, 0), (.getfield 41, 3, 11, 5, 0, 0)]
theorem sgX11_law_58_ok : qsg cX11_law 11 4 false 58 sgX11_law_58 = true := by decide +kernel
def sgX11_law_62 : List qEl := [(.astore_n 3, 1, 0, 0, 0, 0), (.aload_n 3, 1, 0, 0, 0, 0), (.aload_n 0, 1, 0, 0, 0, 0), (.getfield 63, 3, 11, 8, 0, 0), (.getfield 158, 3, 4, 1, 0, 0), (.invokevirtual 161, 3, 0, 1, 0, 0), (.iconst 1, 1, 0, 0, 1, 0), (.ireturn, 1, 0, 0, 0, 0)]
theorem sgX11_law_62_ok : qsg cX11_law 11 4 false 62 sgX11_law_62 = true := by decide +kernel
def sgX11_plan_0 : List qEl := [(.aload_n 0, 1, 0, 0, 0, 0), (.iload_n 1, 1, 0, 0, 0, 0), (.sipush 150, 3, 0, 0, 150, 0), (.invokevirtual 115, 3, 1, 2, 0, 0), (.aload_n 0, 1, 0, 0, 0, 0), (.getfield 10, 3, 11, 0, 0, 0), (.iload_n 1, 1, 0, 0, 0, 0), (.invokevirtual 119, 3, 0, 1, 0, 0), (.aload_n 0, 1, 0, 0, 0, 0), (.getfield 56, 3, 11, 7, 0, 0), (.getfield 128, 3, 5, 1, 0, 0), (.aload_n 0, 1, 0, 0, 0, 0), (.getfield 19, 3, 11, 1, 0, 0), (.invokevirtual 129, 3, 0, 1, 0, 0), (.aload_n 0, 1, 0, 0, 0, 0), (.getfield 56, 3, 11, 7, 0, 0), (.invokevirtual 164, 3, 0, 0, 0, 0), (.ifCond .ne 14, 3, 51, 0, 0, 0), (.aload_n 0, 1, 0, 0, 0, 0), (.getfield 10, 3, 11, 0, 0, 0), (.getfield 125, 3, 8, 5, 0, 0), (.bipush 10, 2, 0, 0, 10, 0), (.isub, 1, 0, 0, 0, 0), (.ireturn, 1, 0, 0, 0, 0)]
theorem sgX11_plan_0_ok : qsg cX11_plan 11 2 false 0 sgX11_plan_0 = true := by decide +kernel
def sgX11_plan_51 : List qEl := [(.aload_n 0, 1, 0, 0, 0, 0), (.getfield 19, 3, 11, 1, 0, 0), (.aload_n 0, 1, 0, 0, 0, 0), (.getfield 56, 3, 11, 7, 0, 0), (.getfield 128, 3, 5, 1, 0, 0), (.invokevirtual 129, 3, 0, 1, 0, 0), (.aload_n 0, 1, 0, 0, 0, 0), (.getfield 19, 3, 11, 1, 0, 0), (.getfield 167, 3, 6, 4, 0, 0), (.ireturn, 1, 0, 0, 0, 0)]
theorem sgX11_plan_51_ok : qsg cX11_plan 11 2 false 51 sgX11_plan_51 = true := by decide +kernel
def sgX11_book_0 : List qEl := [(.aload_n 0, 1, 0, 0, 0, 0), (.iload_n 1, 1, 0, 0, 0, 0), (.sipush 200, 3, 0, 0, 200, 0), (.invokevirtual 115, 3, 1, 2, 0, 0), (.aload_n 0, 1, 0, 0, 0, 0), (.getfield 10, 3, 11, 0, 0, 0), (.iload_n 1, 1, 0, 0, 0, 0), (.invokevirtual 119, 3, 0, 1, 0, 0), (.aload_n 0, 1, 0, 0, 0, 0), (.getfield 56, 3, 11, 7, 0, 0), (.aload_n 0, 1, 0, 0, 0, 0), (.getfield 19, 3, 11, 1, 0, 0), (.getfield 144, 3, 6, 3, 0, 0), (.invokevirtual 170, 3, 0, 1, 0, 0), (.ifCond .ne 14, 3, 44, 0, 0, 0), (.aload_n 0, 1, 0, 0, 0, 0), (.getfield 10, 3, 11, 0, 0, 0), (.getfield 125, 3, 8, 5, 0, 0), (.bipush 10, 2, 0, 0, 10, 0), (.isub, 1, 0, 0, 0, 0), (.ireturn, 1, 0, 0, 0, 0)]
theorem sgX11_book_0_ok : qsg cX11_book 11 2 false 0 sgX11_book_0 = true := by decide +kernel
def sgX11_book_44 : List qEl := [(.aload_n 0, 1, 0, 0, 0, 0), (.getfield 47, 3, 11, 6, 0, 0), (.aload_n 0, 1, 0, 0, 0, 0), (.getfield 56, 3, 11, 7, 0, 0), (.getfield 174, 3, 5, 3, 0, 0), (.invokevirtual 177, 3, 0, 1, 0, 0), (.aload_n 0, 1, 0, 0, 0, 0), (.getfield 47, 3, 11, 6, 0, 0), (.getfield 180, 3, 0, 2, 0, 0), (.ireturn, 1, 0, 0, 0, 0)]
theorem sgX11_book_44_ok : qsg cX11_book 11 2 false 44 sgX11_book_44 = true := by decide +kernel
def sgX11_fault_0 : List qEl := [(.aload_n 0, 1, 0, 0, 0, 0), (.getfield 10, 3, 11, 0, 0, 0), (.getfield 181, 3, 8, 6, 0, 0), (.ireturn, 1, 0, 0, 0, 0)]
theorem sgX11_fault_0_ok : qsg cX11_fault 11 1 false 0 sgX11_fault_0 = true := by decide +kernel
def sgX11_told_0 : List qEl := [(.iload_n 1, 1, 0, 0, 0, 0), (.tableswitch 87 0 5 #[39, 47, 55, 63, 71, 79], 39, 0, 0, 0, 0)]
theorem sgX11_told_0_ok : qsg cX11_told 11 2 false 0 sgX11_told_0 = true := by decide +kernel
def sgX11_told_40 : List qEl := [(.aload_n 0, 1, 0, 0, 0, 0), (.getfield 19, 3, 11, 1, 0, 0), (.getfield 144, 3, 6, 3, 0, 0), (.ireturn, 1, 0, 0, 0, 0)]
theorem sgX11_told_40_ok : qsg cX11_told 11 2 false 40 sgX11_told_40 = true := by decide +kernel
def sgX11_told_48 : List qEl := [(.aload_n 0, 1, 0, 0, 0, 0), (.getfield 30, 3, 11, 3, 0, 0), (.getfield 184, 3, 1, 1, 0, 0), (.ireturn, 1, 0, 0, 0, 0)]
theorem sgX11_told_48_ok : qsg cX11_told 11 2 false 48 sgX11_told_48 = true := by decide +kernel
def sgX11_told_56 : List qEl := [(.aload_n 0, 1, 0, 0, 0, 0), (.getfield 19, 3, 11, 1, 0, 0), (.getfield 167, 3, 6, 4, 0, 0), (.ireturn, 1, 0, 0, 0, 0)]
theorem sgX11_told_56_ok : qsg cX11_told 11 2 false 56 sgX11_told_56 = true := by decide +kernel
def sgX11_told_64 : List qEl := [(.aload_n 0, 1, 0, 0, 0, 0), (.getfield 47, 3, 11, 6, 0, 0), (.getfield 180, 3, 0, 2, 0, 0), (.ireturn, 1, 0, 0, 0, 0)]
theorem sgX11_told_64_ok : qsg cX11_told 11 2 false 64 sgX11_told_64 = true := by decide +kernel
def sgX11_told_72 : List qEl := [(.aload_n 0, 1, 0, 0, 0, 0), (.getfield 19, 3, 11, 1, 0, 0), (.getfield 187, 3, 6, 6, 0, 0), (.ireturn, 1, 0, 0, 0, 0)]
theorem sgX11_told_72_ok : qsg cX11_told 11 2 false 72 sgX11_told_72 = true := by decide +kernel
def sgX11_told_80 : List qEl := [(.aload_n 0, 1, 0, 0, 0, 0), (.getfield 19, 3, 11, 1, 0, 0), (.getfield 190, 3, 6, 7, 0, 0), (.ireturn, 1, 0, 0, 0, 0)]
theorem sgX11_told_80_ok : qsg cX11_told 11 2 false 80 sgX11_told_80 = true := by decide +kernel
def sgX11_told_88 : List qEl := [(.aload_n 0, 1, 0, 0, 0, 0), (.iload_n 1, 1, 0, 0, 0, 0), (.bipush 6, 2, 0, 0, 6, 0), (.if_icmp .ne 7, 3, 99, 0, 0, 0), (.iconst 1, 1, 0, 0, 1, 0), (.goto 4, 3, 100, 0, 0, 0)]
theorem sgX11_told_88_ok : qsg cX11_told 11 2 false 88 sgX11_told_88 = true := by decide +kernel
def sgX11_told_99 : List qEl := [(.iconst 0, 1, 0, 0, 0, 0)]
theorem sgX11_told_99_ok : qsg cX11_told 11 2 false 99 sgX11_told_99 = true := by decide +kernel
def sgX11_told_100 : List qEl := [(.invokevirtual 151, 3, 1, 1, 0, 0), (.aload_n 0, 1, 0, 0, 0, 0), (.getfield 19, 3, 11, 1, 0, 0), (.getfield 193, 3, 6, 8, 0, 0), (.ireturn, 1, 0, 0, 0, 0)]
theorem sgX11_told_100_ok : qsg cX11_told 11 2 false 100 sgX11_told_100 = true := by decide +kernel
def sgX11_door_0 : List qEl := [(.aload_n 0, 1, 0, 0, 0, 0), (.iload_n 1, 1, 0, 0, 0, 0), (.invokevirtual 196, 3, 1, 1, 0, 0), (.aload_n 0, 1, 0, 0, 0, 0), (.iload_n 2, 1, 0, 0, 0, 0), (.iconst 0, 1, 0, 0, 0, 0), (.bipush 9, 2, 0, 0, 9, 0), (.invokestatic 147, 3, 0, 3, 0, 0), (.invokevirtual 151, 3, 1, 1, 0, 0), (.aload_n 0, 1, 0, 0, 0, 0), (.getfield 19, 3, 11, 1, 0, 0), (.iload_n 1, 1, 0, 0, 0, 0), (.iload_n 2, 1, 0, 0, 0, 0), (.invokevirtual 199, 3, 0, 2, 0, 0), (.ireturn, 1, 0, 0, 0, 0)]
theorem sgX11_door_0_ok : qsg cX11_door 11 3 false 0 sgX11_door_0 = true := by decide +kernel
def sgX11_singer_0 : List qEl := [(.aload_n 0, 1, 0, 0, 0, 0), (.iload_n 1, 1, 0, 0, 0, 0), (.iconst 0, 1, 0, 0, 0, 0), (.aload_n 0, 1, 0, 0, 0, 0), (.getfield 30, 3, 11, 3, 0, 0), (.getfield 184, 3, 1, 1, 0, 0), (.iconst 1, 1, 0, 0, 1, 0), (.isub, 1, 0, 0, 0, 0), (.invokestatic 147, 3, 0, 3, 0, 0), (.invokevirtual 203, 3, 1, 1, 0, 0), (.aload_n 0, 1, 0, 0, 0, 0), (.iload_n 2, 1, 0, 0, 0, 0), (.iconst 0, 1, 0, 0, 0, 0), (.iconst 3, 1, 0, 0, 3, 0), (.invokestatic 147, 3, 0, 3, 0, 0), (.invokevirtual 151, 3, 1, 1, 0, 0), (.aload_n 0, 1, 0, 0, 0, 0), (.getfield 30, 3, 11, 3, 0, 0), (.iload_n 1, 1, 0, 0, 0, 0), (.iload_n 2, 1, 0, 0, 0, 0), (.invokevirtual 206, 3, 0, 2, 0, 0), (.ireturn, 1, 0, 0, 0, 0)]
theorem sgX11_singer_0_ok : qsg cX11_singer 11 3 false 0 sgX11_singer_0 = true := by decide +kernel
def sgX11_line_0 : List qEl := [(.aload_n 0, 1, 0, 0, 0, 0), (.iload_n 1, 1, 0, 0, 0, 0), (.invokevirtual 207, 3, 1, 1, 0, 0), (.aload_n 0, 1, 0, 0, 0, 0), (.iload_n 2, 1, 0, 0, 0, 0), (.iconst 0, 1, 0, 0, 0, 0), (.iconst 3, 1, 0, 0, 3, 0), (.invokestatic 147, 3, 0, 3, 0, 0), (.invokevirtual 151, 3, 1, 1, 0, 0), (.iload_n 2, 1, 0, 0, 0, 0), (.iconst 3, 1, 0, 0, 3, 0), (.if_icmp .ne 14, 3, 31, 0, 0, 0), (.aload_n 0, 1, 0, 0, 0, 0), (.getfield 19, 3, 11, 1, 0, 0), (.iload_n 1, 1, 0, 0, 0, 0), (.invokevirtual 210, 3, 0, 1, 0, 0), (.goto 12, 3, 40, 0, 0, 0)]
theorem sgX11_line_0_ok : qsg cX11_line 11 3 false 0 sgX11_line_0 = true := by decide +kernel
def sgX11_line_31 : List qEl := [(.aload_n 0, 1, 0, 0, 0, 0), (.getfield 19, 3, 11, 1, 0, 0), (.iload_n 1, 1, 0, 0, 0, 0), (.iload_n 2, 1, 0, 0, 0, 0), (.invokevirtual 214, 3, 0, 2, 0, 0)]
theorem sgX11_line_31_ok : qsg cX11_line 11 3 false 31 sgX11_line_31 = true := by decide +kernel
def sgX11_line_40 : List qEl := [(.ireturn, 1, 0, 0, 0, 0)]
theorem sgX11_line_40_ok : qsg cX11_line 11 3 false 40 sgX11_line_40 = true := by decide +kernel
def sgX11_gives_0 : List qEl := [(.aload_n 0, 1, 0, 0, 0, 0), (.iload_n 1, 1, 0, 0, 0, 0), (.invokevirtual 196, 3, 1, 1, 0, 0), (.aload_n 0, 1, 0, 0, 0, 0), (.iload_n 2, 1, 0, 0, 0, 0), (.iconst 0, 1, 0, 0, 0, 0), (.bipush 60, 2, 0, 0, 60, 0), (.invokestatic 147, 3, 0, 3, 0, 0), (.ifCond .eq 17, 3, 30, 0, 0, 0), (.iload_n 3, 1, 0, 0, 0, 0), (.iconst 0, 1, 0, 0, 0, 0), (.bipush 9, 2, 0, 0, 9, 0), (.invokestatic 147, 3, 0, 3, 0, 0), (.ifCond .eq 7, 3, 30, 0, 0, 0), (.iconst 1, 1, 0, 0, 1, 0), (.goto 4, 3, 31, 0, 0, 0)]
theorem sgX11_gives_0_ok : qsg cX11_gives 11 4 false 0 sgX11_gives_0 = true := by decide +kernel
def sgX11_gives_30 : List qEl := [(.iconst 0, 1, 0, 0, 0, 0)]
theorem sgX11_gives_30_ok : qsg cX11_gives 11 4 false 30 sgX11_gives_30 = true := by decide +kernel
def sgX11_gives_31 : List qEl := [(.invokevirtual 151, 3, 1, 1, 0, 0), (.aload_n 0, 1, 0, 0, 0, 0), (.getfield 72, 3, 11, 9, 0, 0), (.iload_n 1, 1, 0, 0, 0, 0), (.iload_n 2, 1, 0, 0, 0, 0), (.iload_n 3, 1, 0, 0, 0, 0), (.invokevirtual 217, 3, 0, 3, 0, 0), (.ireturn, 1, 0, 0, 0, 0)]
theorem sgX11_gives_31_ok : qsg cX11_gives 11 4 false 31 sgX11_gives_31 = true := by decide +kernel
def sgX11_mean_0 : List qEl := [(.aload_n 0, 1, 0, 0, 0, 0), (.iload_n 1, 1, 0, 0, 0, 0), (.invokevirtual 196, 3, 1, 1, 0, 0), (.aload_n 0, 1, 0, 0, 0, 0), (.iload_n 2, 1, 0, 0, 0, 0), (.iconst 0, 1, 0, 0, 0, 0), (.iconst 5, 1, 0, 0, 5, 0), (.invokestatic 147, 3, 0, 3, 0, 0), (.ifCond .eq 16, 3, 28, 0, 0, 0), (.iload_n 3, 1, 0, 0, 0, 0), (.iconst 0, 1, 0, 0, 0, 0), (.iconst 2, 1, 0, 0, 2, 0), (.invokestatic 147, 3, 0, 3, 0, 0), (.ifCond .eq 7, 3, 28, 0, 0, 0), (.iconst 1, 1, 0, 0, 1, 0), (.goto 4, 3, 29, 0, 0, 0)]
theorem sgX11_mean_0_ok : qsg cX11_mean 11 6 false 0 sgX11_mean_0 = true := by decide +kernel
def sgX11_mean_28 : List qEl := [(.iconst 0, 1, 0, 0, 0, 0)]
theorem sgX11_mean_28_ok : qsg cX11_mean 11 6 false 28 sgX11_mean_28 = true := by decide +kernel
def sgX11_mean_29 : List qEl := [(.invokevirtual 151, 3, 1, 1, 0, 0), (.aload_n 0, 1, 0, 0, 0, 0), (.iload 4, 2, 0, 0, 0, 0), (.iconst 0, 1, 0, 0, 0, 0), (.iconst 3, 1, 0, 0, 3, 0), (.invokestatic 147, 3, 0, 3, 0, 0), (.ifCond .eq 17, 3, 57, 0, 0, 0), (.iload 5, 2, 0, 0, 0, 0), (.iconst 0, 1, 0, 0, 0, 0), (.iconst 1, 1, 0, 0, 1, 0), (.invokestatic 147, 3, 0, 3, 0, 0), (.ifCond .eq 7, 3, 57, 0, 0, 0), (.iconst 1, 1, 0, 0, 1, 0), (.goto 4, 3, 58, 0, 0, 0)]
theorem sgX11_mean_29_ok : qsg cX11_mean 11 6 false 29 sgX11_mean_29 = true := by decide +kernel
def sgX11_mean_57 : List qEl := [(.iconst 0, 1, 0, 0, 0, 0)]
theorem sgX11_mean_57_ok : qsg cX11_mean 11 6 false 57 sgX11_mean_57 = true := by decide +kernel
def sgX11_mean_58 : List qEl := [(.invokevirtual 151, 3, 1, 1, 0, 0), (.aload_n 0, 1, 0, 0, 0, 0), (.getfield 72, 3, 11, 9, 0, 0), (.iload_n 1, 1, 0, 0, 0, 0), (.iload_n 2, 1, 0, 0, 0, 0), (.iload_n 3, 1, 0, 0, 0, 0), (.iconst 0, 1, 0, 0, 0, 0), (.invokevirtual 221, 3, 0, 4, 0, 0), (.aload_n 0, 1, 0, 0, 0, 0), (.getfield 72, 3, 11, 9, 0, 0), (.iload 4, 2, 0, 0, 0, 0), (.invokevirtual 225, 3, 0, 1, 0, 0), (.ldc2_w 229, 3, 0, 0, 0, 268435456), (.iload 5, 2, 0, 0, 0, 0), (.invokestatic 231, 3, 0, 3, 0, 0), (.lreturn, 1, 0, 0, 0, 0)]
theorem sgX11_mean_58_ok : qsg cX11_mean 11 6 false 58 sgX11_mean_58 = true := by decide +kernel
def sgX11_planned_0 : List qEl := [(.aload_n 0, 1, 0, 0, 0, 0), (.iload_n 1, 1, 0, 0, 0, 0), (.iconst 0, 1, 0, 0, 0, 0), (.iconst 3, 1, 0, 0, 3, 0), (.invokestatic 147, 3, 0, 3, 0, 0), (.ifCond .eq 16, 3, 23, 0, 0, 0), (.iload_n 2, 1, 0, 0, 0, 0), (.iconst 0, 1, 0, 0, 0, 0), (.iconst 1, 1, 0, 0, 1, 0), (.invokestatic 147, 3, 0, 3, 0, 0), (.ifCond .eq 7, 3, 23, 0, 0, 0), (.iconst 1, 1, 0, 0, 1, 0), (.goto 4, 3, 24, 0, 0, 0)]
theorem sgX11_planned_0_ok : qsg cX11_planned 11 3 false 0 sgX11_planned_0 = true := by decide +kernel
def sgX11_planned_23 : List qEl := [(.iconst 0, 1, 0, 0, 0, 0)]
theorem sgX11_planned_23_ok : qsg cX11_planned 11 3 false 23 sgX11_planned_23 = true := by decide +kernel
def sgX11_planned_24 : List qEl := [(.invokevirtual 151, 3, 1, 1, 0, 0), (.aload_n 0, 1, 0, 0, 0, 0), (.getfield 81, 3, 11, 10, 0, 0), (.iconst 0, 1, 0, 0, 0, 0), (.invokevirtual 235, 3, 0, 1, 0, 0), (.aload_n 0, 1, 0, 0, 0, 0), (.getfield 81, 3, 11, 10, 0, 0), (.iload_n 1, 1, 0, 0, 0, 0), (.invokevirtual 237, 3, 0, 1, 0, 0), (.ldc2_w 229, 3, 0, 0, 0, 268435456), (.iload_n 2, 1, 0, 0, 0, 0), (.invokestatic 231, 3, 0, 3, 0, 0), (.lreturn, 1, 0, 0, 0, 0)]
theorem sgX11_planned_24_ok : qsg cX11_planned 11 3 false 24 sgX11_planned_24 = true := by decide +kernel
def sgX11_longest_0 : List qEl := [(.aload_n 0, 1, 0, 0, 0, 0), (.getfield 81, 3, 11, 10, 0, 0), (.invokevirtual 238, 3, 0, 0, 0, 0), (.ireturn, 1, 0, 0, 0, 0)]
theorem sgX11_longest_0_ok : qsg cX11_longest 11 1 false 0 sgX11_longest_0 = true := by decide +kernel
def sgX11_sure_0 : List qEl := [(.aload_n 0, 1, 0, 0, 0, 0), (.getfield 81, 3, 11, 10, 0, 0), (.invokevirtual 242, 3, 0, 0, 0, 0), (.ireturn, 1, 0, 0, 0, 0)]
theorem sgX11_sure_0_ok : qsg cX11_sure 11 1 false 0 sgX11_sure_0 = true := by decide +kernel
def sgX11_best_0 : List qEl := [(.aload_n 0, 1, 0, 0, 0, 0), (.iload_n 1, 1, 0, 0, 0, 0), (.iconst 0, 1, 0, 0, 0, 0), (.bipush 9, 2, 0, 0, 9, 0), (.invokestatic 147, 3, 0, 3, 0, 0), (.ifCond .eq 16, 3, 24, 0, 0, 0), (.iload_n 2, 1, 0, 0, 0, 0), (.iconst 0, 1, 0, 0, 0, 0), (.iconst 1, 1, 0, 0, 1, 0), (.invokestatic 147, 3, 0, 3, 0, 0), (.ifCond .eq 7, 3, 24, 0, 0, 0), (.iconst 1, 1, 0, 0, 1, 0), (.goto 4, 3, 25, 0, 0, 0)]
theorem sgX11_best_0_ok : qsg cX11_best 11 3 false 0 sgX11_best_0 = true := by decide +kernel
def sgX11_best_24 : List qEl := [(.iconst 0, 1, 0, 0, 0, 0)]
theorem sgX11_best_24_ok : qsg cX11_best 11 3 false 24 sgX11_best_24 = true := by decide +kernel
def sgX11_best_25 : List qEl := [(.invokevirtual 151, 3, 1, 1, 0, 0), (.aload_n 0, 1, 0, 0, 0, 0), (.invokevirtual 245, 3, 1, 0, 0, 0), (.aload_n 0, 1, 0, 0, 0, 0), (.getfield 90, 3, 11, 11, 0, 0), (.iload_n 1, 1, 0, 0, 0, 0), (.invokevirtual 248, 3, 0, 1, 0, 0), (.aload_n 0, 1, 0, 0, 0, 0), (.getfield 90, 3, 11, 11, 0, 0), (.getfield 251, 3, 7, 10, 0, 0), (.ldc2_w 229, 3, 0, 0, 0, 268435456), (.iload_n 2, 1, 0, 0, 0, 0), (.invokestatic 231, 3, 0, 3, 0, 0), (.lreturn, 1, 0, 0, 0, 0)]
theorem sgX11_best_25_ok : qsg cX11_best 11 3 false 25 sgX11_best_25 = true := by decide +kernel
def sgX11_bestAt_0 : List qEl := [(.aload_n 0, 1, 0, 0, 0, 0), (.iload_n 2, 1, 0, 0, 0, 0), (.invokevirtual 196, 3, 1, 1, 0, 0), (.aload_n 0, 1, 0, 0, 0, 0), (.iload_n 1, 1, 0, 0, 0, 0), (.iconst 0, 1, 0, 0, 0, 0), (.bipush 9, 2, 0, 0, 9, 0), (.invokestatic 147, 3, 0, 3, 0, 0), (.invokevirtual 151, 3, 1, 1, 0, 0), (.aload_n 0, 1, 0, 0, 0, 0), (.invokevirtual 245, 3, 1, 0, 0, 0), (.aload_n 0, 1, 0, 0, 0, 0), (.getfield 90, 3, 11, 11, 0, 0), (.iload_n 1, 1, 0, 0, 0, 0), (.invokevirtual 248, 3, 0, 1, 0, 0), (.aload_n 0, 1, 0, 0, 0, 0), (.getfield 90, 3, 11, 11, 0, 0), (.iload_n 2, 1, 0, 0, 0, 0), (.invokevirtual 255, 3, 0, 1, 0, 0), (.ireturn, 1, 0, 0, 0, 0)]
theorem sgX11_bestAt_0_ok : qsg cX11_bestAt 11 3 false 0 sgX11_bestAt_0 = true := by decide +kernel
def sgX11_bestLong_0 : List qEl := [(.aload_n 0, 1, 0, 0, 0, 0), (.iload_n 1, 1, 0, 0, 0, 0), (.iconst 0, 1, 0, 0, 0, 0), (.bipush 9, 2, 0, 0, 9, 0), (.invokestatic 147, 3, 0, 3, 0, 0), (.invokevirtual 151, 3, 1, 1, 0, 0), (.aload_n 0, 1, 0, 0, 0, 0), (.invokevirtual 245, 3, 1, 0, 0, 0), (.aload_n 0, 1, 0, 0, 0, 0), (.getfield 90, 3, 11, 11, 0, 0), (.iload_n 1, 1, 0, 0, 0, 0), (.invokevirtual 248, 3, 0, 1, 0, 0), (.aload_n 0, 1, 0, 0, 0, 0), (.getfield 90, 3, 11, 11, 0, 0), (.getfield 258, 3, 7, 11, 0, 0), (.ireturn, 1, 0, 0, 0, 0)]
theorem sgX11_bestLong_0_ok : qsg cX11_bestLong 11 2 false 0 sgX11_bestLong_0 = true := by decide +kernel
def sgX11_home_0 : List qEl := [(.aload_n 0, 1, 0, 0, 0, 0), (.iload_n 1, 1, 0, 0, 0, 0), (.invokevirtual 196, 3, 1, 1, 0, 0), (.aload_n 0, 1, 0, 0, 0, 0), (.iload_n 2, 1, 0, 0, 0, 0), (.iconst 0, 1, 0, 0, 0, 0), (.iconst 2, 1, 0, 0, 2, 0), (.invokestatic 147, 3, 0, 3, 0, 0), (.ifCond .eq 27, 3, 39, 0, 0, 0), (.iload_n 3, 1, 0, 0, 0, 0), (.iconst 0, 1, 0, 0, 0, 0), (.bipush 10, 2, 0, 0, 10, 0), (.invokestatic 147, 3, 0, 3, 0, 0), (.ifCond .eq 17, 3, 39, 0, 0, 0), (.iload 4, 2, 0, 0, 0, 0), (.iconst 0, 1, 0, 0, 0, 0), (.iconst 1, 1, 0, 0, 1, 0), (.invokestatic 147, 3, 0, 3, 0, 0), (.ifCond .eq 7, 3, 39, 0, 0, 0), (.iconst 1, 1, 0, 0, 1, 0), (.goto 4, 3, 40, 0, 0, 0)]
theorem sgX11_home_0_ok : qsg cX11_home 11 5 false 0 sgX11_home_0 = true := by decide +kernel
def sgX11_home_39 : List qEl := [(.iconst 0, 1, 0, 0, 0, 0)]
theorem sgX11_home_39_ok : qsg cX11_home 11 5 false 39 sgX11_home_39 = true := by decide +kernel
def sgX11_home_40 : List qEl := [(.invokevirtual 151, 3, 1, 1, 0, 0), (.aload_n 0, 1, 0, 0, 0, 0), (.getfield 72, 3, 11, 9, 0, 0), (.iload_n 1, 1, 0, 0, 0, 0), (.iload_n 2, 1, 0, 0, 0, 0), (.iload_n 3, 1, 0, 0, 0, 0), (.invokevirtual 261, 3, 0, 3, 0, 0), (.aload_n 0, 1, 0, 0, 0, 0), (.getfield 72, 3, 11, 9, 0, 0), (.iload_n 1, 1, 0, 0, 0, 0), (.iload_n 2, 1, 0, 0, 0, 0), (.iload_n 3, 1, 0, 0, 0, 0), (.invokevirtual 265, 3, 0, 3, 0, 0), (.iload 4, 2, 0, 0, 0, 0), (.invokestatic 231, 3, 0, 3, 0, 0), (.lreturn, 1, 0, 0, 0, 0)]
theorem sgX11_home_40_ok : qsg cX11_home 11 5 false 40 sgX11_home_40 = true := by decide +kernel
def sgX11_another_0 : List qEl := [(.aload_n 0, 1, 0, 0, 0, 0), (.iload_n 1, 1, 0, 0, 0, 0), (.invokevirtual 196, 3, 1, 1, 0, 0), (.aload_n 0, 1, 0, 0, 0, 0), (.iload_n 2, 1, 0, 0, 0, 0), (.iconst 0, 1, 0, 0, 0, 0), (.iconst 2, 1, 0, 0, 2, 0), (.invokestatic 147, 3, 0, 3, 0, 0), (.ifCond .eq 27, 3, 39, 0, 0, 0), (.iload_n 3, 1, 0, 0, 0, 0), (.iconst 0, 1, 0, 0, 0, 0), (.bipush 10, 2, 0, 0, 10, 0), (.invokestatic 147, 3, 0, 3, 0, 0), (.ifCond .eq 17, 3, 39, 0, 0, 0), (.iload 4, 2, 0, 0, 0, 0), (.iconst 0, 1, 0, 0, 0, 0), (.iconst 1, 1, 0, 0, 1, 0), (.invokestatic 147, 3, 0, 3, 0, 0), (.ifCond .eq 7, 3, 39, 0, 0, 0), (.iconst 1, 1, 0, 0, 1, 0), (.goto 4, 3, 40, 0, 0, 0)]
theorem sgX11_another_0_ok : qsg cX11_another 11 7 false 0 sgX11_another_0 = true := by decide +kernel
def sgX11_another_39 : List qEl := [(.iconst 0, 1, 0, 0, 0, 0)]
theorem sgX11_another_39_ok : qsg cX11_another 11 7 false 39 sgX11_another_39 = true := by decide +kernel
def sgX11_another_40 : List qEl := [(.invokevirtual 151, 3, 1, 1, 0, 0), (.aload_n 0, 1, 0, 0, 0, 0), (.getfield 72, 3, 11, 9, 0, 0), (.iload_n 1, 1, 0, 0, 0, 0), (.iload_n 2, 1, 0, 0, 0, 0), (.iload_n 3, 1, 0, 0, 0, 0), (.invokevirtual 261, 3, 0, 3, 0, 0), (.aload_n 0, 1, 0, 0, 0, 0), (.getfield 19, 3, 11, 1, 0, 0), (.iload_n 1, 1, 0, 0, 0, 0), (.iconst 4, 1, 0, 0, 4, 0), (.invokevirtual 199, 3, 0, 2, 0, 0), (.i2l, 1, 0, 0, 0, 0), (.lmul, 1, 0, 0, 0, 0), (.lstore 5, 2, 0, 0, 0, 0), (.lload 5, 2, 0, 0, 0, 0), (.aload_n 0, 1, 0, 0, 0, 0), (.getfield 72, 3, 11, 9, 0, 0), (.iload_n 1, 1, 0, 0, 0, 0), (.iload_n 2, 1, 0, 0, 0, 0), (.iload_n 3, 1, 0, 0, 0, 0), (.invokevirtual 265, 3, 0, 3, 0, 0), (.ldc2_w 268, 3, 0, 0, 0, 16), (.lmul, 1, 0, 0, 0, 0), (.iload 4, 2, 0, 0, 0, 0), (.invokestatic 231, 3, 0, 3, 0, 0), (.lreturn, 1, 0, 0, 0, 0)]
theorem sgX11_another_40_ok : qsg cX11_another 11 7 false 40 sgX11_another_40 = true := by decide +kernel
def sgX11_lineAt_0 : List qEl := [(.aload_n 0, 1, 0, 0, 0, 0), (.iload_n 1, 1, 0, 0, 0, 0), (.invokevirtual 196, 3, 1, 1, 0, 0), (.aload_n 0, 1, 0, 0, 0, 0), (.iload_n 2, 1, 0, 0, 0, 0), (.iconst 0, 1, 0, 0, 0, 0), (.iconst 2, 1, 0, 0, 2, 0), (.invokestatic 147, 3, 0, 3, 0, 0), (.ifCond .eq 18, 3, 30, 0, 0, 0), (.iload_n 3, 1, 0, 0, 0, 0), (.iconst 0, 1, 0, 0, 0, 0), (.sipush 999, 3, 0, 0, 999, 0), (.invokestatic 147, 3, 0, 3, 0, 0), (.ifCond .eq 7, 3, 30, 0, 0, 0), (.iconst 1, 1, 0, 0, 1, 0), (.goto 4, 3, 31, 0, 0, 0)]
theorem sgX11_lineAt_0_ok : qsg cX11_lineAt 11 5 false 0 sgX11_lineAt_0 = true := by decide +kernel
def sgX11_lineAt_30 : List qEl := [(.iconst 0, 1, 0, 0, 0, 0)]
theorem sgX11_lineAt_30_ok : qsg cX11_lineAt 11 5 false 30 sgX11_lineAt_30 = true := by decide +kernel
def sgX11_lineAt_31 : List qEl := [(.invokevirtual 151, 3, 1, 1, 0, 0), (.iconst 0, 1, 0, 0, 0, 0), (.istore 4, 2, 0, 0, 0, 0)]
theorem sgX11_lineAt_31_ok : qsg cX11_lineAt 11 5 false 31 sgX11_lineAt_31 = true := by decide +kernel
def sgX11_lineAt_37 : List qEl := [(.iload 4, 2, 0, 0, 0, 0), (.bipush 10, 2, 0, 0, 10, 0), (.if_icmp .gt 27, 3, 68, 0, 0, 0), (.aload_n 0, 1, 0, 0, 0, 0), (.getfield 72, 3, 11, 9, 0, 0), (.iload_n 1, 1, 0, 0, 0, 0), (.iload_n 2, 1, 0, 0, 0, 0), (.iload 4, 2, 0, 0, 0, 0), (.iload_n 3, 1, 0, 0, 0, 0), (.invokevirtual 270, 3, 0, 4, 0, 0), (.ifCond .eq 6, 3, 62, 0, 0, 0), (.iload 4, 2, 0, 0, 0, 0), (.ireturn, 1, 0, 0, 0, 0)]
theorem sgX11_lineAt_37_ok : qsg cX11_lineAt 11 5 false 37 sgX11_lineAt_37 = true := by decide +kernel
def sgX11_lineAt_62 : List qEl := [(.iinc 4 1, 3, 0, 0, 1, 0), (.goto (-28), 3, 37, 0, 0, 0)]
theorem sgX11_lineAt_62_ok : qsg cX11_lineAt 11 5 false 62 sgX11_lineAt_62 = true := by decide +kernel
def sgX11_lineAt_68 : List qEl := [(.iconst (-1), 1, 0, 0, (-1), 0), (.ireturn, 1, 0, 0, 0, 0)]
theorem sgX11_lineAt_68_ok : qsg cX11_lineAt 11 5 false 68 sgX11_lineAt_68 = true := by decide +kernel
def sgX11_ring_0 : List qEl := [(.aload_n 0, 1, 0, 0, 0, 0), (.iload_n 1, 1, 0, 0, 0, 0), (.invokevirtual 196, 3, 1, 1, 0, 0), (.aload_n 0, 1, 0, 0, 0, 0), (.iload_n 2, 1, 0, 0, 0, 0), (.iconst 0, 1, 0, 0, 0, 0), (.iconst 5, 1, 0, 0, 5, 0), (.invokestatic 147, 3, 0, 3, 0, 0), (.invokevirtual 151, 3, 1, 1, 0, 0), (.iconst 0, 1, 0, 0, 0, 0), (.istore_n 3, 1, 0, 0, 0, 0), (.aload_n 0, 1, 0, 0, 0, 0), (.getfield 72, 3, 11, 9, 0, 0), (.iload_n 1, 1, 0, 0, 0, 0), (.iload_n 2, 1, 0, 0, 0, 0), (.iconst 0, 1, 0, 0, 0, 0), (.iconst 0, 1, 0, 0, 0, 0), (.invokevirtual 221, 3, 0, 4, 0, 0), (.aload_n 0, 1, 0, 0, 0, 0), (.getfield 72, 3, 11, 9, 0, 0), (.getfield 274, 3, 10, 5, 0, 0), (.lstore 4, 2, 0, 0, 0, 0), (.aload_n 0, 1, 0, 0, 0, 0), (.getfield 72, 3, 11, 9, 0, 0), (.getfield 277, 3, 10, 7, 0, 0), (.lstore 6, 2, 0, 0, 0, 0), (.iconst 1, 1, 0, 0, 1, 0), (.istore 8, 2, 0, 0, 0, 0)]
theorem sgX11_ring_0_ok : qsg cX11_ring 11 9 false 0 sgX11_ring_0 = true := by decide +kernel
def sgX11_ring_49 : List qEl := [(.iload 8, 2, 0, 0, 0, 0), (.iconst 2, 1, 0, 0, 2, 0), (.if_icmp .gt 81, 3, 133, 0, 0, 0), (.aload_n 0, 1, 0, 0, 0, 0), (.getfield 72, 3, 11, 9, 0, 0), (.iload_n 1, 1, 0, 0, 0, 0), (.iload_n 2, 1, 0, 0, 0, 0), (.iload 8, 2, 0, 0, 0, 0), (.iconst 0, 1, 0, 0, 0, 0), (.invokevirtual 221, 3, 0, 4, 0, 0), (.aload_n 0, 1, 0, 0, 0, 0), (.getfield 72, 3, 11, 9, 0, 0), (.getfield 274, 3, 10, 5, 0, 0), (.lload 4, 2, 0, 0, 0, 0), (.lcmp, 1, 0, 0, 0, 0), (.ifCond .gt 29, 3, 106, 0, 0, 0), (.aload_n 0, 1, 0, 0, 0, 0), (.getfield 72, 3, 11, 9, 0, 0), (.getfield 274, 3, 10, 5, 0, 0), (.lload 4, 2, 0, 0, 0, 0), (.lcmp, 1, 0, 0, 0, 0), (.ifCond .ne 37, 3, 127, 0, 0, 0), (.aload_n 0, 1, 0, 0, 0, 0), (.getfield 72, 3, 11, 9, 0, 0), (.getfield 277, 3, 10, 7, 0, 0), (.lload 6, 2, 0, 0, 0, 0), (.lcmp, 1, 0, 0, 0, 0), (.ifCond .ge 24, 3, 127, 0, 0, 0)]
theorem sgX11_ring_49_ok : qsg cX11_ring 11 9 false 49 sgX11_ring_49 = true := by decide +kernel
def sgX11_ring_106 : List qEl := [(.iload 8, 2, 0, 0, 0, 0), (.istore_n 3, 1, 0, 0, 0, 0), (.aload_n 0, 1, 0, 0, 0, 0), (.getfield 72, 3, 11, 9, 0, 0), (.getfield 274, 3, 10, 5, 0, 0), (.lstore 4, 2, 0, 0, 0, 0), (.aload_n 0, 1, 0, 0, 0, 0), (.getfield 72, 3, 11, 9, 0, 0), (.getfield 277, 3, 10, 7, 0, 0), (.lstore 6, 2, 0, 0, 0, 0)]
theorem sgX11_ring_106_ok : qsg cX11_ring 11 9 false 106 sgX11_ring_106 = true := by decide +kernel
def sgX11_ring_127 : List qEl := [(.iinc 8 1, 3, 0, 0, 1, 0), (.goto (-81), 3, 49, 0, 0, 0)]
theorem sgX11_ring_127_ok : qsg cX11_ring 11 9 false 127 sgX11_ring_127 = true := by decide +kernel
def sgX11_ring_133 : List qEl := [(.iload_n 3, 1, 0, 0, 0, 0), (.ireturn, 1, 0, 0, 0, 0)]
theorem sgX11_ring_133_ok : qsg cX11_ring 11 9 false 133 sgX11_ring_133 = true := by decide +kernel
def sgX11_pays_0 : List qEl := [(.aload_n 0, 1, 0, 0, 0, 0), (.iload_n 1, 1, 0, 0, 0, 0), (.invokevirtual 196, 3, 1, 1, 0, 0), (.aload_n 0, 1, 0, 0, 0, 0), (.iload_n 2, 1, 0, 0, 0, 0), (.iconst 0, 1, 0, 0, 0, 0), (.iconst 5, 1, 0, 0, 5, 0), (.invokestatic 147, 3, 0, 3, 0, 0), (.ifCond .eq 27, 3, 39, 0, 0, 0), (.iload_n 3, 1, 0, 0, 0, 0), (.iconst 0, 1, 0, 0, 0, 0), (.iconst 2, 1, 0, 0, 2, 0), (.invokestatic 147, 3, 0, 3, 0, 0), (.ifCond .eq 18, 3, 39, 0, 0, 0), (.iload 4, 2, 0, 0, 0, 0), (.iconst 0, 1, 0, 0, 0, 0), (.bipush 99, 2, 0, 0, 99, 0), (.invokestatic 147, 3, 0, 3, 0, 0), (.ifCond .eq 7, 3, 39, 0, 0, 0), (.iconst 1, 1, 0, 0, 1, 0), (.goto 4, 3, 40, 0, 0, 0)]
theorem sgX11_pays_0_ok : qsg cX11_pays 11 5 false 0 sgX11_pays_0 = true := by decide +kernel
def sgX11_pays_39 : List qEl := [(.iconst 0, 1, 0, 0, 0, 0)]
theorem sgX11_pays_39_ok : qsg cX11_pays 11 5 false 39 sgX11_pays_39 = true := by decide +kernel
def sgX11_pays_40 : List qEl := [(.invokevirtual 151, 3, 1, 1, 0, 0), (.aload_n 0, 1, 0, 0, 0, 0), (.getfield 72, 3, 11, 9, 0, 0), (.iload_n 1, 1, 0, 0, 0, 0), (.iload_n 2, 1, 0, 0, 0, 0), (.iload_n 3, 1, 0, 0, 0, 0), (.iconst 0, 1, 0, 0, 0, 0), (.invokevirtual 221, 3, 0, 4, 0, 0), (.aload_n 0, 1, 0, 0, 0, 0), (.getfield 72, 3, 11, 9, 0, 0), (.getfield 274, 3, 10, 5, 0, 0), (.iload 4, 2, 0, 0, 0, 0), (.i2l, 1, 0, 0, 0, 0), (.aload_n 0, 1, 0, 0, 0, 0), (.getfield 72, 3, 11, 9, 0, 0), (.getfield 277, 3, 10, 7, 0, 0), (.lmul, 1, 0, 0, 0, 0), (.lcmp, 1, 0, 0, 0, 0), (.ifCond .lt 7, 3, 80, 0, 0, 0), (.iconst 1, 1, 0, 0, 1, 0), (.goto 4, 3, 81, 0, 0, 0)]
theorem sgX11_pays_40_ok : qsg cX11_pays 11 5 false 40 sgX11_pays_40 = true := by decide +kernel
def sgX11_pays_80 : List qEl := [(.iconst 0, 1, 0, 0, 0, 0)]
theorem sgX11_pays_80_ok : qsg cX11_pays 11 5 false 80 sgX11_pays_80 = true := by decide +kernel
def sgX11_pays_81 : List qEl := [(.ireturn, 1, 0, 0, 0, 0)]
theorem sgX11_pays_81_ok : qsg cX11_pays 11 5 false 81 sgX11_pays_81 = true := by decide +kernel
def sgX11_stop_0 : List qEl := [(.aload_n 0, 1, 0, 0, 0, 0), (.iload_n 1, 1, 0, 0, 0, 0), (.iconst 0, 1, 0, 0, 0, 0), (.bipush 99, 2, 0, 0, 99, 0), (.invokestatic 147, 3, 0, 3, 0, 0), (.invokevirtual 151, 3, 1, 1, 0, 0), (.iconst 0, 1, 0, 0, 0, 0), (.istore_n 2, 1, 0, 0, 0, 0)]
theorem sgX11_stop_0_ok : qsg cX11_stop 11 3 false 0 sgX11_stop_0 = true := by decide +kernel
def sgX11_stop_13 : List qEl := [(.iload_n 2, 1, 0, 0, 0, 0), (.aload_n 0, 1, 0, 0, 0, 0), (.getfield 19, 3, 11, 1, 0, 0), (.getfield 167, 3, 6, 4, 0, 0), (.if_icmp .ge 40, 3, 61, 0, 0, 0), (.aload_n 0, 1, 0, 0, 0, 0), (.getfield 81, 3, 11, 10, 0, 0), (.iload_n 2, 1, 0, 0, 0, 0), (.invokevirtual 235, 3, 0, 1, 0, 0), (.aload_n 0, 1, 0, 0, 0, 0), (.getfield 81, 3, 11, 10, 0, 0), (.getfield 280, 3, 9, 7, 0, 0), (.iload_n 1, 1, 0, 0, 0, 0), (.i2l, 1, 0, 0, 0, 0), (.aload_n 0, 1, 0, 0, 0, 0), (.getfield 81, 3, 11, 10, 0, 0), (.getfield 281, 3, 9, 9, 0, 0), (.lmul, 1, 0, 0, 0, 0), (.lcmp, 1, 0, 0, 0, 0), (.ifCond .ge 5, 3, 55, 0, 0, 0), (.iload_n 2, 1, 0, 0, 0, 0), (.ireturn, 1, 0, 0, 0, 0)]
theorem sgX11_stop_13_ok : qsg cX11_stop 11 3 false 13 sgX11_stop_13 = true := by decide +kernel
def sgX11_stop_55 : List qEl := [(.iinc 2 1, 3, 0, 0, 1, 0), (.goto (-45), 3, 13, 0, 0, 0)]
theorem sgX11_stop_55_ok : qsg cX11_stop 11 3 false 55 sgX11_stop_55 = true := by decide +kernel
def sgX11_stop_61 : List qEl := [(.iconst (-1), 1, 0, 0, (-1), 0), (.ireturn, 1, 0, 0, 0, 0)]
theorem sgX11_stop_61_ok : qsg cX11_stop 11 3 false 61 sgX11_stop_61 = true := by decide +kernel
def sgX11_lasts_0 : List qEl := [(.aload_n 0, 1, 0, 0, 0, 0), (.iload_n 1, 1, 0, 0, 0, 0), (.iconst 0, 1, 0, 0, 0, 0), (.bipush 8, 2, 0, 0, 8, 0), (.invokestatic 147, 3, 0, 3, 0, 0), (.ifCond .eq 18, 3, 26, 0, 0, 0), (.iload_n 2, 1, 0, 0, 0, 0), (.iconst 0, 1, 0, 0, 0, 0), (.sipush 480, 3, 0, 0, 480, 0), (.invokestatic 147, 3, 0, 3, 0, 0), (.ifCond .eq 7, 3, 26, 0, 0, 0), (.iconst 1, 1, 0, 0, 1, 0), (.goto 4, 3, 27, 0, 0, 0)]
theorem sgX11_lasts_0_ok : qsg cX11_lasts 11 3 false 0 sgX11_lasts_0 = true := by decide +kernel
def sgX11_lasts_26 : List qEl := [(.iconst 0, 1, 0, 0, 0, 0)]
theorem sgX11_lasts_26_ok : qsg cX11_lasts 11 3 false 26 sgX11_lasts_26 = true := by decide +kernel
def sgX11_lasts_27 : List qEl := [(.invokevirtual 151, 3, 1, 1, 0, 0), (.aload_n 0, 1, 0, 0, 0, 0), (.getfield 30, 3, 11, 3, 0, 0), (.iload_n 1, 1, 0, 0, 0, 0), (.iload_n 2, 1, 0, 0, 0, 0), (.iconst (-1), 1, 0, 0, (-1), 0), (.invokevirtual 282, 3, 0, 3, 0, 0), (.ireturn, 1, 0, 0, 0, 0)]
theorem sgX11_lasts_27_ok : qsg cX11_lasts 11 3 false 27 sgX11_lasts_27 = true := by decide +kernel
def sgX11_without_0 : List qEl := [(.aload_n 0, 1, 0, 0, 0, 0), (.iload_n 1, 1, 0, 0, 0, 0), (.iconst 0, 1, 0, 0, 0, 0), (.iconst 3, 1, 0, 0, 3, 0), (.invokestatic 147, 3, 0, 3, 0, 0), (.invokevirtual 151, 3, 1, 1, 0, 0), (.aload_n 0, 1, 0, 0, 0, 0), (.iload_n 2, 1, 0, 0, 0, 0), (.iconst 0, 1, 0, 0, 0, 0), (.bipush 8, 2, 0, 0, 8, 0), (.invokestatic 147, 3, 0, 3, 0, 0), (.ifCond .eq 18, 3, 36, 0, 0, 0), (.iload_n 3, 1, 0, 0, 0, 0), (.iconst 0, 1, 0, 0, 0, 0), (.sipush 480, 3, 0, 0, 480, 0), (.invokestatic 147, 3, 0, 3, 0, 0), (.ifCond .eq 7, 3, 36, 0, 0, 0), (.iconst 1, 1, 0, 0, 1, 0), (.goto 4, 3, 37, 0, 0, 0)]
theorem sgX11_without_0_ok : qsg cX11_without 11 4 false 0 sgX11_without_0 = true := by decide +kernel
def sgX11_without_36 : List qEl := [(.iconst 0, 1, 0, 0, 0, 0)]
theorem sgX11_without_36_ok : qsg cX11_without 11 4 false 36 sgX11_without_36 = true := by decide +kernel
def sgX11_without_37 : List qEl := [(.invokevirtual 151, 3, 1, 1, 0, 0), (.aload_n 0, 1, 0, 0, 0, 0), (.getfield 30, 3, 11, 3, 0, 0), (.iload_n 2, 1, 0, 0, 0, 0), (.iload_n 3, 1, 0, 0, 0, 0), (.iload_n 1, 1, 0, 0, 0, 0), (.invokevirtual 282, 3, 0, 3, 0, 0), (.ireturn, 1, 0, 0, 0, 0)]
theorem sgX11_without_37_ok : qsg cX11_without 11 4 false 37 sgX11_without_37 = true := by decide +kernel
def sgX11_there_0 : List qEl := [(.aload_n 0, 1, 0, 0, 0, 0), (.iload_n 1, 1, 0, 0, 0, 0), (.iconst 0, 1, 0, 0, 0, 0), (.sipush 480, 3, 0, 0, 480, 0), (.invokestatic 147, 3, 0, 3, 0, 0), (.invokevirtual 151, 3, 1, 1, 0, 0), (.aload_n 0, 1, 0, 0, 0, 0), (.getfield 30, 3, 11, 3, 0, 0), (.iload_n 1, 1, 0, 0, 0, 0), (.invokevirtual 285, 3, 0, 1, 0, 0), (.ireturn, 1, 0, 0, 0, 0)]
theorem sgX11_there_0_ok : qsg cX11_there 11 2 false 0 sgX11_there_0 = true := by decide +kernel
def sgX11_flat_0 : List qEl := [(.aload_n 0, 1, 0, 0, 0, 0), (.getfield 30, 3, 11, 3, 0, 0), (.invokevirtual 288, 3, 0, 0, 0, 0), (.ireturn, 1, 0, 0, 0, 0)]
theorem sgX11_flat_0_ok : qsg cX11_flat 11 1 false 0 sgX11_flat_0 = true := by decide +kernel
def sgX11_solos_0 : List qEl := [(.aload_n 0, 1, 0, 0, 0, 0), (.getfield 81, 3, 11, 10, 0, 0), (.invokevirtual 291, 3, 0, 0, 0, 0), (.aload_n 0, 1, 0, 0, 0, 0), (.getfield 81, 3, 11, 10, 0, 0), (.getfield 294, 3, 9, 10, 0, 0), (.ireturn, 1, 0, 0, 0, 0)]
theorem sgX11_solos_0_ok : qsg cX11_solos 11 1 false 0 sgX11_solos_0 = true := by decide +kernel
def sgX11_soloJoy_0 : List qEl := [(.aload_n 0, 1, 0, 0, 0, 0), (.iload_n 1, 1, 0, 0, 0, 0), (.iconst 0, 1, 0, 0, 0, 0), (.iconst 1, 1, 0, 0, 1, 0), (.invokestatic 147, 3, 0, 3, 0, 0), (.invokevirtual 151, 3, 1, 1, 0, 0), (.aload_n 0, 1, 0, 0, 0, 0), (.getfield 81, 3, 11, 10, 0, 0), (.invokevirtual 291, 3, 0, 0, 0, 0), (.aload_n 0, 1, 0, 0, 0, 0), (.getfield 81, 3, 11, 10, 0, 0), (.getfield 297, 3, 9, 11, 0, 0), (.ldc2_w 229, 3, 0, 0, 0, 268435456), (.iload_n 1, 1, 0, 0, 0, 0), (.invokestatic 231, 3, 0, 3, 0, 0), (.lreturn, 1, 0, 0, 0, 0)]
theorem sgX11_soloJoy_0_ok : qsg cX11_soloJoy 11 2 false 0 sgX11_soloJoy_0 = true := by decide +kernel
def sgX11_party_0 : List qEl := [(.aload_n 0, 1, 0, 0, 0, 0), (.iload_n 1, 1, 0, 0, 0, 0), (.iconst 0, 1, 0, 0, 0, 0), (.iconst 1, 1, 0, 0, 1, 0), (.invokestatic 147, 3, 0, 3, 0, 0), (.invokevirtual 151, 3, 1, 1, 0, 0), (.aload_n 0, 1, 0, 0, 0, 0), (.getfield 81, 3, 11, 10, 0, 0), (.invokevirtual 300, 3, 0, 0, 0, 0), (.iload_n 1, 1, 0, 0, 0, 0), (.ifCond .ne 13, 3, 31, 0, 0, 0), (.aload_n 0, 1, 0, 0, 0, 0), (.getfield 81, 3, 11, 10, 0, 0), (.getfield 303, 3, 9, 12, 0, 0), (.goto 10, 3, 38, 0, 0, 0)]
theorem sgX11_party_0_ok : qsg cX11_party 11 2 false 0 sgX11_party_0 = true := by decide +kernel
def sgX11_party_31 : List qEl := [(.aload_n 0, 1, 0, 0, 0, 0), (.getfield 81, 3, 11, 10, 0, 0), (.getfield 306, 3, 9, 13, 0, 0)]
theorem sgX11_party_31_ok : qsg cX11_party 11 2 false 31 sgX11_party_31 = true := by decide +kernel
def sgX11_party_38 : List qEl := [(.ireturn, 1, 0, 0, 0, 0)]
theorem sgX11_party_38_ok : qsg cX11_party 11 2 false 38 sgX11_party_38 = true := by decide +kernel
def sgX11_gave_0 : List qEl := [(.aload_n 0, 1, 0, 0, 0, 0), (.iload_n 1, 1, 0, 0, 0, 0), (.iconst 0, 1, 0, 0, 0, 0), (.iconst 3, 1, 0, 0, 3, 0), (.invokestatic 147, 3, 0, 3, 0, 0), (.invokevirtual 151, 3, 1, 1, 0, 0), (.aload_n 0, 1, 0, 0, 0, 0), (.getfield 47, 3, 11, 6, 0, 0), (.aload_n 0, 1, 0, 0, 0, 0), (.getfield 19, 3, 11, 1, 0, 0), (.invokevirtual 309, 3, 0, 1, 0, 0), (.iload_n 1, 1, 0, 0, 0, 0), (.tableswitch 50 0 2 #[26, 34, 42], 26, 0, 0, 0, 0)]
theorem sgX11_gave_0_ok : qsg cX11_gave 11 2 false 0 sgX11_gave_0 = true := by decide +kernel
def sgX11_gave_48 : List qEl := [(.aload_n 0, 1, 0, 0, 0, 0), (.getfield 47, 3, 11, 6, 0, 0), (.getfield 312, 3, 0, 3, 0, 0), (.ireturn, 1, 0, 0, 0, 0)]
theorem sgX11_gave_48_ok : qsg cX11_gave 11 2 false 48 sgX11_gave_48 = true := by decide +kernel
def sgX11_gave_56 : List qEl := [(.aload_n 0, 1, 0, 0, 0, 0), (.getfield 47, 3, 11, 6, 0, 0), (.getfield 315, 3, 0, 4, 0, 0), (.ireturn, 1, 0, 0, 0, 0)]
theorem sgX11_gave_56_ok : qsg cX11_gave 11 2 false 56 sgX11_gave_56 = true := by decide +kernel
def sgX11_gave_64 : List qEl := [(.aload_n 0, 1, 0, 0, 0, 0), (.getfield 47, 3, 11, 6, 0, 0), (.getfield 318, 3, 0, 5, 0, 0), (.ireturn, 1, 0, 0, 0, 0)]
theorem sgX11_gave_64_ok : qsg cX11_gave 11 2 false 64 sgX11_gave_64 = true := by decide +kernel
def sgX11_gave_72 : List qEl := [(.aload_n 0, 1, 0, 0, 0, 0), (.getfield 47, 3, 11, 6, 0, 0), (.getfield 321, 3, 0, 6, 0, 0), (.ireturn, 1, 0, 0, 0, 0)]
theorem sgX11_gave_72_ok : qsg cX11_gave 11 2 false 72 sgX11_gave_72 = true := by decide +kernel
def sgX11_right_0 : List qEl := [(.aload_n 0, 1, 0, 0, 0, 0), (.iload_n 1, 1, 0, 0, 0, 0), (.iconst 0, 1, 0, 0, 0, 0), (.aload_n 0, 1, 0, 0, 0, 0), (.getfield 19, 3, 11, 1, 0, 0), (.invokevirtual 324, 3, 0, 0, 0, 0), (.invokestatic 147, 3, 0, 3, 0, 0), (.invokevirtual 151, 3, 1, 1, 0, 0), (.aload_n 0, 1, 0, 0, 0, 0), (.getfield 47, 3, 11, 6, 0, 0), (.aload_n 0, 1, 0, 0, 0, 0), (.getfield 19, 3, 11, 1, 0, 0), (.iload_n 1, 1, 0, 0, 0, 0), (.invokevirtual 327, 3, 0, 2, 0, 0), (.ireturn, 1, 0, 0, 0, 0)]
theorem sgX11_right_0_ok : qsg cX11_right 11 2 false 0 sgX11_right_0 = true := by decide +kernel
def sgX11_evening_0 : List qEl := [(.aload_n 0, 1, 0, 0, 0, 0), (.iload_n 2, 1, 0, 0, 0, 0), (.iconst 0, 1, 0, 0, 0, 0), (.bipush 6, 2, 0, 0, 6, 0), (.invokestatic 147, 3, 0, 3, 0, 0), (.invokevirtual 151, 3, 1, 1, 0, 0), (.aload_n 0, 1, 0, 0, 0, 0), (.getfield 99, 3, 11, 12, 0, 0), (.iload_n 1, 1, 0, 0, 0, 0), (.invokevirtual 331, 3, 0, 1, 0, 0), (.iload_n 2, 1, 0, 0, 0, 0), (.tableswitch 88 0 5 #[40, 48, 56, 64, 72, 80], 40, 0, 0, 0, 0)]
theorem sgX11_evening_0_ok : qsg cX11_evening 11 3 false 0 sgX11_evening_0 = true := by decide +kernel
def sgX11_evening_60 : List qEl := [(.aload_n 0, 1, 0, 0, 0, 0), (.getfield 99, 3, 11, 12, 0, 0), (.getfield 334, 3, 2, 4, 0, 0), (.ireturn, 1, 0, 0, 0, 0)]
theorem sgX11_evening_60_ok : qsg cX11_evening 11 3 false 60 sgX11_evening_60 = true := by decide +kernel
def sgX11_evening_68 : List qEl := [(.aload_n 0, 1, 0, 0, 0, 0), (.getfield 99, 3, 11, 12, 0, 0), (.getfield 337, 3, 2, 5, 0, 0), (.ireturn, 1, 0, 0, 0, 0)]
theorem sgX11_evening_68_ok : qsg cX11_evening 11 3 false 68 sgX11_evening_68 = true := by decide +kernel
def sgX11_evening_76 : List qEl := [(.aload_n 0, 1, 0, 0, 0, 0), (.getfield 99, 3, 11, 12, 0, 0), (.getfield 340, 3, 2, 6, 0, 0), (.ireturn, 1, 0, 0, 0, 0)]
theorem sgX11_evening_76_ok : qsg cX11_evening 11 3 false 76 sgX11_evening_76 = true := by decide +kernel
def sgX11_evening_84 : List qEl := [(.aload_n 0, 1, 0, 0, 0, 0), (.getfield 99, 3, 11, 12, 0, 0), (.getfield 343, 3, 2, 7, 0, 0), (.ireturn, 1, 0, 0, 0, 0)]
theorem sgX11_evening_84_ok : qsg cX11_evening 11 3 false 84 sgX11_evening_84 = true := by decide +kernel
def sgX11_evening_92 : List qEl := [(.aload_n 0, 1, 0, 0, 0, 0), (.getfield 99, 3, 11, 12, 0, 0), (.getfield 346, 3, 2, 8, 0, 0), (.ireturn, 1, 0, 0, 0, 0)]
theorem sgX11_evening_92_ok : qsg cX11_evening 11 3 false 92 sgX11_evening_92 = true := by decide +kernel
def sgX11_evening_100 : List qEl := [(.aload_n 0, 1, 0, 0, 0, 0), (.getfield 99, 3, 11, 12, 0, 0), (.getfield 349, 3, 2, 9, 0, 0), (.ireturn, 1, 0, 0, 0, 0)]
theorem sgX11_evening_100_ok : qsg cX11_evening 11 3 false 100 sgX11_evening_100 = true := by decide +kernel
def sgX11_evening_108 : List qEl := [(.aload_n 0, 1, 0, 0, 0, 0), (.getfield 99, 3, 11, 12, 0, 0), (.getfield 352, 3, 2, 10, 0, 0), (.ireturn, 1, 0, 0, 0, 0)]
theorem sgX11_evening_108_ok : qsg cX11_evening 11 3 false 108 sgX11_evening_108 = true := by decide +kernel
def sgX11_span_0 : List qEl := [(.aload_n 0, 1, 0, 0, 0, 0), (.iload_n 2, 1, 0, 0, 0, 0), (.iconst 1, 1, 0, 0, 1, 0), (.bipush 40, 2, 0, 0, 40, 0), (.invokestatic 147, 3, 0, 3, 0, 0), (.ifCond .eq 34, 3, 42, 0, 0, 0), (.iload_n 3, 1, 0, 0, 0, 0), (.iconst 0, 1, 0, 0, 0, 0), (.iconst 3, 1, 0, 0, 3, 0), (.invokestatic 147, 3, 0, 3, 0, 0), (.ifCond .eq 25, 3, 42, 0, 0, 0), (.iload 4, 2, 0, 0, 0, 0), (.iconst 0, 1, 0, 0, 0, 0), (.aload_n 0, 1, 0, 0, 0, 0), (.getfield 19, 3, 11, 1, 0, 0), (.getfield 144, 3, 6, 3, 0, 0), (.iconst 1, 1, 0, 0, 1, 0), (.isub, 1, 0, 0, 0, 0), (.invokestatic 147, 3, 0, 3, 0, 0), (.ifCond .eq 7, 3, 42, 0, 0, 0), (.iconst 1, 1, 0, 0, 1, 0), (.goto 4, 3, 43, 0, 0, 0)]
theorem sgX11_span_0_ok : qsg cX11_span 11 10 false 0 sgX11_span_0 = true := by decide +kernel
def sgX11_span_42 : List qEl := [(.iconst 0, 1, 0, 0, 0, 0)]
theorem sgX11_span_42_ok : qsg cX11_span 11 10 false 42 sgX11_span_42 = true := by decide +kernel
def sgX11_span_43 : List qEl := [(.invokevirtual 151, 3, 1, 1, 0, 0), (.iconst 0, 1, 0, 0, 0, 0), (.istore 5, 2, 0, 0, 0, 0), (.iconst 0, 1, 0, 0, 0, 0), (.istore 6, 2, 0, 0, 0, 0), (.iconst 0, 1, 0, 0, 0, 0), (.istore 7, 2, 0, 0, 0, 0), (.iconst 0, 1, 0, 0, 0, 0), (.istore 8, 2, 0, 0, 0, 0), (.iconst 0, 1, 0, 0, 0, 0), (.istore 9, 2, 0, 0, 0, 0)]
theorem sgX11_span_43_ok : qsg cX11_span 11 10 false 43 sgX11_span_43 = true := by decide +kernel
def sgX11_span_61 : List qEl := [(.iload 9, 2, 0, 0, 0, 0), (.iload_n 2, 1, 0, 0, 0, 0), (.if_icmp .ge 111, 3, 175, 0, 0, 0), (.aload_n 0, 1, 0, 0, 0, 0), (.getfield 99, 3, 11, 12, 0, 0), (.iload_n 1, 1, 0, 0, 0, 0), (.iload 9, 2, 0, 0, 0, 0), (.iadd, 1, 0, 0, 0, 0), (.invokevirtual 331, 3, 0, 1, 0, 0), (.iload 9, 2, 0, 0, 0, 0), (.ifCond .eq 15, 3, 95, 0, 0, 0), (.aload_n 0, 1, 0, 0, 0, 0), (.getfield 99, 3, 11, 12, 0, 0), (.getfield 334, 3, 2, 4, 0, 0), (.iload 5, 2, 0, 0, 0, 0), (.if_icmp .ge 13, 3, 105, 0, 0, 0)]
theorem sgX11_span_61_ok : qsg cX11_span 11 10 false 61 sgX11_span_61 = true := by decide +kernel
def sgX11_span_95 : List qEl := [(.aload_n 0, 1, 0, 0, 0, 0), (.getfield 99, 3, 11, 12, 0, 0), (.getfield 334, 3, 2, 4, 0, 0), (.goto 5, 3, 107, 0, 0, 0)]
theorem sgX11_span_95_ok : qsg cX11_span 11 10 false 95 sgX11_span_95 = true := by decide +kernel
def sgX11_span_105 : List qEl := [(.iload 5, 2, 0, 0, 0, 0)]
theorem sgX11_span_105_ok : qsg cX11_span 11 10 false 105 sgX11_span_105 = true := by decide +kernel
def sgX11_span_107 : List qEl := [(.istore 5, 2, 0, 0, 0, 0), (.iload 9, 2, 0, 0, 0, 0), (.ifCond .eq 15, 3, 126, 0, 0, 0), (.aload_n 0, 1, 0, 0, 0, 0), (.getfield 99, 3, 11, 12, 0, 0), (.getfield 334, 3, 2, 4, 0, 0), (.iload 6, 2, 0, 0, 0, 0), (.if_icmp .le 13, 3, 136, 0, 0, 0)]
theorem sgX11_span_107_ok : qsg cX11_span 11 10 false 107 sgX11_span_107 = true := by decide +kernel
def sgX11_span_126 : List qEl := [(.aload_n 0, 1, 0, 0, 0, 0), (.getfield 99, 3, 11, 12, 0, 0), (.getfield 334, 3, 2, 4, 0, 0), (.goto 5, 3, 138, 0, 0, 0)]
theorem sgX11_span_126_ok : qsg cX11_span 11 10 false 126 sgX11_span_126 = true := by decide +kernel
def sgX11_span_136 : List qEl := [(.iload 6, 2, 0, 0, 0, 0)]
theorem sgX11_span_136_ok : qsg cX11_span 11 10 false 136 sgX11_span_136 = true := by decide +kernel
def sgX11_span_138 : List qEl := [(.istore 6, 2, 0, 0, 0, 0), (.iload 7, 2, 0, 0, 0, 0), (.aload_n 0, 1, 0, 0, 0, 0), (.getfield 99, 3, 11, 12, 0, 0), (.getfield 334, 3, 2, 4, 0, 0), (.iadd, 1, 0, 0, 0, 0), (.istore 7, 2, 0, 0, 0, 0), (.iload 8, 2, 0, 0, 0, 0), (.aload_n 0, 1, 0, 0, 0, 0), (.getfield 99, 3, 11, 12, 0, 0), (.getfield 343, 3, 2, 7, 0, 0), (.iload 4, 2, 0, 0, 0, 0), (.ishr, 1, 0, 0, 0, 0), (.iconst 1, 1, 0, 0, 1, 0), (.iand, 1, 0, 0, 0, 0), (.iadd, 1, 0, 0, 0, 0), (.istore 8, 2, 0, 0, 0, 0), (.iinc 9 1, 3, 0, 0, 1, 0), (.goto (-111), 3, 61, 0, 0, 0)]
theorem sgX11_span_138_ok : qsg cX11_span 11 10 false 138 sgX11_span_138 = true := by decide +kernel
def sgX11_span_175 : List qEl := [(.iload_n 3, 1, 0, 0, 0, 0), (.tableswitch 37 0 2 #[28, 31, 34], 28, 0, 0, 0, 0)]
theorem sgX11_span_175_ok : qsg cX11_span 11 10 false 175 sgX11_span_175 = true := by decide +kernel
def sgX11_span_204 : List qEl := [(.iload 5, 2, 0, 0, 0, 0), (.ireturn, 1, 0, 0, 0, 0)]
theorem sgX11_span_204_ok : qsg cX11_span 11 10 false 204 sgX11_span_204 = true := by decide +kernel
def sgX11_span_207 : List qEl := [(.iload 6, 2, 0, 0, 0, 0), (.ireturn, 1, 0, 0, 0, 0)]
theorem sgX11_span_207_ok : qsg cX11_span 11 10 false 207 sgX11_span_207 = true := by decide +kernel
def sgX11_span_210 : List qEl := [(.iload 7, 2, 0, 0, 0, 0), (.ireturn, 1, 0, 0, 0, 0)]
theorem sgX11_span_210_ok : qsg cX11_span 11 10 false 210 sgX11_span_210 = true := by decide +kernel
def sgX11_span_213 : List qEl := [(.iload 8, 2, 0, 0, 0, 0), (.ireturn, 1, 0, 0, 0, 0)]
theorem sgX11_span_213_ok : qsg cX11_span 11 10 false 213 sgX11_span_213 = true := by decide +kernel
def sgX11_finest_0 : List qEl := [(.aload_n 0, 1, 0, 0, 0, 0), (.iload_n 2, 1, 0, 0, 0, 0), (.iconst 1, 1, 0, 0, 1, 0), (.bipush 40, 2, 0, 0, 40, 0), (.invokestatic 147, 3, 0, 3, 0, 0), (.invokevirtual 151, 3, 1, 1, 0, 0), (.iload_n 1, 1, 0, 0, 0, 0), (.istore_n 3, 1, 0, 0, 0, 0), (.iconst (-1), 1, 0, 0, (-1), 0), (.istore 4, 2, 0, 0, 0, 0), (.iconst 0, 1, 0, 0, 0, 0), (.istore 5, 2, 0, 0, 0, 0)]
theorem sgX11_finest_0_ok : qsg cX11_finest 11 6 false 0 sgX11_finest_0 = true := by decide +kernel
def sgX11_finest_19 : List qEl := [(.iload 5, 2, 0, 0, 0, 0), (.iload_n 2, 1, 0, 0, 0, 0), (.if_icmp .ge 46, 3, 68, 0, 0, 0), (.aload_n 0, 1, 0, 0, 0, 0), (.getfield 99, 3, 11, 12, 0, 0), (.iload_n 1, 1, 0, 0, 0, 0), (.iload 5, 2, 0, 0, 0, 0), (.iadd, 1, 0, 0, 0, 0), (.invokevirtual 331, 3, 0, 1, 0, 0), (.aload_n 0, 1, 0, 0, 0, 0), (.getfield 99, 3, 11, 12, 0, 0), (.getfield 337, 3, 2, 5, 0, 0), (.iload 4, 2, 0, 0, 0, 0), (.if_icmp .le 17, 3, 62, 0, 0, 0), (.aload_n 0, 1, 0, 0, 0, 0), (.getfield 99, 3, 11, 12, 0, 0), (.getfield 337, 3, 2, 5, 0, 0), (.istore 4, 2, 0, 0, 0, 0), (.iload_n 1, 1, 0, 0, 0, 0), (.iload 5, 2, 0, 0, 0, 0), (.iadd, 1, 0, 0, 0, 0), (.istore_n 3, 1, 0, 0, 0, 0)]
theorem sgX11_finest_19_ok : qsg cX11_finest 11 6 false 19 sgX11_finest_19 = true := by decide +kernel
def sgX11_finest_62 : List qEl := [(.iinc 5 1, 3, 0, 0, 1, 0), (.goto (-46), 3, 19, 0, 0, 0)]
theorem sgX11_finest_62_ok : qsg cX11_finest 11 6 false 62 sgX11_finest_62 = true := by decide +kernel
def sgX11_finest_68 : List qEl := [(.iload_n 3, 1, 0, 0, 0, 0), (.ireturn, 1, 0, 0, 0, 0)]
theorem sgX11_finest_68_ok : qsg cX11_finest 11 6 false 68 sgX11_finest_68 = true := by decide +kernel
def sgX11_change_0 : List qEl := [(.aload_n 0, 1, 0, 0, 0, 0), (.iload_n 1, 1, 0, 0, 0, 0), (.invokevirtual 196, 3, 1, 1, 0, 0), (.aload_n 0, 1, 0, 0, 0, 0), (.iload_n 2, 1, 0, 0, 0, 0), (.iconst 1, 1, 0, 0, 1, 0), (.bipush 9, 2, 0, 0, 9, 0), (.invokestatic 147, 3, 0, 3, 0, 0), (.invokevirtual 151, 3, 1, 1, 0, 0), (.aload_n 0, 1, 0, 0, 0, 0), (.iload_n 3, 1, 0, 0, 0, 0), (.iconst 0, 1, 0, 0, 0, 0), (.iload_n 2, 1, 0, 0, 0, 0), (.invokestatic 355, 3, 0, 1, 0, 0), (.invokestatic 147, 3, 0, 3, 0, 0), (.invokevirtual 151, 3, 1, 1, 0, 0), (.aload_n 0, 1, 0, 0, 0, 0), (.getfield 19, 3, 11, 1, 0, 0), (.invokevirtual 358, 3, 0, 0, 0, 0), (.ifCond .eq 5, 3, 41, 0, 0, 0), (.iconst (-1), 1, 0, 0, (-1), 0), (.ireturn, 1, 0, 0, 0, 0)]
theorem sgX11_change_0_ok : qsg cX11_change 11 5 false 0 sgX11_change_0 = true := by decide +kernel
def sgX11_change_41 : List qEl := [(.aload_n 0, 1, 0, 0, 0, 0), (.getfield 19, 3, 11, 1, 0, 0), (.iload_n 1, 1, 0, 0, 0, 0), (.iload_n 2, 1, 0, 0, 0, 0), (.invokevirtual 199, 3, 0, 2, 0, 0), (.istore 4, 2, 0, 0, 0, 0), (.aload_n 0, 1, 0, 0, 0, 0), (.getfield 19, 3, 11, 1, 0, 0), (.iconst 0, 1, 0, 0, 0, 0), (.iload_n 1, 1, 0, 0, 0, 0), (.iload_n 2, 1, 0, 0, 0, 0), (.iload 4, 2, 0, 0, 0, 0), (.iconst 0, 1, 0, 0, 0, 0), (.invokevirtual 361, 3, 0, 5, 0, 0), (.aload_n 0, 1, 0, 0, 0, 0), (.getfield 19, 3, 11, 1, 0, 0), (.iload_n 1, 1, 0, 0, 0, 0), (.iload_n 2, 1, 0, 0, 0, 0), (.iload_n 3, 1, 0, 0, 0, 0), (.invokevirtual 365, 3, 0, 3, 0, 0), (.iload 4, 2, 0, 0, 0, 0), (.ireturn, 1, 0, 0, 0, 0)]
theorem sgX11_change_41_ok : qsg cX11_change 11 5 false 41 sgX11_change_41 = true := by decide +kernel
def sgX11_sing_0 : List qEl := [(.aload_n 0, 1, 0, 0, 0, 0), (.iload_n 1, 1, 0, 0, 0, 0), (.invokevirtual 207, 3, 1, 1, 0, 0), (.aload_n 0, 1, 0, 0, 0, 0), (.iload_n 2, 1, 0, 0, 0, 0), (.iconst 0, 1, 0, 0, 0, 0), (.iconst 5, 1, 0, 0, 5, 0), (.invokestatic 147, 3, 0, 3, 0, 0), (.ifCond .eq 16, 3, 28, 0, 0, 0), (.iload_n 3, 1, 0, 0, 0, 0), (.iconst 0, 1, 0, 0, 0, 0), (.iconst 2, 1, 0, 0, 2, 0), (.invokestatic 147, 3, 0, 3, 0, 0), (.ifCond .eq 7, 3, 28, 0, 0, 0), (.iconst 1, 1, 0, 0, 1, 0), (.goto 4, 3, 29, 0, 0, 0)]
theorem sgX11_sing_0_ok : qsg cX11_sing 11 4 false 0 sgX11_sing_0 = true := by decide +kernel
def sgX11_sing_28 : List qEl := [(.iconst 0, 1, 0, 0, 0, 0)]
theorem sgX11_sing_28_ok : qsg cX11_sing 11 4 false 28 sgX11_sing_28 = true := by decide +kernel
def sgX11_sing_29 : List qEl := [(.invokevirtual 151, 3, 1, 1, 0, 0), (.aload_n 0, 1, 0, 0, 0, 0), (.getfield 19, 3, 11, 1, 0, 0), (.invokevirtual 358, 3, 0, 0, 0, 0), (.ifCond .eq 5, 3, 44, 0, 0, 0), (.iconst (-1), 1, 0, 0, (-1), 0), (.ireturn, 1, 0, 0, 0, 0)]
theorem sgX11_sing_29_ok : qsg cX11_sing 11 4 false 29 sgX11_sing_29 = true := by decide +kernel
def sgX11_sing_44 : List qEl := [(.aload_n 0, 1, 0, 0, 0, 0), (.getfield 19, 3, 11, 1, 0, 0), (.iconst 1, 1, 0, 0, 1, 0), (.iload_n 1, 1, 0, 0, 0, 0), (.aload_n 0, 1, 0, 0, 0, 0), (.getfield 19, 3, 11, 1, 0, 0), (.iload_n 1, 1, 0, 0, 0, 0), (.iconst 1, 1, 0, 0, 1, 0), (.invokevirtual 214, 3, 0, 2, 0, 0), (.aload_n 0, 1, 0, 0, 0, 0), (.getfield 19, 3, 11, 1, 0, 0), (.iload_n 1, 1, 0, 0, 0, 0), (.iconst 2, 1, 0, 0, 2, 0), (.invokevirtual 214, 3, 0, 2, 0, 0), (.iconst 0, 1, 0, 0, 0, 0), (.invokevirtual 361, 3, 0, 5, 0, 0), (.aload_n 0, 1, 0, 0, 0, 0), (.getfield 19, 3, 11, 1, 0, 0), (.iload_n 1, 1, 0, 0, 0, 0), (.aload_n 0, 1, 0, 0, 0, 0), (.getfield 19, 3, 11, 1, 0, 0), (.iload_n 1, 1, 0, 0, 0, 0), (.iconst 0, 1, 0, 0, 0, 0), (.invokevirtual 214, 3, 0, 2, 0, 0), (.iload_n 2, 1, 0, 0, 0, 0), (.iload_n 3, 1, 0, 0, 0, 0), (.invokevirtual 369, 3, 0, 4, 0, 0), (.iconst 1, 1, 0, 0, 1, 0), (.ireturn, 1, 0, 0, 0, 0)]
theorem sgX11_sing_44_ok : qsg cX11_sing 11 4 false 44 sgX11_sing_44 = true := by decide +kernel
def sgX11_swap_0 : List qEl := [(.aload_n 0, 1, 0, 0, 0, 0), (.iload_n 1, 1, 0, 0, 0, 0), (.invokevirtual 207, 3, 1, 1, 0, 0), (.aload_n 0, 1, 0, 0, 0, 0), (.iload_n 2, 1, 0, 0, 0, 0), (.invokevirtual 207, 3, 1, 1, 0, 0), (.iload_n 1, 1, 0, 0, 0, 0), (.iload_n 2, 1, 0, 0, 0, 0), (.if_icmp .ne 5, 3, 17, 0, 0, 0), (.iconst 0, 1, 0, 0, 0, 0), (.ireturn, 1, 0, 0, 0, 0)]
theorem sgX11_swap_0_ok : qsg cX11_swap 11 3 false 0 sgX11_swap_0 = true := by decide +kernel
def sgX11_swap_17 : List qEl := [(.aload_n 0, 1, 0, 0, 0, 0), (.getfield 19, 3, 11, 1, 0, 0), (.invokevirtual 358, 3, 0, 0, 0, 0), (.ifCond .eq 5, 3, 29, 0, 0, 0), (.iconst (-1), 1, 0, 0, (-1), 0), (.ireturn, 1, 0, 0, 0, 0)]
theorem sgX11_swap_17_ok : qsg cX11_swap 11 3 false 17 sgX11_swap_17 = true := by decide +kernel
def sgX11_swap_29 : List qEl := [(.aload_n 0, 1, 0, 0, 0, 0), (.getfield 19, 3, 11, 1, 0, 0), (.iconst 2, 1, 0, 0, 2, 0), (.iload_n 1, 1, 0, 0, 0, 0), (.iload_n 2, 1, 0, 0, 0, 0), (.iconst 0, 1, 0, 0, 0, 0), (.iconst 0, 1, 0, 0, 0, 0), (.invokevirtual 361, 3, 0, 5, 0, 0), (.aload_n 0, 1, 0, 0, 0, 0), (.getfield 19, 3, 11, 1, 0, 0), (.iload_n 1, 1, 0, 0, 0, 0), (.iload_n 2, 1, 0, 0, 0, 0), (.invokevirtual 372, 3, 0, 2, 0, 0), (.iconst 1, 1, 0, 0, 1, 0), (.ireturn, 1, 0, 0, 0, 0)]
theorem sgX11_swap_29_ok : qsg cX11_swap 11 3 false 29 sgX11_swap_29 = true := by decide +kernel
def sgX11_skip_0 : List qEl := [(.aload_n 0, 1, 0, 0, 0, 0), (.iload_n 1, 1, 0, 0, 0, 0), (.invokevirtual 207, 3, 1, 1, 0, 0), (.aload_n 0, 1, 0, 0, 0, 0), (.getfield 19, 3, 11, 1, 0, 0), (.invokevirtual 358, 3, 0, 0, 0, 0), (.ifCond .eq 5, 3, 17, 0, 0, 0), (.iconst (-1), 1, 0, 0, (-1), 0), (.ireturn, 1, 0, 0, 0, 0)]
theorem sgX11_skip_0_ok : qsg cX11_skip 11 2 false 0 sgX11_skip_0 = true := by decide +kernel
def sgX11_skip_17 : List qEl := [(.aload_n 0, 1, 0, 0, 0, 0), (.getfield 19, 3, 11, 1, 0, 0), (.iconst 3, 1, 0, 0, 3, 0), (.iload_n 1, 1, 0, 0, 0, 0), (.aload_n 0, 1, 0, 0, 0, 0), (.getfield 19, 3, 11, 1, 0, 0), (.iload_n 1, 1, 0, 0, 0, 0), (.iconst 0, 1, 0, 0, 0, 0), (.invokevirtual 214, 3, 0, 2, 0, 0), (.aload_n 0, 1, 0, 0, 0, 0), (.getfield 19, 3, 11, 1, 0, 0), (.iload_n 1, 1, 0, 0, 0, 0), (.iconst 1, 1, 0, 0, 1, 0), (.invokevirtual 214, 3, 0, 2, 0, 0), (.aload_n 0, 1, 0, 0, 0, 0), (.getfield 19, 3, 11, 1, 0, 0), (.iload_n 1, 1, 0, 0, 0, 0), (.iconst 2, 1, 0, 0, 2, 0), (.invokevirtual 214, 3, 0, 2, 0, 0), (.invokevirtual 361, 3, 0, 5, 0, 0), (.aload_n 0, 1, 0, 0, 0, 0), (.getfield 19, 3, 11, 1, 0, 0), (.iload_n 1, 1, 0, 0, 0, 0), (.invokevirtual 375, 3, 0, 1, 0, 0), (.aload_n 0, 1, 0, 0, 0, 0), (.getfield 19, 3, 11, 1, 0, 0), (.getfield 167, 3, 6, 4, 0, 0), (.ireturn, 1, 0, 0, 0, 0)]
theorem sgX11_skip_17_ok : qsg cX11_skip 11 2 false 17 sgX11_skip_17 = true := by decide +kernel
def sgX11_until_0 : List qEl := [(.aload_n 0, 1, 0, 0, 0, 0), (.iload_n 1, 1, 0, 0, 0, 0), (.iconst 0, 1, 0, 0, 0, 0), (.sipush 480, 3, 0, 0, 480, 0), (.invokestatic 147, 3, 0, 3, 0, 0), (.invokevirtual 151, 3, 1, 1, 0, 0), (.aload_n 0, 1, 0, 0, 0, 0), (.getfield 19, 3, 11, 1, 0, 0), (.invokevirtual 358, 3, 0, 0, 0, 0), (.ifCond .eq 5, 3, 24, 0, 0, 0), (.iconst (-1), 1, 0, 0, (-1), 0), (.ireturn, 1, 0, 0, 0, 0)]
theorem sgX11_until_0_ok : qsg cX11_until 11 3 false 0 sgX11_until_0 = true := by decide +kernel
def sgX11_until_24 : List qEl := [(.aload_n 0, 1, 0, 0, 0, 0), (.getfield 19, 3, 11, 1, 0, 0), (.getfield 193, 3, 6, 8, 0, 0), (.istore_n 2, 1, 0, 0, 0, 0), (.aload_n 0, 1, 0, 0, 0, 0), (.getfield 19, 3, 11, 1, 0, 0), (.iconst 4, 1, 0, 0, 4, 0), (.iload_n 2, 1, 0, 0, 0, 0), (.iconst 0, 1, 0, 0, 0, 0), (.iconst 0, 1, 0, 0, 0, 0), (.iconst 0, 1, 0, 0, 0, 0), (.invokevirtual 361, 3, 0, 5, 0, 0), (.aload_n 0, 1, 0, 0, 0, 0), (.getfield 19, 3, 11, 1, 0, 0), (.iload_n 1, 1, 0, 0, 0, 0), (.putfield 193, 3, 6, 8, 0, 0), (.iload_n 2, 1, 0, 0, 0, 0), (.ireturn, 1, 0, 0, 0, 0)]
theorem sgX11_until_24_ok : qsg cX11_until 11 3 false 24 sgX11_until_24 = true := by decide +kernel
def sgX11_undo_0 : List qEl := [(.aload_n 0, 1, 0, 0, 0, 0), (.getfield 19, 3, 11, 1, 0, 0), (.getfield 378, 3, 6, 5, 0, 0), (.iconst 1, 1, 0, 0, 1, 0), (.if_icmp .ge 5, 3, 13, 0, 0, 0), (.iconst (-1), 1, 0, 0, (-1), 0), (.ireturn, 1, 0, 0, 0, 0)]
theorem sgX11_undo_0_ok : qsg cX11_undo 11 1 false 0 sgX11_undo_0 = true := by decide +kernel
def sgX11_undo_13 : List qEl := [(.aload_n 0, 1, 0, 0, 0, 0), (.getfield 19, 3, 11, 1, 0, 0), (.invokevirtual 381, 3, 0, 0, 0, 0), (.aload_n 0, 1, 0, 0, 0, 0), (.getfield 19, 3, 11, 1, 0, 0), (.getfield 378, 3, 6, 5, 0, 0), (.ireturn, 1, 0, 0, 0, 0)]
theorem sgX11_undo_13_ok : qsg cX11_undo 11 1 false 13 sgX11_undo_13 = true := by decide +kernel
def sgX11_image_0 : List qEl := [(.aload_n 0, 1, 0, 0, 0, 0), (.aload_n 0, 1, 0, 0, 0, 0), (.getfield 141, 3, 11, 13, 0, 0), (.invokevirtual 384, 3, 0, 1, 0, 0), (.astore_n 1, 1, 0, 0, 0, 0), (.aload_n 1, 1, 0, 0, 0, 0), (.ifnonnull 5, 3, 15, 0, 0, 0), (.iconst (-1), 1, 0, 0, (-1), 0), (.ireturn, 1, 0, 0, 0, 0)]
theorem sgX11_image_0_ok : qsg cX11_image 11 2 false 0 sgX11_image_0 = true := by decide +kernel
def sgX11_image_15 : List qEl := [(.aload_n 1, 1, 0, 0, 0, 0), (.aload_n 0, 1, 0, 0, 0, 0), (.getfield 19, 3, 11, 1, 0, 0), (.invokevirtual 129, 3, 0, 1, 0, 0), (.aload_n 0, 1, 0, 0, 0, 0), (.dup, 1, 0, 0, 0, 0), (.getfield 141, 3, 11, 13, 0, 0), (.iconst 1, 1, 0, 0, 1, 0), (.iadd, 1, 0, 0, 0, 0), (.putfield 141, 3, 11, 13, 0, 0), (.aload_n 0, 1, 0, 0, 0, 0), (.getfield 141, 3, 11, 13, 0, 0), (.ireturn, 1, 0, 0, 0, 0)]
theorem sgX11_image_15_ok : qsg cX11_image 11 2 false 15 sgX11_image_15 = true := by decide +kernel
def sgX11_restore_0 : List qEl := [(.aload_n 0, 1, 0, 0, 0, 0), (.aload_n 0, 1, 0, 0, 0, 0), (.getfield 141, 3, 11, 13, 0, 0), (.iconst 1, 1, 0, 0, 1, 0), (.isub, 1, 0, 0, 0, 0), (.invokevirtual 384, 3, 0, 1, 0, 0), (.astore_n 1, 1, 0, 0, 0, 0), (.aload_n 1, 1, 0, 0, 0, 0), (.ifnonnull 5, 3, 17, 0, 0, 0), (.iconst (-1), 1, 0, 0, (-1), 0), (.ireturn, 1, 0, 0, 0, 0)]
theorem sgX11_restore_0_ok : qsg cX11_restore 11 2 false 0 sgX11_restore_0 = true := by decide +kernel
def sgX11_restore_17 : List qEl := [(.aload_n 0, 1, 0, 0, 0, 0), (.dup, 1, 0, 0, 0, 0), (.getfield 141, 3, 11, 13, 0, 0), (.iconst 1, 1, 0, 0, 1, 0), (.isub, 1, 0, 0, 0, 0), (.putfield 141, 3, 11, 13, 0, 0), (.aload_n 0, 1, 0, 0, 0, 0), (.getfield 19, 3, 11, 1, 0, 0), (.aload_n 1, 1, 0, 0, 0, 0), (.invokevirtual 129, 3, 0, 1, 0, 0), (.aload_n 0, 1, 0, 0, 0, 0), (.getfield 141, 3, 11, 13, 0, 0), (.ireturn, 1, 0, 0, 0, 0)]
theorem sgX11_restore_17_ok : qsg cX11_restore 11 2 false 17 sgX11_restore_17 = true := by decide +kernel
def sgX11_status_0 : List qEl := [(.iload_n 1, 1, 0, 0, 0, 0), (.tableswitch 42 0 2 #[27, 32, 37], 27, 0, 0, 0, 0)]
theorem sgX11_status_0_ok : qsg cX11_status 11 2 false 0 sgX11_status_0 = true := by decide +kernel
def sgX11_status_28 : List qEl := [(.aload_n 0, 1, 0, 0, 0, 0), (.getfield 388, 3, 11, 14, 0, 0), (.ireturn, 1, 0, 0, 0, 0)]
theorem sgX11_status_28_ok : qsg cX11_status 11 2 false 28 sgX11_status_28 = true := by decide +kernel
def sgX11_status_33 : List qEl := [(.aload_n 0, 1, 0, 0, 0, 0), (.getfield 391, 3, 11, 15, 0, 0), (.ireturn, 1, 0, 0, 0, 0)]
theorem sgX11_status_33_ok : qsg cX11_status 11 2 false 33 sgX11_status_33 = true := by decide +kernel
def sgX11_status_38 : List qEl := [(.aload_n 0, 1, 0, 0, 0, 0), (.getfield 394, 3, 11, 16, 0, 0), (.ireturn, 1, 0, 0, 0, 0)]
theorem sgX11_status_38_ok : qsg cX11_status 11 2 false 38 sgX11_status_38 = true := by decide +kernel
def sgX11_status_43 : List qEl := [(.iconst (-1), 1, 0, 0, (-1), 0), (.ireturn, 1, 0, 0, 0, 0)]
theorem sgX11_status_43_ok : qsg cX11_status 11 2 false 43 sgX11_status_43 = true := by decide +kernel
def sgX11_count_0 : List qEl := [(.iload_n 1, 1, 0, 0, 0, 0), (.tableswitch 48 0 2 #[27, 32, 40], 27, 0, 0, 0, 0)]
theorem sgX11_count_0_ok : qsg cX11_count 11 2 false 0 sgX11_count_0 = true := by decide +kernel
def sgX11_count_28 : List qEl := [(.aload_n 0, 1, 0, 0, 0, 0), (.getfield 141, 3, 11, 13, 0, 0), (.ireturn, 1, 0, 0, 0, 0)]
theorem sgX11_count_28_ok : qsg cX11_count 11 2 false 28 sgX11_count_28 = true := by decide +kernel
def sgX11_count_33 : List qEl := [(.aload_n 0, 1, 0, 0, 0, 0), (.getfield 10, 3, 11, 0, 0, 0), (.getfield 111, 3, 8, 1, 0, 0), (.ireturn, 1, 0, 0, 0, 0)]
theorem sgX11_count_33_ok : qsg cX11_count 11 2 false 33 sgX11_count_33 = true := by decide +kernel
def sgX11_count_41 : List qEl := [(.aload_n 0, 1, 0, 0, 0, 0), (.getfield 19, 3, 11, 1, 0, 0), (.getfield 378, 3, 6, 5, 0, 0), (.ireturn, 1, 0, 0, 0, 0)]
theorem sgX11_count_41_ok : qsg cX11_count 11 2 false 41 sgX11_count_41 = true := by decide +kernel
def sgX11_count_49 : List qEl := [(.iconst (-1), 1, 0, 0, (-1), 0), (.ireturn, 1, 0, 0, 0, 0)]
theorem sgX11_count_49_ok : qsg cX11_count 11 2 false 49 sgX11_count_49 = true := by decide +kernel
def sgX11_imageAt_0 : List qEl := [(.iload_n 1, 1, 0, 0, 0, 0), (.ifCond .lt 21, 3, 22, 0, 0, 0), (.iload_n 1, 1, 0, 0, 0, 0), (.aload_n 0, 1, 0, 0, 0, 0), (.getfield 23, 3, 11, 2, 0, 0), (.arraylength, 1, 0, 0, 0, 0), (.if_icmp .ge 12, 3, 22, 0, 0, 0), (.aload_n 0, 1, 0, 0, 0, 0), (.getfield 23, 3, 11, 2, 0, 0), (.iload_n 1, 1, 0, 0, 0, 0), (.aaload, 1, 0, 0, 0, 0), (.goto 4, 3, 23, 0, 0, 0)]
theorem sgX11_imageAt_0_ok : qsg cX11_imageAt 11 2 false 0 sgX11_imageAt_0 = true := by decide +kernel
def sgX11_imageAt_22 : List qEl := [(.aconst_null, 1, 0, 0, 0, 0)]
theorem sgX11_imageAt_22_ok : qsg cX11_imageAt 11 2 false 22 sgX11_imageAt_22 = true := by decide +kernel
def sgX11_imageAt_23 : List qEl := [(.areturn, 1, 0, 0, 0, 0)]
theorem sgX11_imageAt_23_ok : qsg cX11_imageAt 11 2 false 23 sgX11_imageAt_23 = true := by decide +kernel
def sgX11_needFound_0 : List qEl := [(.iload_n 1, 1, 0, 0, 0, 0), (.ifCond .ne 24, 3, 25, 0, 0, 0), (.aload_n 0, 1, 0, 0, 0, 0), (.dup, 1, 0, 0, 0, 0), (.getfield 388, 3, 11, 14, 0, 0), (.iconst 1, 1, 0, 0, 1, 0), (.iadd, 1, 0, 0, 0, 0), (.putfield 388, 3, 11, 14, 0, 0)]
theorem sgX11_needFound_0_ok : qsg cX11_needFound 11 2 false 0 sgX11_needFound_0 = true := by decide +kernel
def sgX11_needFound_17 : List qEl := [(.dup, 1, 0, 0, 0, 0)]
theorem sgX11_needFound_17_ok : qsg cX11_needFound 11 2 false 17 sgX11_needFound_17 = true := by decide +kernel
def sgX11_needFound_25 : List qEl := [(.return_, 1, 0, 0, 0, 0)]
theorem sgX11_needFound_25_ok : qsg cX11_needFound 11 2 false 25 sgX11_needFound_25 = true := by decide +kernel
def sgX11_needDoor_0 : List qEl := [(.aload_n 0, 1, 0, 0, 0, 0), (.iload_n 1, 1, 0, 0, 0, 0), (.iconst 0, 1, 0, 0, 0, 0), (.aload_n 0, 1, 0, 0, 0, 0), (.getfield 19, 3, 11, 1, 0, 0), (.getfield 144, 3, 6, 3, 0, 0), (.iconst 1, 1, 0, 0, 1, 0), (.isub, 1, 0, 0, 0, 0), (.invokestatic 147, 3, 0, 3, 0, 0), (.invokevirtual 203, 3, 1, 1, 0, 0), (.return_, 1, 0, 0, 0, 0)]
theorem sgX11_needDoor_0_ok : qsg cX11_needDoor 11 2 false 0 sgX11_needDoor_0 = true := by decide +kernel
def sgX11_needLine_0 : List qEl := [(.aload_n 0, 1, 0, 0, 0, 0), (.iload_n 1, 1, 0, 0, 0, 0), (.iconst 0, 1, 0, 0, 0, 0), (.aload_n 0, 1, 0, 0, 0, 0), (.getfield 19, 3, 11, 1, 0, 0), (.getfield 167, 3, 6, 4, 0, 0), (.iconst 1, 1, 0, 0, 1, 0), (.isub, 1, 0, 0, 0, 0), (.invokestatic 147, 3, 0, 3, 0, 0), (.invokevirtual 203, 3, 1, 1, 0, 0), (.return_, 1, 0, 0, 0, 0)]
theorem sgX11_needLine_0_ok : qsg cX11_needLine 11 2 false 0 sgX11_needLine_0 = true := by decide +kernel
def sgX11_need_0 : List qEl := [(.iload_n 1, 1, 0, 0, 0, 0), (.ifCond .ne 24, 3, 25, 0, 0, 0), (.aload_n 0, 1, 0, 0, 0, 0), (.dup, 1, 0, 0, 0, 0), (.getfield 391, 3, 11, 15, 0, 0), (.iconst 1, 1, 0, 0, 1, 0), (.iadd, 1, 0, 0, 0, 0), (.putfield 391, 3, 11, 15, 0, 0)]
theorem sgX11_need_0_ok : qsg cX11_need 11 2 false 0 sgX11_need_0 = true := by decide +kernel
def sgX11_need_17 : List qEl := [(.dup, 1, 0, 0, 0, 0)]
theorem sgX11_need_17_ok : qsg cX11_need 11 2 false 17 sgX11_need_17 = true := by decide +kernel
def sgX11_need_25 : List qEl := [(.return_, 1, 0, 0, 0, 0)]
theorem sgX11_need_25_ok : qsg cX11_need 11 2 false 25 sgX11_need_25 = true := by decide +kernel
def sgX11_needText_0 : List qEl := [(.aload_n 0, 1, 0, 0, 0, 0), (.iload_n 1, 1, 0, 0, 0, 0), (.iconst 0, 1, 0, 0, 0, 0), (.iload_n 2, 1, 0, 0, 0, 0), (.invokestatic 147, 3, 0, 3, 0, 0), (.ifCond .eq 18, 3, 25, 0, 0, 0), (.iload_n 1, 1, 0, 0, 0, 0), (.aload_n 0, 1, 0, 0, 0, 0), (.getfield 10, 3, 11, 0, 0, 0), (.getfield 111, 3, 8, 1, 0, 0), (.if_icmp .gt 7, 3, 25, 0, 0, 0), (.iconst 1, 1, 0, 0, 1, 0), (.goto 4, 3, 26, 0, 0, 0)]
theorem sgX11_needText_0_ok : qsg cX11_needText 11 3 false 0 sgX11_needText_0 = true := by decide +kernel
def sgX11_needText_25 : List qEl := [(.iconst 0, 1, 0, 0, 0, 0)]
theorem sgX11_needText_25_ok : qsg cX11_needText 11 3 false 25 sgX11_needText_25 = true := by decide +kernel
def sgX11_needText_26 : List qEl := [(.invokevirtual 151, 3, 1, 1, 0, 0), (.return_, 1, 0, 0, 0, 0)]
theorem sgX11_needText_26_ok : qsg cX11_needText 11 3 false 26 sgX11_needText_26 = true := by decide +kernel
def sgX11_needFewDoors_0 : List qEl := [(.aload_n 0, 1, 0, 0, 0, 0), (.getfield 19, 3, 11, 1, 0, 0), (.getfield 144, 3, 6, 3, 0, 0), (.iconst 5, 1, 0, 0, 5, 0), (.if_icmp .le 24, 3, 32, 0, 0, 0), (.aload_n 0, 1, 0, 0, 0, 0), (.dup, 1, 0, 0, 0, 0), (.getfield 394, 3, 11, 16, 0, 0), (.iconst 1, 1, 0, 0, 1, 0), (.iadd, 1, 0, 0, 0, 0), (.putfield 394, 3, 11, 16, 0, 0)]
theorem sgX11_needFewDoors_0_ok : qsg cX11_needFewDoors 11 1 false 0 sgX11_needFewDoors_0 = true := by decide +kernel
def sgX11_needFewDoors_24 : List qEl := [(.dup, 1, 0, 0, 0, 0)]
theorem sgX11_needFewDoors_24_ok : qsg cX11_needFewDoors 11 1 false 24 sgX11_needFewDoors_24 = true := by decide +kernel
def sgX11_needFewDoors_32 : List qEl := [(.return_, 1, 0, 0, 0, 0)]
theorem sgX11_needFewDoors_32_ok : qsg cX11_needFewDoors 11 1 false 32 sgX11_needFewDoors_32 = true := by decide +kernel
def sgX11_within_0 : List qEl := [(.iload_n 0, 1, 0, 0, 0, 0), (.iload_n 1, 1, 0, 0, 0, 0), (.if_icmp .lt 12, 3, 14, 0, 0, 0), (.iload_n 0, 1, 0, 0, 0, 0), (.iload_n 2, 1, 0, 0, 0, 0), (.if_icmp .gt 7, 3, 14, 0, 0, 0), (.iconst 1, 1, 0, 0, 1, 0), (.goto 4, 3, 15, 0, 0, 0)]
theorem sgX11_within_0_ok : qsg cX11_within 11 3 false 0 sgX11_within_0 = true := by decide +kernel
def sgX11_within_14 : List qEl := [(.iconst 0, 1, 0, 0, 0, 0)]
theorem sgX11_within_14_ok : qsg cX11_within 11 3 false 14 sgX11_within_14 = true := by decide +kernel
def sgX11_within_15 : List qEl := [(.ireturn, 1, 0, 0, 0, 0)]
theorem sgX11_within_15_ok : qsg cX11_within 11 3 false 15 sgX11_within_15 = true := by decide +kernel
def sgX11_mostOf_0 : List qEl := [(.iload_n 0, 1, 0, 0, 0, 0), (.ifCond .lt 19, 3, 20, 0, 0, 0), (.iload_n 0, 1, 0, 0, 0, 0), (.getstatic 414, 3, 0, 0, 0, 0), (.arraylength, 1, 0, 0, 0, 0), (.if_icmp .ge 11, 3, 20, 0, 0, 0), (.getstatic 414, 3, 0, 0, 0, 0), (.iload_n 0, 1, 0, 0, 0, 0), (.iaload, 1, 0, 0, 0, 0), (.goto 4, 3, 21, 0, 0, 0)]
theorem sgX11_mostOf_0_ok : qsg cX11_mostOf 11 1 false 0 sgX11_mostOf_0 = true := by decide +kernel
def sgX11_mostOf_20 : List qEl := [(.iconst 0, 1, 0, 0, 0, 0)]
theorem sgX11_mostOf_20_ok : qsg cX11_mostOf 11 1 false 20 sgX11_mostOf_20 = true := by decide +kernel
def sgX11_mostOf_21 : List qEl := [(.ireturn, 1, 0, 0, 0, 0)]
theorem sgX11_mostOf_21_ok : qsg cX11_mostOf 11 1 false 21 sgX11_mostOf_21 = true := by decide +kernel
def sgX11_apart_0 : List qEl := [(.iload_n 0, 1, 0, 0, 0, 0), (.iload_n 1, 1, 0, 0, 0, 0), (.if_icmp .le 9, 3, 11, 0, 0, 0), (.iload_n 0, 1, 0, 0, 0, 0), (.iload_n 1, 1, 0, 0, 0, 0), (.isub, 1, 0, 0, 0, 0), (.goto 6, 3, 14, 0, 0, 0)]
theorem sgX11_apart_0_ok : qsg cX11_apart 11 2 false 0 sgX11_apart_0 = true := by decide +kernel
def sgX11_apart_11 : List qEl := [(.iload_n 1, 1, 0, 0, 0, 0), (.iload_n 0, 1, 0, 0, 0, 0), (.isub, 1, 0, 0, 0, 0)]
theorem sgX11_apart_11_ok : qsg cX11_apart 11 2 false 11 sgX11_apart_11 = true := by decide +kernel
def sgX11_apart_14 : List qEl := [(.ireturn, 1, 0, 0, 0, 0)]
theorem sgX11_apart_14_ok : qsg cX11_apart 11 2 false 14 sgX11_apart_14 = true := by decide +kernel
def sgX11_leastTerms_0 : List qEl := [(.lload_n 0, 1, 0, 0, 0, 0), (.lconst 0, 1, 0, 0, 0, 0), (.lcmp, 1, 0, 0, 0, 0), (.ifCond .eq 9, 3, 12, 0, 0, 0), (.lload_n 2, 1, 0, 0, 0, 0), (.lconst 0, 1, 0, 0, 0, 0), (.lcmp, 1, 0, 0, 0, 0), (.ifCond .ne 7, 3, 16, 0, 0, 0)]
theorem sgX11_leastTerms_0_ok : qsg cX11_leastTerms 11 7 false 0 sgX11_leastTerms_0 = true := by decide +kernel
def sgX11_leastTerms_12 : List qEl := [(.iload 4, 2, 0, 0, 0, 0), (.i2l, 1, 0, 0, 0, 0), (.lreturn, 1, 0, 0, 0, 0)]
theorem sgX11_leastTerms_12_ok : qsg cX11_leastTerms 11 7 false 12 sgX11_leastTerms_12 = true := by decide +kernel
def sgX11_leastTerms_16 : List qEl := [(.lload_n 0, 1, 0, 0, 0, 0), (.lload_n 2, 1, 0, 0, 0, 0), (.invokestatic 418, 3, 0, 2, 0, 0), (.lstore 5, 2, 0, 0, 0, 0), (.lload 5, 2, 0, 0, 0, 0), (.lconst 0, 1, 0, 0, 0, 0), (.lcmp, 1, 0, 0, 0, 0), (.ifCond .ne 7, 3, 34, 0, 0, 0), (.iload 4, 2, 0, 0, 0, 0), (.i2l, 1, 0, 0, 0, 0), (.lreturn, 1, 0, 0, 0, 0)]
theorem sgX11_leastTerms_16_ok : qsg cX11_leastTerms 11 7 false 16 sgX11_leastTerms_16 = true := by decide +kernel
def sgX11_leastTerms_34 : List qEl := [(.iload 4, 2, 0, 0, 0, 0), (.ifCond .ne 10, 3, 46, 0, 0, 0), (.lload_n 0, 1, 0, 0, 0, 0), (.lload 5, 2, 0, 0, 0, 0), (.ldiv, 1, 0, 0, 0, 0), (.goto 7, 3, 50, 0, 0, 0)]
theorem sgX11_leastTerms_34_ok : qsg cX11_leastTerms 11 7 false 34 sgX11_leastTerms_34 = true := by decide +kernel
def sgX11_leastTerms_46 : List qEl := [(.lload_n 2, 1, 0, 0, 0, 0), (.lload 5, 2, 0, 0, 0, 0), (.ldiv, 1, 0, 0, 0, 0)]
theorem sgX11_leastTerms_46_ok : qsg cX11_leastTerms 11 7 false 46 sgX11_leastTerms_46 = true := by decide +kernel
def sgX11_leastTerms_50 : List qEl := [(.lreturn, 1, 0, 0, 0, 0)]
theorem sgX11_leastTerms_50_ok : qsg cX11_leastTerms 11 7 false 50 sgX11_leastTerms_50 = true := by decide +kernel
def sgX11_commonDivisor_0 : List qEl := [(.iconst 0, 1, 0, 0, 0, 0), (.istore 4, 2, 0, 0, 0, 0)]
theorem sgX11_commonDivisor_0_ok : qsg cX11_commonDivisor 11 7 false 0 sgX11_commonDivisor_0 = true := by decide +kernel
def sgX11_commonDivisor_3 : List qEl := [(.iload 4, 2, 0, 0, 0, 0), (.bipush 100, 2, 0, 0, 100, 0), (.if_icmp .ge 25, 3, 32, 0, 0, 0), (.lload_n 2, 1, 0, 0, 0, 0), (.lconst 0, 1, 0, 0, 0, 0), (.lcmp, 1, 0, 0, 0, 0), (.ifCond .eq 19, 3, 32, 0, 0, 0), (.lload_n 0, 1, 0, 0, 0, 0), (.lload_n 2, 1, 0, 0, 0, 0), (.lrem, 1, 0, 0, 0, 0), (.lstore 5, 2, 0, 0, 0, 0), (.lload_n 2, 1, 0, 0, 0, 0), (.lstore_n 0, 1, 0, 0, 0, 0), (.lload 5, 2, 0, 0, 0, 0), (.lstore_n 2, 1, 0, 0, 0, 0), (.iinc 4 1, 3, 0, 0, 1, 0), (.goto (-26), 3, 3, 0, 0, 0)]
theorem sgX11_commonDivisor_3_ok : qsg cX11_commonDivisor 11 7 false 3 sgX11_commonDivisor_3 = true := by decide +kernel
def sgX11_commonDivisor_32 : List qEl := [(.lload_n 0, 1, 0, 0, 0, 0), (.lreturn, 1, 0, 0, 0, 0)]
theorem sgX11_commonDivisor_32_ok : qsg cX11_commonDivisor 11 7 false 32 sgX11_commonDivisor_32 = true := by decide +kernel
end QSG
