section QSG
def sgX0_init_0 : List qEl := [(.aload_n 0, 1, 0, 0, 0, 0), (.invokespecial 3, 3, 1, 0, 0, 0), (.aload_n 0, 1, 0, 0, 0, 0), (.bipush 8, 2, 0, 0, 8, 0), (.newarray .int, 2, 0, 0, 0, 0), (.putfield 9, 3, 0, 0, 0, 0), (.aload_n 0, 1, 0, 0, 0, 0), (.bipush 8, 2, 0, 0, 8, 0), (.newarray .int, 2, 0, 0, 0, 0), (.putfield 15, 3, 0, 1, 0, 0), (.return_, 1, 0, 0, 0, 0)]
theorem sgX0_init_0_ok : qsg cX0_init 0 1 true 0 sgX0_init_0 = true := by decide +kernel
def sgX0_clear_0 : List qEl := [(.aload_n 0, 1, 0, 0, 0, 0), (.iconst 0, 1, 0, 0, 0, 0), (.putfield 18, 3, 0, 2, 0, 0), (.return_, 1, 0, 0, 0, 0)]
theorem sgX0_clear_0_ok : qsg cX0_clear 0 1 false 0 sgX0_clear_0 = true := by decide +kernel
def sgX0_copy_0 : List qEl := [(.aload_n 1, 1, 0, 0, 0, 0), (.getfield 9, 3, 0, 0, 0, 0), (.iconst 0, 1, 0, 0, 0, 0), (.aload_n 0, 1, 0, 0, 0, 0), (.getfield 9, 3, 0, 0, 0, 0), (.iconst 0, 1, 0, 0, 0, 0), (.bipush 8, 2, 0, 0, 8, 0), (.invokestatic 22, 3, 1, 0, 0, 0), (.aload_n 1, 1, 0, 0, 0, 0), (.getfield 15, 3, 0, 1, 0, 0), (.iconst 0, 1, 0, 0, 0, 0), (.aload_n 0, 1, 0, 0, 0, 0), (.getfield 15, 3, 0, 1, 0, 0), (.iconst 0, 1, 0, 0, 0, 0), (.bipush 8, 2, 0, 0, 8, 0), (.invokestatic 22, 3, 1, 0, 0, 0), (.aload_n 0, 1, 0, 0, 0, 0), (.aload_n 1, 1, 0, 0, 0, 0), (.getfield 18, 3, 0, 2, 0, 0), (.putfield 18, 3, 0, 2, 0, 0), (.return_, 1, 0, 0, 0, 0)]
theorem sgX0_copy_0_ok : qsg cX0_copy 0 2 false 0 sgX0_copy_0 = true := by decide +kernel
def sgX0_add_0 : List qEl := [(.aload_n 0, 1, 0, 0, 0, 0), (.getfield 18, 3, 0, 2, 0, 0), (.iconst 0, 1, 0, 0, 0, 0), (.bipush 7, 2, 0, 0, 7, 0), (.invokestatic 28, 3, 0, 3, 0, 0), (.ifCond .eq 33, 3, 43, 0, 0, 0), (.aload_n 0, 1, 0, 0, 0, 0), (.getfield 9, 3, 0, 0, 0, 0), (.aload_n 0, 1, 0, 0, 0, 0), (.getfield 18, 3, 0, 2, 0, 0), (.iload_n 1, 1, 0, 0, 0, 0), (.iastore, 1, 0, 0, 0, 0), (.aload_n 0, 1, 0, 0, 0, 0), (.getfield 15, 3, 0, 1, 0, 0), (.aload_n 0, 1, 0, 0, 0, 0), (.getfield 18, 3, 0, 2, 0, 0), (.iload_n 2, 1, 0, 0, 0, 0), (.iastore, 1, 0, 0, 0, 0), (.aload_n 0, 1, 0, 0, 0, 0), (.dup, 1, 0, 0, 0, 0), (.getfield 18, 3, 0, 2, 0, 0), (.iconst 1, 1, 0, 0, 1, 0), (.iadd, 1, 0, 0, 0, 0), (.putfield 18, 3, 0, 2, 0, 0)]
theorem sgX0_add_0_ok : qsg cX0_add 0 3 false 0 sgX0_add_0 = true := by decide +kernel
def sgX0_add_43 : List qEl := [(.return_, 1, 0, 0, 0, 0)]
theorem sgX0_add_43_ok : qsg cX0_add 0 3 false 43 sgX0_add_43 = true := by decide +kernel
def sgX0_rightLines_0 : List qEl := [(.iconst 0, 1, 0, 0, 0, 0), (.istore_n 3, 1, 0, 0, 0, 0)]
theorem sgX0_rightLines_0_ok : qsg cX0_rightLines 0 4 false 0 sgX0_rightLines_0 = true := by decide +kernel
def sgX0_rightLines_2 : List qEl := [(.iload_n 3, 1, 0, 0, 0, 0), (.aload_n 0, 1, 0, 0, 0, 0), (.getfield 18, 3, 0, 2, 0, 0), (.if_icmp .ge 39, 3, 46, 0, 0, 0), (.iload_n 3, 1, 0, 0, 0, 0), (.bipush 8, 2, 0, 0, 8, 0), (.if_icmp .ge 33, 3, 46, 0, 0, 0), (.aload_n 0, 1, 0, 0, 0, 0), (.aload_n 1, 1, 0, 0, 0, 0), (.iload_n 2, 1, 0, 0, 0, 0), (.aload_n 0, 1, 0, 0, 0, 0), (.getfield 9, 3, 0, 0, 0, 0), (.iload_n 3, 1, 0, 0, 0, 0), (.iaload, 1, 0, 0, 0, 0), (.iand, 1, 0, 0, 0, 0), (.invokevirtual 32, 3, 0, 2, 0, 0), (.aload_n 0, 1, 0, 0, 0, 0), (.getfield 15, 3, 0, 1, 0, 0), (.iload_n 3, 1, 0, 0, 0, 0), (.iaload, 1, 0, 0, 0, 0), (.if_icmp .eq 5, 3, 40, 0, 0, 0), (.iload_n 3, 1, 0, 0, 0, 0), (.ireturn, 1, 0, 0, 0, 0)]
theorem sgX0_rightLines_2_ok : qsg cX0_rightLines 0 4 false 2 sgX0_rightLines_2 = true := by decide +kernel
def sgX0_rightLines_40 : List qEl := [(.iinc 3 1, 3, 0, 0, 1, 0), (.goto (-41), 3, 2, 0, 0, 0)]
theorem sgX0_rightLines_40_ok : qsg cX0_rightLines 0 4 false 40 sgX0_rightLines_40 = true := by decide +kernel
def sgX0_rightLines_46 : List qEl := [(.aload_n 0, 1, 0, 0, 0, 0), (.getfield 18, 3, 0, 2, 0, 0), (.ireturn, 1, 0, 0, 0, 0)]
theorem sgX0_rightLines_46_ok : qsg cX0_rightLines 0 4 false 46 sgX0_rightLines_46 = true := by decide +kernel
def sgX0_boxOf_0 : List qEl := [(.iconst 0, 1, 0, 0, 0, 0), (.istore_n 3, 1, 0, 0, 0, 0), (.iload_n 2, 1, 0, 0, 0, 0), (.istore 4, 2, 0, 0, 0, 0), (.iconst 0, 1, 0, 0, 0, 0), (.istore 5, 2, 0, 0, 0, 0)]
theorem sgX0_boxOf_0_ok : qsg cX0_boxOf 0 6 false 0 sgX0_boxOf_0 = true := by decide +kernel
def sgX0_boxOf_8 : List qEl := [(.iload 5, 2, 0, 0, 0, 0), (.bipush 10, 2, 0, 0, 10, 0), (.if_icmp .ge 35, 3, 47, 0, 0, 0), (.iload 4, 2, 0, 0, 0, 0), (.ifCond .eq 30, 3, 47, 0, 0, 0), (.iload_n 3, 1, 0, 0, 0, 0), (.iload 4, 2, 0, 0, 0, 0), (.iconst 1, 1, 0, 0, 1, 0), (.iand, 1, 0, 0, 0, 0), (.aload_n 1, 1, 0, 0, 0, 0), (.iload 5, 2, 0, 0, 0, 0), (.iconst 1, 1, 0, 0, 1, 0), (.invokevirtual 36, 3, 0, 2, 0, 0), (.imul, 1, 0, 0, 0, 0), (.iadd, 1, 0, 0, 0, 0), (.istore_n 3, 1, 0, 0, 0, 0), (.iload 4, 2, 0, 0, 0, 0), (.iconst 1, 1, 0, 0, 1, 0), (.ishr, 1, 0, 0, 0, 0), (.istore 4, 2, 0, 0, 0, 0), (.iinc 5 1, 3, 0, 0, 1, 0), (.goto (-36), 3, 8, 0, 0, 0)]
theorem sgX0_boxOf_8_ok : qsg cX0_boxOf 0 6 false 8 sgX0_boxOf_8 = true := by decide +kernel
def sgX0_boxOf_47 : List qEl := [(.iload_n 3, 1, 0, 0, 0, 0), (.ireturn, 1, 0, 0, 0, 0)]
theorem sgX0_boxOf_47_ok : qsg cX0_boxOf 0 6 false 47 sgX0_boxOf_47 = true := by decide +kernel
def sgX0_findSets_0 : List qEl := [(.aload_n 1, 1, 0, 0, 0, 0), (.invokevirtual 42, 3, 0, 0, 0, 0), (.istore_n 2, 1, 0, 0, 0, 0), (.iconst 0, 1, 0, 0, 0, 0), (.istore_n 3, 1, 0, 0, 0, 0), (.aload_n 0, 1, 0, 0, 0, 0), (.iconst 0, 1, 0, 0, 0, 0), (.putfield 46, 3, 0, 3, 0, 0), (.aload_n 0, 1, 0, 0, 0, 0), (.iconst (-1), 1, 0, 0, (-1), 0), (.putfield 49, 3, 0, 4, 0, 0), (.aload_n 0, 1, 0, 0, 0, 0), (.iload_n 2, 1, 0, 0, 0, 0), (.putfield 52, 3, 0, 5, 0, 0), (.iconst 0, 1, 0, 0, 0, 0), (.istore 4, 2, 0, 0, 0, 0)]
theorem sgX0_findSets_0_ok : qsg cX0_findSets 0 5 false 0 sgX0_findSets_0 = true := by decide +kernel
def sgX0_findSets_25 : List qEl := [(.iload 4, 2, 0, 0, 0, 0), (.iload_n 2, 1, 0, 0, 0, 0), (.if_icmp .gt 69, 3, 97, 0, 0, 0), (.aload_n 0, 1, 0, 0, 0, 0), (.aload_n 1, 1, 0, 0, 0, 0), (.iload 4, 2, 0, 0, 0, 0), (.invokevirtual 55, 3, 0, 2, 0, 0), (.aload_n 0, 1, 0, 0, 0, 0), (.getfield 18, 3, 0, 2, 0, 0), (.if_icmp .ne 49, 3, 91, 0, 0, 0), (.aload_n 0, 1, 0, 0, 0, 0), (.aload_n 0, 1, 0, 0, 0, 0), (.getfield 46, 3, 0, 3, 0, 0), (.ifCond .ne 8, 3, 58, 0, 0, 0), (.iload 4, 2, 0, 0, 0, 0), (.goto 7, 3, 62, 0, 0, 0)]
theorem sgX0_findSets_25_ok : qsg cX0_findSets 0 5 false 25 sgX0_findSets_25 = true := by decide +kernel
def sgX0_findSets_58 : List qEl := [(.aload_n 0, 1, 0, 0, 0, 0), (.getfield 49, 3, 0, 4, 0, 0)]
theorem sgX0_findSets_58_ok : qsg cX0_findSets 0 5 false 58 sgX0_findSets_58 = true := by decide +kernel
def sgX0_findSets_62 : List qEl := [(.putfield 49, 3, 0, 4, 0, 0), (.aload_n 0, 1, 0, 0, 0, 0), (.dup, 1, 0, 0, 0, 0), (.getfield 52, 3, 0, 5, 0, 0), (.iload 4, 2, 0, 0, 0, 0), (.iand, 1, 0, 0, 0, 0), (.putfield 52, 3, 0, 5, 0, 0), (.iload_n 3, 1, 0, 0, 0, 0), (.iload 4, 2, 0, 0, 0, 0), (.ior, 1, 0, 0, 0, 0), (.istore_n 3, 1, 0, 0, 0, 0), (.aload_n 0, 1, 0, 0, 0, 0), (.dup, 1, 0, 0, 0, 0), (.getfield 46, 3, 0, 3, 0, 0), (.iconst 1, 1, 0, 0, 1, 0), (.iadd, 1, 0, 0, 0, 0), (.putfield 46, 3, 0, 3, 0, 0)]
theorem sgX0_findSets_62_ok : qsg cX0_findSets 0 5 false 62 sgX0_findSets_62 = true := by decide +kernel
def sgX0_findSets_91 : List qEl := [(.iinc 4 1, 3, 0, 0, 1, 0), (.goto (-69), 3, 25, 0, 0, 0)]
theorem sgX0_findSets_91_ok : qsg cX0_findSets 0 5 false 91 sgX0_findSets_91 = true := by decide +kernel
def sgX0_findSets_97 : List qEl := [(.aload_n 0, 1, 0, 0, 0, 0), (.aload_n 0, 1, 0, 0, 0, 0), (.getfield 46, 3, 0, 3, 0, 0), (.ifCond .ne 7, 3, 109, 0, 0, 0), (.iconst 0, 1, 0, 0, 0, 0), (.goto 8, 3, 114, 0, 0, 0)]
theorem sgX0_findSets_97_ok : qsg cX0_findSets 0 5 false 97 sgX0_findSets_97 = true := by decide +kernel
def sgX0_findSets_109 : List qEl := [(.iload_n 2, 1, 0, 0, 0, 0), (.iload_n 3, 1, 0, 0, 0, 0), (.iconst (-1), 1, 0, 0, (-1), 0), (.ixor, 1, 0, 0, 0, 0), (.iand, 1, 0, 0, 0, 0)]
theorem sgX0_findSets_109_ok : qsg cX0_findSets 0 5 false 109 sgX0_findSets_109 = true := by decide +kernel
def sgX0_findSets_114 : List qEl := [(.putfield 58, 3, 0, 6, 0, 0), (.aload_n 0, 1, 0, 0, 0, 0), (.aload_n 0, 1, 0, 0, 0, 0), (.getfield 46, 3, 0, 3, 0, 0), (.ifCond .ne 7, 3, 129, 0, 0, 0), (.iconst 0, 1, 0, 0, 0, 0), (.goto 7, 3, 133, 0, 0, 0)]
theorem sgX0_findSets_114_ok : qsg cX0_findSets 0 5 false 114 sgX0_findSets_114 = true := by decide +kernel
def sgX0_findSets_129 : List qEl := [(.aload_n 0, 1, 0, 0, 0, 0), (.getfield 52, 3, 0, 5, 0, 0)]
theorem sgX0_findSets_129_ok : qsg cX0_findSets 0 5 false 129 sgX0_findSets_129 = true := by decide +kernel
def sgX0_findSets_133 : List qEl := [(.putfield 52, 3, 0, 5, 0, 0), (.return_, 1, 0, 0, 0, 0)]
theorem sgX0_findSets_133_ok : qsg cX0_findSets 0 5 false 133 sgX0_findSets_133 = true := by decide +kernel
end QSG
