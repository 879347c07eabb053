section QSG
def sgX3_init_0 : List qEl := [(.aload_n 0, 1, 0, 0, 0, 0), (.invokespecial 3, 3, 1, 0, 0, 0), (.aload_n 0, 1, 0, 0, 0, 0), (.sipush 150, 3, 0, 0, 150, 0), (.newarray .int, 2, 0, 0, 0, 0), (.putfield 9, 3, 3, 0, 0, 0), (.aload_n 0, 1, 0, 0, 0, 0), (.sipush 150, 3, 0, 0, 150, 0), (.newarray .int, 2, 0, 0, 0, 0), (.putfield 15, 3, 3, 1, 0, 0), (.aload_n 0, 1, 0, 0, 0, 0), (.sipush 152, 3, 0, 0, 152, 0), (.newarray .int, 2, 0, 0, 0, 0), (.putfield 18, 3, 3, 2, 0, 0), (.return_, 1, 0, 0, 0, 0)]
theorem sgX3_init_0_ok : qsg cX3_init 3 1 true 0 sgX3_init_0 = true := by decide +kernel
def sgX3_clear_0 : List qEl := [(.aload_n 0, 1, 0, 0, 0, 0), (.iconst 0, 1, 0, 0, 0, 0), (.putfield 21, 3, 3, 3, 0, 0), (.return_, 1, 0, 0, 0, 0)]
theorem sgX3_clear_0_ok : qsg cX3_clear 3 1 false 0 sgX3_clear_0 = true := by decide +kernel
def sgX3_stands_0 : List qEl := [(.aload_n 0, 1, 0, 0, 0, 0), (.getfield 21, 3, 3, 3, 0, 0), (.ifCond .le 7, 3, 11, 0, 0, 0), (.iconst 1, 1, 0, 0, 1, 0), (.goto 4, 3, 12, 0, 0, 0)]
theorem sgX3_stands_0_ok : qsg cX3_stands 3 1 false 0 sgX3_stands_0 = true := by decide +kernel
def sgX3_stands_11 : List qEl := [(.iconst 0, 1, 0, 0, 0, 0)]
theorem sgX3_stands_11_ok : qsg cX3_stands 3 1 false 11 sgX3_stands_11 = true := by decide +kernel
def sgX3_stands_12 : List qEl := [(.ireturn, 1, 0, 0, 0, 0)]
theorem sgX3_stands_12_ok : qsg cX3_stands 3 1 false 12 sgX3_stands_12 = true := by decide +kernel
def sgX3_copy_0 : List qEl := [(.aload_n 1, 1, 0, 0, 0, 0), (.getfield 9, 3, 3, 0, 0, 0), (.iconst 0, 1, 0, 0, 0, 0), (.aload_n 0, 1, 0, 0, 0, 0), (.getfield 9, 3, 3, 0, 0, 0), (.iconst 0, 1, 0, 0, 0, 0), (.sipush 150, 3, 0, 0, 150, 0), (.invokestatic 25, 3, 1, 0, 0, 0), (.aload_n 1, 1, 0, 0, 0, 0), (.getfield 15, 3, 3, 1, 0, 0), (.iconst 0, 1, 0, 0, 0, 0), (.aload_n 0, 1, 0, 0, 0, 0), (.getfield 15, 3, 3, 1, 0, 0), (.iconst 0, 1, 0, 0, 0, 0), (.sipush 150, 3, 0, 0, 150, 0), (.invokestatic 25, 3, 1, 0, 0, 0), (.aload_n 0, 1, 0, 0, 0, 0), (.aload_n 1, 1, 0, 0, 0, 0), (.getfield 21, 3, 3, 3, 0, 0), (.putfield 21, 3, 3, 3, 0, 0), (.return_, 1, 0, 0, 0, 0)]
theorem sgX3_copy_0_ok : qsg cX3_copy 3 2 false 0 sgX3_copy_0 = true := by decide +kernel
def sgX3_add_0 : List qEl := [(.aload_n 0, 1, 0, 0, 0, 0), (.getfield 21, 3, 3, 3, 0, 0), (.iconst 0, 1, 0, 0, 0, 0), (.sipush 149, 3, 0, 0, 149, 0), (.invokestatic 31, 3, 0, 3, 0, 0), (.ifCond .eq 33, 3, 44, 0, 0, 0), (.aload_n 0, 1, 0, 0, 0, 0), (.getfield 9, 3, 3, 0, 0, 0), (.aload_n 0, 1, 0, 0, 0, 0), (.getfield 21, 3, 3, 3, 0, 0), (.iload_n 1, 1, 0, 0, 0, 0), (.iastore, 1, 0, 0, 0, 0), (.aload_n 0, 1, 0, 0, 0, 0), (.getfield 15, 3, 3, 1, 0, 0), (.aload_n 0, 1, 0, 0, 0, 0), (.getfield 21, 3, 3, 3, 0, 0), (.iload_n 2, 1, 0, 0, 0, 0), (.iastore, 1, 0, 0, 0, 0), (.aload_n 0, 1, 0, 0, 0, 0), (.dup, 1, 0, 0, 0, 0), (.getfield 21, 3, 3, 3, 0, 0), (.iconst 1, 1, 0, 0, 1, 0), (.iadd, 1, 0, 0, 0, 0), (.putfield 21, 3, 3, 3, 0, 0)]
theorem sgX3_add_0_ok : qsg cX3_add 3 3 false 0 sgX3_add_0 = true := by decide +kernel
def sgX3_add_44 : List qEl := [(.return_, 1, 0, 0, 0, 0)]
theorem sgX3_add_44_ok : qsg cX3_add 3 3 false 44 sgX3_add_44 = true := by decide +kernel
def sgX3_worth_0 : List qEl := [(.iconst 0, 1, 0, 0, 0, 0), (.istore_n 2, 1, 0, 0, 0, 0), (.iconst 0, 1, 0, 0, 0, 0), (.istore_n 3, 1, 0, 0, 0, 0)]
theorem sgX3_worth_0_ok : qsg cX3_worth 3 5 false 0 sgX3_worth_0 = true := by decide +kernel
def sgX3_worth_4 : List qEl := [(.iload_n 3, 1, 0, 0, 0, 0), (.aload_n 0, 1, 0, 0, 0, 0), (.getfield 21, 3, 3, 3, 0, 0), (.if_icmp .ge 205, 3, 214, 0, 0, 0), (.iload_n 3, 1, 0, 0, 0, 0), (.sipush 150, 3, 0, 0, 150, 0), (.if_icmp .ge 198, 3, 214, 0, 0, 0), (.aload_n 0, 1, 0, 0, 0, 0), (.getfield 9, 3, 3, 0, 0, 0), (.iload_n 3, 1, 0, 0, 0, 0), (.iaload, 1, 0, 0, 0, 0), (.istore 4, 2, 0, 0, 0, 0), (.iload_n 2, 1, 0, 0, 0, 0), (.iload 4, 2, 0, 0, 0, 0), (.bipush 8, 2, 0, 0, 8, 0), (.if_icmp .ne 7, 3, 39, 0, 0, 0), (.iconst 3, 1, 0, 0, 3, 0), (.goto 14, 3, 50, 0, 0, 0)]
theorem sgX3_worth_4_ok : qsg cX3_worth 3 5 false 4 sgX3_worth_4 = true := by decide +kernel
def sgX3_worth_39 : List qEl := [(.iload 4, 2, 0, 0, 0, 0), (.iconst 1, 1, 0, 0, 1, 0), (.if_icmp .le 7, 3, 49, 0, 0, 0), (.iconst 2, 1, 0, 0, 2, 0), (.goto 4, 3, 50, 0, 0, 0)]
theorem sgX3_worth_39_ok : qsg cX3_worth 3 5 false 39 sgX3_worth_39 = true := by decide +kernel
def sgX3_worth_49 : List qEl := [(.iconst 0, 1, 0, 0, 0, 0)]
theorem sgX3_worth_49_ok : qsg cX3_worth 3 5 false 49 sgX3_worth_49 = true := by decide +kernel
def sgX3_worth_50 : List qEl := [(.isub, 1, 0, 0, 0, 0), (.istore_n 2, 1, 0, 0, 0, 0), (.iload_n 2, 1, 0, 0, 0, 0), (.ifCond .lt 14, 3, 67, 0, 0, 0), (.iload_n 2, 1, 0, 0, 0, 0), (.iconst 2, 1, 0, 0, 2, 0), (.iadd, 1, 0, 0, 0, 0), (.aload_n 0, 1, 0, 0, 0, 0), (.getfield 18, 3, 3, 2, 0, 0), (.arraylength, 1, 0, 0, 0, 0), (.if_icmp .lt 5, 3, 69, 0, 0, 0)]
theorem sgX3_worth_50_ok : qsg cX3_worth 3 5 false 50 sgX3_worth_50 = true := by decide +kernel
def sgX3_worth_67 : List qEl := [(.iconst 0, 1, 0, 0, 0, 0), (.ireturn, 1, 0, 0, 0, 0)]
theorem sgX3_worth_67_ok : qsg cX3_worth 3 5 false 67 sgX3_worth_67 = true := by decide +kernel
def sgX3_worth_69 : List qEl := [(.iload 4, 2, 0, 0, 0, 0), (.ifCond .ne 18, 3, 89, 0, 0, 0), (.aload_n 0, 1, 0, 0, 0, 0), (.getfield 18, 3, 3, 2, 0, 0), (.iload_n 2, 1, 0, 0, 0, 0), (.aload_n 0, 1, 0, 0, 0, 0), (.getfield 15, 3, 3, 1, 0, 0), (.iload_n 3, 1, 0, 0, 0, 0), (.iaload, 1, 0, 0, 0, 0), (.iastore, 1, 0, 0, 0, 0), (.goto 119, 3, 205, 0, 0, 0)]
theorem sgX3_worth_69_ok : qsg cX3_worth 3 5 false 69 sgX3_worth_69 = true := by decide +kernel
def sgX3_worth_89 : List qEl := [(.iload 4, 2, 0, 0, 0, 0), (.iconst 1, 1, 0, 0, 1, 0), (.if_icmp .ne 44, 3, 136, 0, 0, 0), (.aload_n 0, 1, 0, 0, 0, 0), (.getfield 18, 3, 3, 2, 0, 0), (.iload_n 2, 1, 0, 0, 0, 0), (.aload_n 0, 1, 0, 0, 0, 0), (.getfield 15, 3, 3, 1, 0, 0), (.iload_n 3, 1, 0, 0, 0, 0), (.iaload, 1, 0, 0, 0, 0), (.ifCond .lt 25, 3, 131, 0, 0, 0), (.aload_n 0, 1, 0, 0, 0, 0), (.getfield 15, 3, 3, 1, 0, 0), (.iload_n 3, 1, 0, 0, 0, 0), (.iaload, 1, 0, 0, 0, 0), (.aload_n 1, 1, 0, 0, 0, 0), (.arraylength, 1, 0, 0, 0, 0), (.if_icmp .ge 14, 3, 131, 0, 0, 0), (.aload_n 1, 1, 0, 0, 0, 0), (.aload_n 0, 1, 0, 0, 0, 0), (.getfield 15, 3, 3, 1, 0, 0), (.iload_n 3, 1, 0, 0, 0, 0), (.iaload, 1, 0, 0, 0, 0), (.iaload, 1, 0, 0, 0, 0), (.goto 4, 3, 132, 0, 0, 0)]
theorem sgX3_worth_89_ok : qsg cX3_worth 3 5 false 89 sgX3_worth_89 = true := by decide +kernel
def sgX3_worth_131 : List qEl := [(.iconst 0, 1, 0, 0, 0, 0)]
theorem sgX3_worth_131_ok : qsg cX3_worth 3 5 false 131 sgX3_worth_131 = true := by decide +kernel
def sgX3_worth_132 : List qEl := [(.iastore, 1, 0, 0, 0, 0), (.goto 72, 3, 205, 0, 0, 0)]
theorem sgX3_worth_132_ok : qsg cX3_worth 3 5 false 132 sgX3_worth_132 = true := by decide +kernel
def sgX3_worth_136 : List qEl := [(.iload 4, 2, 0, 0, 0, 0), (.bipush 8, 2, 0, 0, 8, 0), (.if_icmp .ne 40, 3, 180, 0, 0, 0), (.aload_n 0, 1, 0, 0, 0, 0), (.getfield 18, 3, 3, 2, 0, 0), (.iload_n 2, 1, 0, 0, 0, 0), (.aload_n 0, 1, 0, 0, 0, 0), (.getfield 18, 3, 3, 2, 0, 0), (.iload_n 2, 1, 0, 0, 0, 0), (.iaload, 1, 0, 0, 0, 0), (.ifCond .le 14, 3, 168, 0, 0, 0), (.aload_n 0, 1, 0, 0, 0, 0), (.getfield 18, 3, 3, 2, 0, 0), (.iload_n 2, 1, 0, 0, 0, 0), (.iconst 1, 1, 0, 0, 1, 0), (.iadd, 1, 0, 0, 0, 0), (.iaload, 1, 0, 0, 0, 0), (.goto 11, 3, 176, 0, 0, 0)]
theorem sgX3_worth_136_ok : qsg cX3_worth 3 5 false 136 sgX3_worth_136 = true := by decide +kernel
def sgX3_worth_168 : List qEl := [(.aload_n 0, 1, 0, 0, 0, 0), (.getfield 18, 3, 3, 2, 0, 0), (.iload_n 2, 1, 0, 0, 0, 0), (.iconst 2, 1, 0, 0, 2, 0), (.iadd, 1, 0, 0, 0, 0), (.iaload, 1, 0, 0, 0, 0)]
theorem sgX3_worth_168_ok : qsg cX3_worth 3 5 false 168 sgX3_worth_168 = true := by decide +kernel
def sgX3_worth_176 : List qEl := [(.iastore, 1, 0, 0, 0, 0), (.goto 28, 3, 205, 0, 0, 0)]
theorem sgX3_worth_176_ok : qsg cX3_worth 3 5 false 176 sgX3_worth_176 = true := by decide +kernel
def sgX3_worth_180 : List qEl := [(.aload_n 0, 1, 0, 0, 0, 0), (.getfield 18, 3, 3, 2, 0, 0), (.iload_n 2, 1, 0, 0, 0, 0), (.iload 4, 2, 0, 0, 0, 0), (.aload_n 0, 1, 0, 0, 0, 0), (.getfield 18, 3, 3, 2, 0, 0), (.iload_n 2, 1, 0, 0, 0, 0), (.iaload, 1, 0, 0, 0, 0), (.aload_n 0, 1, 0, 0, 0, 0), (.getfield 18, 3, 3, 2, 0, 0), (.iload_n 2, 1, 0, 0, 0, 0), (.iconst 1, 1, 0, 0, 1, 0), (.iadd, 1, 0, 0, 0, 0), (.iaload, 1, 0, 0, 0, 0), (.invokestatic 35, 3, 0, 3, 0, 0), (.iastore, 1, 0, 0, 0, 0)]
theorem sgX3_worth_180_ok : qsg cX3_worth 3 5 false 180 sgX3_worth_180 = true := by decide +kernel
def sgX3_worth_205 : List qEl := [(.iinc 2 1, 3, 0, 0, 1, 0), (.iinc 3 1, 3, 0, 0, 1, 0), (.goto (-207), 3, 4, 0, 0, 0)]
theorem sgX3_worth_205_ok : qsg cX3_worth 3 5 false 205 sgX3_worth_205 = true := by decide +kernel
def sgX3_worth_214 : List qEl := [(.aload_n 0, 1, 0, 0, 0, 0), (.getfield 18, 3, 3, 2, 0, 0), (.iconst 0, 1, 0, 0, 0, 0), (.iaload, 1, 0, 0, 0, 0), (.ireturn, 1, 0, 0, 0, 0)]
theorem sgX3_worth_214_ok : qsg cX3_worth 3 5 false 214 sgX3_worth_214 = true := by decide +kernel
def sgX3_join_0 : List qEl := [(.iload_n 0, 1, 0, 0, 0, 0), (.tableswitch 70 2 6 #[35, 39, 43, 47, 59], 35, 0, 0, 0, 0)]
theorem sgX3_join_0_ok : qsg cX3_join 3 3 false 0 sgX3_join_0 = true := by decide +kernel
def sgX3_join_36 : List qEl := [(.iload_n 1, 1, 0, 0, 0, 0), (.iload_n 2, 1, 0, 0, 0, 0), (.iadd, 1, 0, 0, 0, 0), (.ireturn, 1, 0, 0, 0, 0)]
theorem sgX3_join_36_ok : qsg cX3_join 3 3 false 36 sgX3_join_36 = true := by decide +kernel
def sgX3_join_40 : List qEl := [(.iload_n 1, 1, 0, 0, 0, 0), (.iload_n 2, 1, 0, 0, 0, 0), (.isub, 1, 0, 0, 0, 0), (.ireturn, 1, 0, 0, 0, 0)]
theorem sgX3_join_40_ok : qsg cX3_join 3 3 false 40 sgX3_join_40 = true := by decide +kernel
def sgX3_join_44 : List qEl := [(.iload_n 1, 1, 0, 0, 0, 0), (.iload_n 2, 1, 0, 0, 0, 0), (.imul, 1, 0, 0, 0, 0), (.ireturn, 1, 0, 0, 0, 0)]
theorem sgX3_join_44_ok : qsg cX3_join 3 3 false 44 sgX3_join_44 = true := by decide +kernel
def sgX3_join_48 : List qEl := [(.iload_n 2, 1, 0, 0, 0, 0), (.ifCond .ne 7, 3, 56, 0, 0, 0), (.iconst 0, 1, 0, 0, 0, 0), (.goto 6, 3, 59, 0, 0, 0)]
theorem sgX3_join_48_ok : qsg cX3_join 3 3 false 48 sgX3_join_48 = true := by decide +kernel
def sgX3_join_56 : List qEl := [(.iload_n 1, 1, 0, 0, 0, 0), (.iload_n 2, 1, 0, 0, 0, 0), (.idiv, 1, 0, 0, 0, 0)]
theorem sgX3_join_56_ok : qsg cX3_join 3 3 false 56 sgX3_join_56 = true := by decide +kernel
def sgX3_join_59 : List qEl := [(.ireturn, 1, 0, 0, 0, 0)]
theorem sgX3_join_59_ok : qsg cX3_join 3 3 false 59 sgX3_join_59 = true := by decide +kernel
def sgX3_join_60 : List qEl := [(.iload_n 1, 1, 0, 0, 0, 0), (.iload_n 2, 1, 0, 0, 0, 0), (.if_icmp .ge 7, 3, 69, 0, 0, 0), (.iload_n 1, 1, 0, 0, 0, 0), (.goto 4, 3, 70, 0, 0, 0)]
theorem sgX3_join_60_ok : qsg cX3_join 3 3 false 60 sgX3_join_60 = true := by decide +kernel
def sgX3_join_69 : List qEl := [(.iload_n 2, 1, 0, 0, 0, 0)]
theorem sgX3_join_69_ok : qsg cX3_join 3 3 false 69 sgX3_join_69 = true := by decide +kernel
def sgX3_join_70 : List qEl := [(.ireturn, 1, 0, 0, 0, 0)]
theorem sgX3_join_70_ok : qsg cX3_join 3 3 false 70 sgX3_join_70 = true := by decide +kernel
def sgX3_join_71 : List qEl := [(.iload_n 1, 1, 0, 0, 0, 0), (.iload_n 2, 1, 0, 0, 0, 0), (.if_icmp .le 7, 3, 80, 0, 0, 0), (.iload_n 1, 1, 0, 0, 0, 0), (.goto 4, 3, 81, 0, 0, 0)]
theorem sgX3_join_71_ok : qsg cX3_join 3 3 false 71 sgX3_join_71 = true := by decide +kernel
def sgX3_join_80 : List qEl := [(.iload_n 2, 1, 0, 0, 0, 0)]
theorem sgX3_join_80_ok : qsg cX3_join 3 3 false 80 sgX3_join_80 = true := by decide +kernel
def sgX3_join_81 : List qEl := [(.ireturn, 1, 0, 0, 0, 0)]
theorem sgX3_join_81_ok : qsg cX3_join 3 3 false 81 sgX3_join_81 = true := by decide +kernel
end QSG
