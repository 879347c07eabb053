section QSG
def sgX4_init_0 : List qEl := [(.aload_n 0, 1, 0, 0, 0, 0), (.invokespecial 3, 3, 1, 0, 0, 0), (.aload_n 0, 1, 0, 0, 0, 0), (.new 9, 3, 3, 4, 0, 0), (.dup, 1, 0, 0, 0, 0), (.invokespecial 11, 3, 0, 0, 0, 0), (.putfield 12, 3, 4, 1, 0, 0), (.aload_n 0, 1, 0, 0, 0, 0), (.aload_n 1, 1, 0, 0, 0, 0), (.putfield 18, 3, 4, 0, 0, 0), (.return_, 1, 0, 0, 0, 0)]
theorem sgX4_init_0_ok : qsg cX4_init 4 2 true 0 sgX4_init_0 = true := by decide +kernel
def sgX4_reads_0 : List qEl := [(.aload_n 0, 1, 0, 0, 0, 0), (.getfield 12, 3, 4, 1, 0, 0), (.invokevirtual 22, 3, 0, 0, 0, 0), (.aload_n 0, 1, 0, 0, 0, 0), (.iconst 0, 1, 0, 0, 0, 0), (.invokevirtual 25, 3, 0, 1, 0, 0), (.aload_n 0, 1, 0, 0, 0, 0), (.getfield 18, 3, 4, 0, 0, 0), (.invokevirtual 29, 3, 0, 0, 0, 0), (.ifCond .ne 28, 3, 47, 0, 0, 0), (.aload_n 0, 1, 0, 0, 0, 0), (.getfield 18, 3, 4, 0, 0, 0), (.invokevirtual 35, 3, 0, 0, 0, 0), (.ifCond .ne 18, 3, 47, 0, 0, 0), (.aload_n 0, 1, 0, 0, 0, 0), (.getfield 18, 3, 4, 0, 0, 0), (.iconst 1, 1, 0, 0, 1, 0), (.aload_n 0, 1, 0, 0, 0, 0), (.getfield 18, 3, 4, 0, 0, 0), (.getfield 38, 3, 8, 3, 0, 0), (.invokevirtual 42, 3, 0, 2, 0, 0)]
theorem sgX4_reads_0_ok : qsg cX4_reads 4 1 false 0 sgX4_reads_0 = true := by decide +kernel
def sgX4_reads_47 : List qEl := [(.aload_n 0, 1, 0, 0, 0, 0), (.getfield 18, 3, 4, 0, 0, 0), (.invokevirtual 29, 3, 0, 0, 0, 0), (.ifCond .ne 7, 3, 61, 0, 0, 0), (.iconst 1, 1, 0, 0, 1, 0), (.goto 4, 3, 62, 0, 0, 0)]
theorem sgX4_reads_47_ok : qsg cX4_reads 4 1 false 47 sgX4_reads_47 = true := by decide +kernel
def sgX4_reads_61 : List qEl := [(.iconst 0, 1, 0, 0, 0, 0)]
theorem sgX4_reads_61_ok : qsg cX4_reads 4 1 false 61 sgX4_reads_61 = true := by decide +kernel
def sgX4_reads_62 : List qEl := [(.ireturn, 1, 0, 0, 0, 0)]
theorem sgX4_reads_62_ok : qsg cX4_reads 4 1 false 62 sgX4_reads_62 = true := by decide +kernel
def sgX4_readSum_0 : List qEl := [(.aload_n 0, 1, 0, 0, 0, 0), (.iload_n 1, 1, 0, 0, 0, 0), (.invokevirtual 46, 3, 0, 1, 0, 0), (.iconst 0, 1, 0, 0, 0, 0), (.istore_n 2, 1, 0, 0, 0, 0)]
theorem sgX4_readSum_0_ok : qsg cX4_readSum 4 4 false 0 sgX4_readSum_0 = true := by decide +kernel
def sgX4_readSum_7 : List qEl := [(.iload_n 2, 1, 0, 0, 0, 0), (.sipush 150, 3, 0, 0, 150, 0), (.if_icmp .ge 71, 3, 82, 0, 0, 0), (.aload_n 0, 1, 0, 0, 0, 0), (.getfield 18, 3, 4, 0, 0, 0), (.invokevirtual 29, 3, 0, 0, 0, 0), (.ifCond .ne 61, 3, 82, 0, 0, 0), (.aload_n 0, 1, 0, 0, 0, 0), (.getfield 18, 3, 4, 0, 0, 0), (.invokevirtual 49, 3, 0, 0, 0, 0), (.istore_n 3, 1, 0, 0, 0, 0), (.iload_n 3, 1, 0, 0, 0, 0), (.bipush 43, 2, 0, 0, 43, 0), (.if_icmp .eq 10, 3, 45, 0, 0, 0), (.iload_n 3, 1, 0, 0, 0, 0), (.bipush 45, 2, 0, 0, 45, 0), (.if_icmp .eq 4, 3, 45, 0, 0, 0), (.return_, 1, 0, 0, 0, 0)]
theorem sgX4_readSum_7_ok : qsg cX4_readSum 4 4 false 7 sgX4_readSum_7 = true := by decide +kernel
def sgX4_readSum_45 : List qEl := [(.aload_n 0, 1, 0, 0, 0, 0), (.getfield 18, 3, 4, 0, 0, 0), (.invokevirtual 53, 3, 0, 0, 0, 0), (.aload_n 0, 1, 0, 0, 0, 0), (.iload_n 1, 1, 0, 0, 0, 0), (.invokevirtual 46, 3, 0, 1, 0, 0), (.aload_n 0, 1, 0, 0, 0, 0), (.getfield 12, 3, 4, 1, 0, 0), (.iload_n 3, 1, 0, 0, 0, 0), (.bipush 43, 2, 0, 0, 43, 0), (.if_icmp .ne 7, 3, 71, 0, 0, 0), (.iconst 2, 1, 0, 0, 2, 0), (.goto 4, 3, 72, 0, 0, 0)]
theorem sgX4_readSum_45_ok : qsg cX4_readSum 4 4 false 45 sgX4_readSum_45 = true := by decide +kernel
def sgX4_readSum_71 : List qEl := [(.iconst 3, 1, 0, 0, 3, 0)]
theorem sgX4_readSum_71_ok : qsg cX4_readSum 4 4 false 71 sgX4_readSum_71 = true := by decide +kernel
def sgX4_readSum_72 : List qEl := [(.iconst 0, 1, 0, 0, 0, 0), (.invokevirtual 56, 3, 0, 2, 0, 0), (.iinc 2 1, 3, 0, 0, 1, 0), (.goto (-72), 3, 7, 0, 0, 0)]
theorem sgX4_readSum_72_ok : qsg cX4_readSum 4 4 false 72 sgX4_readSum_72 = true := by decide +kernel
def sgX4_readSum_82 : List qEl := [(.return_, 1, 0, 0, 0, 0)]
theorem sgX4_readSum_82_ok : qsg cX4_readSum 4 4 false 82 sgX4_readSum_82 = true := by decide +kernel
def sgX4_readProduct_0 : List qEl := [(.aload_n 0, 1, 0, 0, 0, 0), (.iload_n 1, 1, 0, 0, 0, 0), (.invokevirtual 59, 3, 0, 1, 0, 0), (.iconst 0, 1, 0, 0, 0, 0), (.istore_n 2, 1, 0, 0, 0, 0)]
theorem sgX4_readProduct_0_ok : qsg cX4_readProduct 4 4 false 0 sgX4_readProduct_0 = true := by decide +kernel
def sgX4_readProduct_7 : List qEl := [(.iload_n 2, 1, 0, 0, 0, 0), (.sipush 150, 3, 0, 0, 150, 0), (.if_icmp .ge 71, 3, 82, 0, 0, 0), (.aload_n 0, 1, 0, 0, 0, 0), (.getfield 18, 3, 4, 0, 0, 0), (.invokevirtual 29, 3, 0, 0, 0, 0), (.ifCond .ne 61, 3, 82, 0, 0, 0), (.aload_n 0, 1, 0, 0, 0, 0), (.getfield 18, 3, 4, 0, 0, 0), (.invokevirtual 49, 3, 0, 0, 0, 0), (.istore_n 3, 1, 0, 0, 0, 0), (.iload_n 3, 1, 0, 0, 0, 0), (.bipush 42, 2, 0, 0, 42, 0), (.if_icmp .eq 10, 3, 45, 0, 0, 0), (.iload_n 3, 1, 0, 0, 0, 0), (.bipush 47, 2, 0, 0, 47, 0), (.if_icmp .eq 4, 3, 45, 0, 0, 0), (.return_, 1, 0, 0, 0, 0)]
theorem sgX4_readProduct_7_ok : qsg cX4_readProduct 4 4 false 7 sgX4_readProduct_7 = true := by decide +kernel
def sgX4_readProduct_45 : List qEl := [(.aload_n 0, 1, 0, 0, 0, 0), (.getfield 18, 3, 4, 0, 0, 0), (.invokevirtual 53, 3, 0, 0, 0, 0), (.aload_n 0, 1, 0, 0, 0, 0), (.iload_n 1, 1, 0, 0, 0, 0), (.invokevirtual 59, 3, 0, 1, 0, 0), (.aload_n 0, 1, 0, 0, 0, 0), (.getfield 12, 3, 4, 1, 0, 0), (.iload_n 3, 1, 0, 0, 0, 0), (.bipush 42, 2, 0, 0, 42, 0), (.if_icmp .ne 7, 3, 71, 0, 0, 0), (.iconst 4, 1, 0, 0, 4, 0), (.goto 4, 3, 72, 0, 0, 0)]
theorem sgX4_readProduct_45_ok : qsg cX4_readProduct 4 4 false 45 sgX4_readProduct_45 = true := by decide +kernel
def sgX4_readProduct_71 : List qEl := [(.iconst 5, 1, 0, 0, 5, 0)]
theorem sgX4_readProduct_71_ok : qsg cX4_readProduct 4 4 false 71 sgX4_readProduct_71 = true := by decide +kernel
def sgX4_readProduct_72 : List qEl := [(.iconst 0, 1, 0, 0, 0, 0), (.invokevirtual 56, 3, 0, 2, 0, 0), (.iinc 2 1, 3, 0, 0, 1, 0), (.goto (-72), 3, 7, 0, 0, 0)]
theorem sgX4_readProduct_72_ok : qsg cX4_readProduct 4 4 false 72 sgX4_readProduct_72 = true := by decide +kernel
def sgX4_readProduct_82 : List qEl := [(.return_, 1, 0, 0, 0, 0)]
theorem sgX4_readProduct_82_ok : qsg cX4_readProduct 4 4 false 82 sgX4_readProduct_82 = true := by decide +kernel
def sgX4_readUnit_0 : List qEl := [(.aload_n 0, 1, 0, 0, 0, 0), (.getfield 18, 3, 4, 0, 0, 0), (.invokevirtual 62, 3, 0, 0, 0, 0), (.ifCond .eq 25, 3, 32, 0, 0, 0), (.aload_n 0, 1, 0, 0, 0, 0), (.getfield 12, 3, 4, 1, 0, 0), (.iconst 0, 1, 0, 0, 0, 0), (.aload_n 0, 1, 0, 0, 0, 0), (.getfield 18, 3, 4, 0, 0, 0), (.iconst 0, 1, 0, 0, 0, 0), (.sipush 999, 3, 0, 0, 999, 0), (.invokevirtual 65, 3, 0, 2, 0, 0), (.invokevirtual 56, 3, 0, 2, 0, 0), (.goto 61, 3, 90, 0, 0, 0)]
theorem sgX4_readUnit_0_ok : qsg cX4_readUnit 4 2 false 0 sgX4_readUnit_0 = true := by decide +kernel
def sgX4_readUnit_32 : List qEl := [(.aload_n 0, 1, 0, 0, 0, 0), (.getfield 18, 3, 4, 0, 0, 0), (.invokevirtual 49, 3, 0, 0, 0, 0), (.bipush 40, 2, 0, 0, 40, 0), (.if_icmp .ne 44, 3, 85, 0, 0, 0), (.iload_n 1, 1, 0, 0, 0, 0), (.bipush 6, 2, 0, 0, 6, 0), (.if_icmp .lt 19, 3, 66, 0, 0, 0), (.aload_n 0, 1, 0, 0, 0, 0), (.getfield 18, 3, 4, 0, 0, 0), (.iconst 3, 1, 0, 0, 3, 0), (.aload_n 0, 1, 0, 0, 0, 0), (.getfield 18, 3, 4, 0, 0, 0), (.getfield 38, 3, 8, 3, 0, 0), (.invokevirtual 42, 3, 0, 2, 0, 0), (.return_, 1, 0, 0, 0, 0)]
theorem sgX4_readUnit_32_ok : qsg cX4_readUnit 4 2 false 32 sgX4_readUnit_32 = true := by decide +kernel
def sgX4_readUnit_66 : List qEl := [(.aload_n 0, 1, 0, 0, 0, 0), (.getfield 18, 3, 4, 0, 0, 0), (.invokevirtual 53, 3, 0, 0, 0, 0), (.aload_n 0, 1, 0, 0, 0, 0), (.iload_n 1, 1, 0, 0, 0, 0), (.iconst 1, 1, 0, 0, 1, 0), (.iadd, 1, 0, 0, 0, 0), (.bipush 41, 2, 0, 0, 41, 0), (.invokevirtual 69, 3, 0, 2, 0, 0), (.goto 8, 3, 90, 0, 0, 0)]
theorem sgX4_readUnit_66_ok : qsg cX4_readUnit 4 2 false 66 sgX4_readUnit_66 = true := by decide +kernel
def sgX4_readUnit_85 : List qEl := [(.aload_n 0, 1, 0, 0, 0, 0), (.iload_n 1, 1, 0, 0, 0, 0), (.invokevirtual 72, 3, 0, 1, 0, 0)]
theorem sgX4_readUnit_85_ok : qsg cX4_readUnit 4 2 false 85 sgX4_readUnit_85 = true := by decide +kernel
def sgX4_readUnit_90 : List qEl := [(.return_, 1, 0, 0, 0, 0)]
theorem sgX4_readUnit_90_ok : qsg cX4_readUnit 4 2 false 90 sgX4_readUnit_90 = true := by decide +kernel
def sgX4_readPart_0 : List qEl := [(.aload_n 0, 1, 0, 0, 0, 0), (.iload_n 1, 1, 0, 0, 0, 0), (.invokevirtual 25, 3, 0, 1, 0, 0), (.aload_n 0, 1, 0, 0, 0, 0), (.getfield 18, 3, 4, 0, 0, 0), (.invokevirtual 29, 3, 0, 0, 0, 0), (.ifCond .ne 11, 3, 23, 0, 0, 0), (.aload_n 0, 1, 0, 0, 0, 0), (.getfield 18, 3, 4, 0, 0, 0), (.iload_n 2, 1, 0, 0, 0, 0), (.invokevirtual 75, 3, 0, 1, 0, 0)]
theorem sgX4_readPart_0_ok : qsg cX4_readPart 4 3 false 0 sgX4_readPart_0 = true := by decide +kernel
def sgX4_readPart_23 : List qEl := [(.return_, 1, 0, 0, 0, 0)]
theorem sgX4_readPart_23_ok : qsg cX4_readPart 4 3 false 23 sgX4_readPart_23 = true := by decide +kernel
def sgX4_readWord_0 : List qEl := [(.aload_n 0, 1, 0, 0, 0, 0), (.getfield 18, 3, 4, 0, 0, 0), (.ldc 78, 2, 1, 0, 0, 0), (.invokevirtual 80, 3, 0, 1, 0, 0), (.istore_n 2, 1, 0, 0, 0, 0), (.aload_n 0, 1, 0, 0, 0, 0), (.getfield 18, 3, 4, 0, 0, 0), (.invokevirtual 29, 3, 0, 0, 0, 0), (.ifCond .eq 4, 3, 21, 0, 0, 0), (.return_, 1, 0, 0, 0, 0)]
theorem sgX4_readWord_0_ok : qsg cX4_readWord 4 6 false 0 sgX4_readWord_0 = true := by decide +kernel
def sgX4_readWord_21 : List qEl := [(.iload_n 2, 1, 0, 0, 0, 0), (.bipush 10, 2, 0, 0, 10, 0), (.if_icmp .ge 13, 3, 37, 0, 0, 0), (.aload_n 0, 1, 0, 0, 0, 0), (.getfield 12, 3, 4, 1, 0, 0), (.iconst 1, 1, 0, 0, 1, 0), (.iload_n 2, 1, 0, 0, 0, 0), (.invokevirtual 56, 3, 0, 2, 0, 0), (.return_, 1, 0, 0, 0, 0)]
theorem sgX4_readWord_21_ok : qsg cX4_readWord 4 6 false 21 sgX4_readWord_21 = true := by decide +kernel
def sgX4_readWord_37 : List qEl := [(.iload_n 1, 1, 0, 0, 0, 0), (.bipush 6, 2, 0, 0, 6, 0), (.if_icmp .lt 19, 3, 59, 0, 0, 0), (.aload_n 0, 1, 0, 0, 0, 0), (.getfield 18, 3, 4, 0, 0, 0), (.iconst 3, 1, 0, 0, 3, 0), (.aload_n 0, 1, 0, 0, 0, 0), (.getfield 18, 3, 4, 0, 0, 0), (.getfield 84, 3, 8, 4, 0, 0), (.invokevirtual 42, 3, 0, 2, 0, 0), (.return_, 1, 0, 0, 0, 0)]
theorem sgX4_readWord_37_ok : qsg cX4_readWord 4 6 false 37 sgX4_readWord_37 = true := by decide +kernel
def sgX4_readWord_59 : List qEl := [(.aload_n 0, 1, 0, 0, 0, 0), (.getfield 18, 3, 4, 0, 0, 0), (.bipush 91, 2, 0, 0, 91, 0), (.invokevirtual 75, 3, 0, 1, 0, 0), (.iload_n 2, 1, 0, 0, 0, 0), (.bipush 10, 2, 0, 0, 10, 0), (.if_icmp .ne 8, 3, 79, 0, 0, 0), (.bipush 6, 2, 0, 0, 6, 0), (.goto 16, 3, 92, 0, 0, 0)]
theorem sgX4_readWord_59_ok : qsg cX4_readWord 4 6 false 59 sgX4_readWord_59 = true := by decide +kernel
def sgX4_readWord_79 : List qEl := [(.iload_n 2, 1, 0, 0, 0, 0), (.bipush 11, 2, 0, 0, 11, 0), (.if_icmp .ne 8, 3, 90, 0, 0, 0), (.bipush 7, 2, 0, 0, 7, 0), (.goto 5, 3, 92, 0, 0, 0)]
theorem sgX4_readWord_79_ok : qsg cX4_readWord 4 6 false 79 sgX4_readWord_79 = true := by decide +kernel
def sgX4_readWord_90 : List qEl := [(.bipush 8, 2, 0, 0, 8, 0)]
theorem sgX4_readWord_90_ok : qsg cX4_readWord 4 6 false 90 sgX4_readWord_90 = true := by decide +kernel
def sgX4_readWord_92 : List qEl := [(.istore_n 3, 1, 0, 0, 0, 0), (.iload_n 3, 1, 0, 0, 0, 0), (.bipush 8, 2, 0, 0, 8, 0), (.if_icmp .ne 7, 3, 103, 0, 0, 0), (.iconst 3, 1, 0, 0, 3, 0), (.goto 4, 3, 104, 0, 0, 0)]
theorem sgX4_readWord_92_ok : qsg cX4_readWord 4 6 false 92 sgX4_readWord_92 = true := by decide +kernel
def sgX4_readWord_103 : List qEl := [(.iconst 2, 1, 0, 0, 2, 0)]
theorem sgX4_readWord_103_ok : qsg cX4_readWord 4 6 false 103 sgX4_readWord_103 = true := by decide +kernel
def sgX4_readWord_104 : List qEl := [(.istore 4, 2, 0, 0, 0, 0), (.iconst 1, 1, 0, 0, 1, 0), (.istore 5, 2, 0, 0, 0, 0)]
theorem sgX4_readWord_104_ok : qsg cX4_readWord 4 6 false 104 sgX4_readWord_104 = true := by decide +kernel
def sgX4_readWord_109 : List qEl := [(.iload 5, 2, 0, 0, 0, 0), (.iload 4, 2, 0, 0, 0, 0), (.if_icmp .gt 40, 3, 153, 0, 0, 0), (.aload_n 0, 1, 0, 0, 0, 0), (.getfield 18, 3, 4, 0, 0, 0), (.invokevirtual 29, 3, 0, 0, 0, 0), (.ifCond .ne 30, 3, 153, 0, 0, 0), (.aload_n 0, 1, 0, 0, 0, 0), (.iload_n 1, 1, 0, 0, 0, 0), (.iconst 1, 1, 0, 0, 1, 0), (.iadd, 1, 0, 0, 0, 0), (.iload 5, 2, 0, 0, 0, 0), (.iload 4, 2, 0, 0, 0, 0), (.if_icmp .ne 8, 3, 142, 0, 0, 0), (.bipush 93, 2, 0, 0, 93, 0), (.goto 5, 3, 144, 0, 0, 0)]
theorem sgX4_readWord_109_ok : qsg cX4_readWord 4 6 false 109 sgX4_readWord_109 = true := by decide +kernel
def sgX4_readWord_142 : List qEl := [(.bipush 44, 2, 0, 0, 44, 0)]
theorem sgX4_readWord_142_ok : qsg cX4_readWord 4 6 false 142 sgX4_readWord_142 = true := by decide +kernel
def sgX4_readWord_144 : List qEl := [(.invokevirtual 69, 3, 0, 2, 0, 0), (.iinc 5 1, 3, 0, 0, 1, 0), (.goto (-41), 3, 109, 0, 0, 0)]
theorem sgX4_readWord_144_ok : qsg cX4_readWord 4 6 false 144 sgX4_readWord_144 = true := by decide +kernel
def sgX4_readWord_153 : List qEl := [(.aload_n 0, 1, 0, 0, 0, 0), (.getfield 12, 3, 4, 1, 0, 0), (.iload_n 3, 1, 0, 0, 0, 0), (.iconst 0, 1, 0, 0, 0, 0), (.invokevirtual 56, 3, 0, 2, 0, 0), (.return_, 1, 0, 0, 0, 0)]
theorem sgX4_readWord_153_ok : qsg cX4_readWord 4 6 false 153 sgX4_readWord_153 = true := by decide +kernel
end QSG
