section QSG
def sgX12_book_0 : List qEl := [(.aload_n 0, 1, 0, 0, 0, 0), (.iconst 0, 1, 0, 0, 0, 0), (.putfield 3, 3, 12, 0, 0, 0), (.aload_n 0, 1, 0, 0, 0, 0), (.iload_n 1, 1, 0, 0, 0, 0), (.ifCond .lt 22, 3, 29, 0, 0, 0), (.iload_n 1, 1, 0, 0, 0, 0), (.aload_n 0, 1, 0, 0, 0, 0), (.getfield 110, 3, 12, 2, 0, 0), (.if_icmp .gt 14, 3, 29, 0, 0, 0), (.iload_n 1, 1, 0, 0, 0, 0), (.sipush 200, 3, 0, 0, 200, 0), (.if_icmp .gt 7, 3, 29, 0, 0, 0), (.iconst 1, 1, 0, 0, 1, 0), (.goto 4, 3, 30, 0, 0, 0)]
theorem sgX12_book_0_ok : qsg cX12_book 12 8 false 0 sgX12_book_0 = true := by decide +kernel
def sgX12_book_29 : List qEl := [(.iconst 0, 1, 0, 0, 0, 0)]
theorem sgX12_book_29_ok : qsg cX12_book 12 8 false 29 sgX12_book_29 = true := by decide +kernel
def sgX12_book_30 : List qEl := [(.iconst 1, 1, 0, 0, 1, 0), (.iconst 1, 1, 0, 0, 1, 0), (.invokevirtual 247, 3, 0, 3, 0, 0), (.ifCond .ne 5, 3, 40, 0, 0, 0), (.iconst 0, 1, 0, 0, 0, 0), (.ireturn, 1, 0, 0, 0, 0)]
theorem sgX12_book_30_ok : qsg cX12_book 12 8 false 30 sgX12_book_30 = true := by decide +kernel
def sgX12_book_40 : List qEl := [(.aload_n 0, 1, 0, 0, 0, 0), (.iload_n 1, 1, 0, 0, 0, 0), (.invokevirtual 251, 3, 0, 1, 0, 0), (.iconst 0, 1, 0, 0, 0, 0), (.istore_n 2, 1, 0, 0, 0, 0)]
theorem sgX12_book_40_ok : qsg cX12_book 12 8 false 40 sgX12_book_40 = true := by decide +kernel
def sgX12_book_47 : List qEl := [(.aload_n 0, 1, 0, 0, 0, 0), (.invokevirtual 142, 3, 0, 0, 0, 0), (.ifCond .eq 220, 3, 271, 0, 0, 0), (.aload_n 0, 1, 0, 0, 0, 0), (.invokevirtual 254, 3, 0, 0, 0, 0), (.ifCond .eq 213, 3, 271, 0, 0, 0), (.aload_n 0, 1, 0, 0, 0, 0), (.getfield 119, 3, 12, 4, 0, 0), (.istore_n 3, 1, 0, 0, 0, 0), (.iconst 0, 1, 0, 0, 0, 0), (.istore 4, 2, 0, 0, 0, 0), (.iconst 0, 1, 0, 0, 0, 0), (.istore 5, 2, 0, 0, 0, 0)]
theorem sgX12_book_47_ok : qsg cX12_book 12 8 false 47 sgX12_book_47 = true := by decide +kernel
def sgX12_book_72 : List qEl := [(.aload_n 0, 1, 0, 0, 0, 0), (.invokevirtual 142, 3, 0, 0, 0, 0), (.ifCond .eq 107, 3, 183, 0, 0, 0), (.aload_n 0, 1, 0, 0, 0, 0), (.invokevirtual 125, 3, 0, 0, 0, 0), (.invokestatic 146, 3, 0, 1, 0, 0), (.ifCond .eq 97, 3, 183, 0, 0, 0), (.aload_n 0, 1, 0, 0, 0, 0), (.getfield 119, 3, 12, 4, 0, 0), (.istore 6, 2, 0, 0, 0, 0), (.aload_n 0, 1, 0, 0, 0, 0), (.iconst 0, 1, 0, 0, 0, 0), (.aload_n 0, 1, 0, 0, 0, 0), (.getfield 171, 3, 12, 19, 0, 0), (.iconst 1, 1, 0, 0, 1, 0), (.isub, 1, 0, 0, 0, 0), (.invokevirtual 202, 3, 0, 2, 0, 0), (.istore 7, 2, 0, 0, 0, 0), (.aload_n 0, 1, 0, 0, 0, 0), (.invokevirtual 142, 3, 0, 0, 0, 0), (.ifCond .eq 21, 3, 133, 0, 0, 0), (.iload 4, 2, 0, 0, 0, 0), (.iload 7, 2, 0, 0, 0, 0), (.ishr, 1, 0, 0, 0, 0), (.iconst 1, 1, 0, 0, 1, 0), (.iand, 1, 0, 0, 0, 0), (.iconst 1, 1, 0, 0, 1, 0), (.if_icmp .ne 10, 3, 133, 0, 0, 0), (.aload_n 0, 1, 0, 0, 0, 0), (.iconst 2, 1, 0, 0, 2, 0), (.iload 6, 2, 0, 0, 0, 0), (.invokevirtual 149, 3, 0, 2, 0, 0)]
theorem sgX12_book_72_ok : qsg cX12_book 12 8 false 72 sgX12_book_72 = true := by decide +kernel
def sgX12_book_133 : List qEl := [(.aload_n 0, 1, 0, 0, 0, 0), (.invokevirtual 142, 3, 0, 0, 0, 0), (.ifCond .eq 21, 3, 158, 0, 0, 0), (.iload_n 2, 1, 0, 0, 0, 0), (.bipush 8, 2, 0, 0, 8, 0), (.if_icmp .ne 15, 3, 158, 0, 0, 0), (.iload 5, 2, 0, 0, 0, 0), (.ifCond .ne 10, 3, 158, 0, 0, 0), (.aload_n 0, 1, 0, 0, 0, 0), (.iconst 3, 1, 0, 0, 3, 0), (.iload 6, 2, 0, 0, 0, 0), (.invokevirtual 149, 3, 0, 2, 0, 0)]
theorem sgX12_book_133_ok : qsg cX12_book 12 8 false 133 sgX12_book_133 = true := by decide +kernel
def sgX12_book_158 : List qEl := [(.aload_n 0, 1, 0, 0, 0, 0), (.invokevirtual 142, 3, 0, 0, 0, 0), (.ifCond .ne 6, 3, 168, 0, 0, 0), (.goto 18, 3, 183, 0, 0, 0)]
theorem sgX12_book_158_ok : qsg cX12_book 12 8 false 158 sgX12_book_158 = true := by decide +kernel
def sgX12_book_168 : List qEl := [(.iload 4, 2, 0, 0, 0, 0), (.iconst 1, 1, 0, 0, 1, 0), (.iload 7, 2, 0, 0, 0, 0), (.ishl, 1, 0, 0, 0, 0), (.ior, 1, 0, 0, 0, 0), (.istore 4, 2, 0, 0, 0, 0), (.iconst 1, 1, 0, 0, 1, 0), (.istore 5, 2, 0, 0, 0, 0), (.goto (-108), 3, 72, 0, 0, 0)]
theorem sgX12_book_168_ok : qsg cX12_book 12 8 false 168 sgX12_book_168 = true := by decide +kernel
def sgX12_book_183 : List qEl := [(.aload_n 0, 1, 0, 0, 0, 0), (.invokevirtual 142, 3, 0, 0, 0, 0), (.ifCond .eq 24, 3, 211, 0, 0, 0), (.aload_n 0, 1, 0, 0, 0, 0), (.invokevirtual 125, 3, 0, 0, 0, 0), (.bipush 61, 2, 0, 0, 61, 0), (.if_icmp .ne 15, 3, 211, 0, 0, 0), (.iload_n 2, 1, 0, 0, 0, 0), (.bipush 8, 2, 0, 0, 8, 0), (.if_icmp .ne 9, 3, 211, 0, 0, 0), (.aload_n 0, 1, 0, 0, 0, 0), (.iconst 3, 1, 0, 0, 3, 0), (.iload_n 3, 1, 0, 0, 0, 0), (.invokevirtual 149, 3, 0, 2, 0, 0)]
theorem sgX12_book_183_ok : qsg cX12_book 12 8 false 183 sgX12_book_183 = true := by decide +kernel
def sgX12_book_211 : List qEl := [(.aload_n 0, 1, 0, 0, 0, 0), (.bipush 61, 2, 0, 0, 61, 0), (.invokevirtual 269, 3, 0, 1, 0, 0), (.aload_n 0, 1, 0, 0, 0, 0), (.iconst 0, 1, 0, 0, 0, 0), (.sipush 9999, 3, 0, 0, 9999, 0), (.invokevirtual 202, 3, 0, 2, 0, 0), (.istore 6, 2, 0, 0, 0, 0), (.aload_n 0, 1, 0, 0, 0, 0), (.bipush 59, 2, 0, 0, 59, 0), (.invokevirtual 269, 3, 0, 1, 0, 0), (.aload_n 0, 1, 0, 0, 0, 0), (.invokevirtual 142, 3, 0, 0, 0, 0), (.ifCond .ne 6, 3, 243, 0, 0, 0), (.goto 31, 3, 271, 0, 0, 0)]
theorem sgX12_book_211_ok : qsg cX12_book 12 8 false 211 sgX12_book_211 = true := by decide +kernel
def sgX12_book_243 : List qEl := [(.aload_n 0, 1, 0, 0, 0, 0), (.getfield 62, 3, 12, 34, 0, 0), (.iconst 2, 1, 0, 0, 2, 0), (.iload_n 2, 1, 0, 0, 0, 0), (.imul, 1, 0, 0, 0, 0), (.iload 4, 2, 0, 0, 0, 0), (.iastore, 1, 0, 0, 0, 0), (.aload_n 0, 1, 0, 0, 0, 0), (.getfield 62, 3, 12, 34, 0, 0), (.iconst 2, 1, 0, 0, 2, 0), (.iload_n 2, 1, 0, 0, 0, 0), (.imul, 1, 0, 0, 0, 0), (.iconst 1, 1, 0, 0, 1, 0), (.iadd, 1, 0, 0, 0, 0), (.iload 6, 2, 0, 0, 0, 0), (.iastore, 1, 0, 0, 0, 0), (.iinc 2 1, 3, 0, 0, 1, 0), (.goto (-221), 3, 47, 0, 0, 0)]
theorem sgX12_book_243_ok : qsg cX12_book 12 8 false 243 sgX12_book_243 = true := by decide +kernel
def sgX12_book_271 : List qEl := [(.aload_n 0, 1, 0, 0, 0, 0), (.iload_n 2, 1, 0, 0, 0, 0), (.invokevirtual 272, 3, 0, 1, 0, 0), (.istore_n 3, 1, 0, 0, 0, 0), (.aload_n 0, 1, 0, 0, 0, 0), (.getfield 113, 3, 12, 5, 0, 0), (.iconst (-1), 1, 0, 0, (-1), 0), (.if_icmp .eq 5, 3, 287, 0, 0, 0), (.iload_n 3, 1, 0, 0, 0, 0), (.ireturn, 1, 0, 0, 0, 0)]
theorem sgX12_book_271_ok : qsg cX12_book 12 8 false 271 sgX12_book_271 = true := by decide +kernel
def sgX12_book_287 : List qEl := [(.aload_n 0, 1, 0, 0, 0, 0), (.iload_n 2, 1, 0, 0, 0, 0), (.putfield 193, 3, 12, 37, 0, 0), (.aload_n 0, 1, 0, 0, 0, 0), (.aload_n 0, 1, 0, 0, 0, 0), (.getfield 62, 3, 12, 34, 0, 0), (.aload_n 0, 1, 0, 0, 0, 0), (.getfield 65, 3, 12, 35, 0, 0), (.iconst 2, 1, 0, 0, 2, 0), (.iload_n 2, 1, 0, 0, 0, 0), (.imul, 1, 0, 0, 0, 0), (.invokevirtual 186, 3, 0, 3, 0, 0), (.iload_n 3, 1, 0, 0, 0, 0), (.ireturn, 1, 0, 0, 0, 0)]
theorem sgX12_book_287_ok : qsg cX12_book 12 8 false 287 sgX12_book_287 = true := by decide +kernel
def sgX12_told_0 : List qEl := [(.aload_n 0, 1, 0, 0, 0, 0), (.iconst 0, 1, 0, 0, 0, 0), (.putfield 3, 3, 12, 0, 0, 0), (.aload_n 0, 1, 0, 0, 0, 0), (.iload_n 1, 1, 0, 0, 0, 0), (.iconst 0, 1, 0, 0, 0, 0), (.bipush 6, 2, 0, 0, 6, 0), (.invokestatic 324, 3, 0, 3, 0, 0), (.iconst 1, 1, 0, 0, 1, 0), (.iconst 1, 1, 0, 0, 1, 0), (.invokevirtual 247, 3, 0, 3, 0, 0), (.ifCond .ne 5, 3, 23, 0, 0, 0), (.iconst 0, 1, 0, 0, 0, 0), (.ireturn, 1, 0, 0, 0, 0)]
theorem sgX12_told_0_ok : qsg cX12_told 12 2 false 0 sgX12_told_0 = true := by decide +kernel
def sgX12_told_23 : List qEl := [(.iload_n 1, 1, 0, 0, 0, 0), (.iconst 4, 1, 0, 0, 4, 0), (.if_icmp .ge 43, 3, 68, 0, 0, 0), (.iload_n 1, 1, 0, 0, 0, 0), (.ifCond .ne 10, 3, 39, 0, 0, 0), (.aload_n 0, 1, 0, 0, 0, 0), (.getfield 171, 3, 12, 19, 0, 0), (.goto 31, 3, 67, 0, 0, 0)]
theorem sgX12_told_23_ok : qsg cX12_told 12 2 false 23 sgX12_told_23 = true := by decide +kernel
def sgX12_told_39 : List qEl := [(.iload_n 1, 1, 0, 0, 0, 0), (.iconst 1, 1, 0, 0, 1, 0), (.if_icmp .ne 10, 3, 51, 0, 0, 0), (.aload_n 0, 1, 0, 0, 0, 0), (.getfield 174, 3, 12, 20, 0, 0), (.goto 19, 3, 67, 0, 0, 0)]
theorem sgX12_told_39_ok : qsg cX12_told 12 2 false 39 sgX12_told_39 = true := by decide +kernel
def sgX12_told_51 : List qEl := [(.iload_n 1, 1, 0, 0, 0, 0), (.iconst 2, 1, 0, 0, 2, 0), (.if_icmp .ne 10, 3, 63, 0, 0, 0), (.aload_n 0, 1, 0, 0, 0, 0), (.getfield 190, 3, 12, 36, 0, 0), (.goto 7, 3, 67, 0, 0, 0)]
theorem sgX12_told_51_ok : qsg cX12_told 12 2 false 51 sgX12_told_51 = true := by decide +kernel
def sgX12_told_63 : List qEl := [(.aload_n 0, 1, 0, 0, 0, 0), (.getfield 193, 3, 12, 37, 0, 0)]
theorem sgX12_told_63_ok : qsg cX12_told 12 2 false 63 sgX12_told_63 = true := by decide +kernel
def sgX12_told_67 : List qEl := [(.ireturn, 1, 0, 0, 0, 0)]
theorem sgX12_told_67_ok : qsg cX12_told 12 2 false 67 sgX12_told_67 = true := by decide +kernel
def sgX12_told_68 : List qEl := [(.iload_n 1, 1, 0, 0, 0, 0), (.iconst 4, 1, 0, 0, 4, 0), (.if_icmp .ne 10, 3, 80, 0, 0, 0), (.aload_n 0, 1, 0, 0, 0, 0), (.getfield 177, 3, 12, 21, 0, 0), (.goto 19, 3, 96, 0, 0, 0)]
theorem sgX12_told_68_ok : qsg cX12_told 12 2 false 68 sgX12_told_68 = true := by decide +kernel
def sgX12_told_80 : List qEl := [(.iload_n 1, 1, 0, 0, 0, 0), (.iconst 5, 1, 0, 0, 5, 0), (.if_icmp .ne 10, 3, 92, 0, 0, 0), (.aload_n 0, 1, 0, 0, 0, 0), (.getfield 180, 3, 12, 22, 0, 0), (.goto 7, 3, 96, 0, 0, 0)]
theorem sgX12_told_80_ok : qsg cX12_told 12 2 false 80 sgX12_told_80 = true := by decide +kernel
def sgX12_told_92 : List qEl := [(.aload_n 0, 1, 0, 0, 0, 0), (.getfield 183, 3, 12, 23, 0, 0)]
theorem sgX12_told_92_ok : qsg cX12_told 12 2 false 92 sgX12_told_92 = true := by decide +kernel
def sgX12_told_96 : List qEl := [(.ireturn, 1, 0, 0, 0, 0)]
theorem sgX12_told_96_ok : qsg cX12_told 12 2 false 96 sgX12_told_96 = true := by decide +kernel
def sgX12_isDoor_0 : List qEl := [(.aload_n 0, 1, 0, 0, 0, 0), (.iload_n 1, 1, 0, 0, 0, 0), (.iconst 0, 1, 0, 0, 0, 0), (.aload_n 0, 1, 0, 0, 0, 0), (.getfield 171, 3, 12, 19, 0, 0), (.iconst 1, 1, 0, 0, 1, 0), (.isub, 1, 0, 0, 0, 0), (.invokestatic 324, 3, 0, 3, 0, 0), (.iload_n 2, 1, 0, 0, 0, 0), (.iconst 0, 1, 0, 0, 0, 0), (.invokevirtual 247, 3, 0, 3, 0, 0), (.ireturn, 1, 0, 0, 0, 0)]
theorem sgX12_isDoor_0_ok : qsg cX12_isDoor 12 3 false 0 sgX12_isDoor_0 = true := by decide +kernel
def sgX12_isLine_0 : List qEl := [(.aload_n 0, 1, 0, 0, 0, 0), (.iload_n 1, 1, 0, 0, 0, 0), (.iconst 0, 1, 0, 0, 0, 0), (.aload_n 0, 1, 0, 0, 0, 0), (.getfield 190, 3, 12, 36, 0, 0), (.iconst 1, 1, 0, 0, 1, 0), (.isub, 1, 0, 0, 0, 0), (.invokestatic 324, 3, 0, 3, 0, 0), (.iload_n 2, 1, 0, 0, 0, 0), (.iconst 0, 1, 0, 0, 0, 0), (.invokevirtual 247, 3, 0, 3, 0, 0), (.ireturn, 1, 0, 0, 0, 0)]
theorem sgX12_isLine_0_ok : qsg cX12_isLine 12 3 false 0 sgX12_isLine_0 = true := by decide +kernel
def sgX12_door_0 : List qEl := [(.aload_n 0, 1, 0, 0, 0, 0), (.iconst 0, 1, 0, 0, 0, 0), (.putfield 3, 3, 12, 0, 0, 0), (.aload_n 0, 1, 0, 0, 0, 0), (.iload_n 1, 1, 0, 0, 0, 0), (.iconst 1, 1, 0, 0, 1, 0), (.invokevirtual 343, 3, 0, 2, 0, 0), (.ifCond .eq 19, 3, 30, 0, 0, 0), (.aload_n 0, 1, 0, 0, 0, 0), (.iload_n 2, 1, 0, 0, 0, 0), (.iconst 0, 1, 0, 0, 0, 0), (.bipush 9, 2, 0, 0, 9, 0), (.invokestatic 324, 3, 0, 3, 0, 0), (.iconst 2, 1, 0, 0, 2, 0), (.iconst 1, 1, 0, 0, 1, 0), (.invokevirtual 247, 3, 0, 3, 0, 0), (.ifCond .ne 5, 3, 32, 0, 0, 0)]
theorem sgX12_door_0_ok : qsg cX12_door 12 3 false 0 sgX12_door_0 = true := by decide +kernel
def sgX12_door_30 : List qEl := [(.iconst 0, 1, 0, 0, 0, 0), (.ireturn, 1, 0, 0, 0, 0)]
theorem sgX12_door_30_ok : qsg cX12_door 12 3 false 30 sgX12_door_30 = true := by decide +kernel
def sgX12_door_32 : List qEl := [(.aload_n 0, 1, 0, 0, 0, 0), (.getfield 26, 3, 12, 11, 0, 0), (.bipush 10, 2, 0, 0, 10, 0), (.iload_n 1, 1, 0, 0, 0, 0), (.imul, 1, 0, 0, 0, 0), (.iload_n 2, 1, 0, 0, 0, 0), (.iadd, 1, 0, 0, 0, 0), (.iaload, 1, 0, 0, 0, 0), (.ireturn, 1, 0, 0, 0, 0)]
theorem sgX12_door_32_ok : qsg cX12_door 12 3 false 32 sgX12_door_32 = true := by decide +kernel
def sgX12_singer_0 : List qEl := [(.aload_n 0, 1, 0, 0, 0, 0), (.iconst 0, 1, 0, 0, 0, 0), (.putfield 3, 3, 12, 0, 0, 0), (.aload_n 0, 1, 0, 0, 0, 0), (.iload_n 1, 1, 0, 0, 0, 0), (.iconst 0, 1, 0, 0, 0, 0), (.aload_n 0, 1, 0, 0, 0, 0), (.getfield 174, 3, 12, 20, 0, 0), (.iconst 1, 1, 0, 0, 1, 0), (.isub, 1, 0, 0, 0, 0), (.invokestatic 324, 3, 0, 3, 0, 0), (.iconst 1, 1, 0, 0, 1, 0), (.iconst 0, 1, 0, 0, 0, 0), (.invokevirtual 247, 3, 0, 3, 0, 0), (.ifCond .eq 18, 3, 40, 0, 0, 0), (.aload_n 0, 1, 0, 0, 0, 0), (.iload_n 2, 1, 0, 0, 0, 0), (.iconst 0, 1, 0, 0, 0, 0), (.iconst 3, 1, 0, 0, 3, 0), (.invokestatic 324, 3, 0, 3, 0, 0), (.iconst 2, 1, 0, 0, 2, 0), (.iconst 1, 1, 0, 0, 1, 0), (.invokevirtual 247, 3, 0, 3, 0, 0), (.ifCond .ne 5, 3, 42, 0, 0, 0)]
theorem sgX12_singer_0_ok : qsg cX12_singer 12 3 false 0 sgX12_singer_0 = true := by decide +kernel
def sgX12_singer_40 : List qEl := [(.iconst 0, 1, 0, 0, 0, 0), (.ireturn, 1, 0, 0, 0, 0)]
theorem sgX12_singer_40_ok : qsg cX12_singer 12 3 false 40 sgX12_singer_40 = true := by decide +kernel
def sgX12_singer_42 : List qEl := [(.aload_n 0, 1, 0, 0, 0, 0), (.getfield 32, 3, 12, 13, 0, 0), (.iconst 4, 1, 0, 0, 4, 0), (.iload_n 1, 1, 0, 0, 0, 0), (.imul, 1, 0, 0, 0, 0), (.iload_n 2, 1, 0, 0, 0, 0), (.iadd, 1, 0, 0, 0, 0), (.iaload, 1, 0, 0, 0, 0), (.ireturn, 1, 0, 0, 0, 0)]
theorem sgX12_singer_42_ok : qsg cX12_singer 12 3 false 42 sgX12_singer_42 = true := by decide +kernel
def sgX12_xOf_0 : List qEl := [(.aload_n 0, 1, 0, 0, 0, 0), (.getfield 26, 3, 12, 11, 0, 0), (.bipush 10, 2, 0, 0, 10, 0), (.iload_n 1, 1, 0, 0, 0, 0), (.imul, 1, 0, 0, 0, 0), (.iconst 0, 1, 0, 0, 0, 0), (.iadd, 1, 0, 0, 0, 0), (.iaload, 1, 0, 0, 0, 0), (.ireturn, 1, 0, 0, 0, 0)]
theorem sgX12_xOf_0_ok : qsg cX12_xOf 12 2 false 0 sgX12_xOf_0 = true := by decide +kernel
def sgX12_apart_0 : List qEl := [(.iload_n 0, 1, 0, 0, 0, 0), (.iload_n 1, 1, 0, 0, 0, 0), (.if_icmp .ge 9, 3, 11, 0, 0, 0), (.iload_n 1, 1, 0, 0, 0, 0), (.iload_n 0, 1, 0, 0, 0, 0), (.isub, 1, 0, 0, 0, 0), (.goto 6, 3, 14, 0, 0, 0)]
theorem sgX12_apart_0_ok : qsg cX12_apart 12 2 false 0 sgX12_apart_0 = true := by decide +kernel
def sgX12_apart_11 : List qEl := [(.iload_n 0, 1, 0, 0, 0, 0), (.iload_n 1, 1, 0, 0, 0, 0), (.isub, 1, 0, 0, 0, 0)]
theorem sgX12_apart_11_ok : qsg cX12_apart 12 2 false 11 sgX12_apart_11 = true := by decide +kernel
def sgX12_apart_14 : List qEl := [(.ireturn, 1, 0, 0, 0, 0)]
theorem sgX12_apart_14_ok : qsg cX12_apart 12 2 false 14 sgX12_apart_14 = true := by decide +kernel
def sgX12_wayTo_0 : List qEl := [(.iload_n 1, 1, 0, 0, 0, 0), (.ifCond .ne 10, 3, 11, 0, 0, 0), (.aload_n 0, 1, 0, 0, 0, 0), (.getfield 177, 3, 12, 21, 0, 0), (.goto 17, 3, 25, 0, 0, 0)]
theorem sgX12_wayTo_0_ok : qsg cX12_wayTo 12 2 false 0 sgX12_wayTo_0 = true := by decide +kernel
def sgX12_wayTo_11 : List qEl := [(.aload_n 0, 1, 0, 0, 0, 0), (.aload_n 0, 1, 0, 0, 0, 0), (.getfield 59, 3, 12, 33, 0, 0), (.iconst 3, 1, 0, 0, 3, 0), (.iload_n 1, 1, 0, 0, 0, 0), (.imul, 1, 0, 0, 0, 0), (.iconst 3, 1, 0, 0, 3, 0), (.isub, 1, 0, 0, 0, 0), (.iaload, 1, 0, 0, 0, 0), (.invokevirtual 347, 3, 0, 1, 0, 0)]
theorem sgX12_wayTo_11_ok : qsg cX12_wayTo 12 2 false 11 sgX12_wayTo_11 = true := by decide +kernel
def sgX12_wayTo_25 : List qEl := [(.aload_n 0, 1, 0, 0, 0, 0), (.aload_n 0, 1, 0, 0, 0, 0), (.getfield 59, 3, 12, 33, 0, 0), (.iconst 3, 1, 0, 0, 3, 0), (.iload_n 1, 1, 0, 0, 0, 0), (.imul, 1, 0, 0, 0, 0), (.iaload, 1, 0, 0, 0, 0), (.invokevirtual 347, 3, 0, 1, 0, 0), (.invokestatic 350, 3, 0, 2, 0, 0), (.ireturn, 1, 0, 0, 0, 0)]
theorem sgX12_wayTo_25_ok : qsg cX12_wayTo 12 2 false 25 sgX12_wayTo_25 = true := by decide +kernel
def sgX12_line_0 : List qEl := [(.aload_n 0, 1, 0, 0, 0, 0), (.iconst 0, 1, 0, 0, 0, 0), (.putfield 3, 3, 12, 0, 0, 0), (.aload_n 0, 1, 0, 0, 0, 0), (.iload_n 1, 1, 0, 0, 0, 0), (.iconst 1, 1, 0, 0, 1, 0), (.invokevirtual 353, 3, 0, 2, 0, 0), (.ifCond .eq 18, 3, 29, 0, 0, 0), (.aload_n 0, 1, 0, 0, 0, 0), (.iload_n 2, 1, 0, 0, 0, 0), (.iconst 0, 1, 0, 0, 0, 0), (.iconst 3, 1, 0, 0, 3, 0), (.invokestatic 324, 3, 0, 3, 0, 0), (.iconst 2, 1, 0, 0, 2, 0), (.iconst 1, 1, 0, 0, 1, 0), (.invokevirtual 247, 3, 0, 3, 0, 0), (.ifCond .ne 5, 3, 31, 0, 0, 0)]
theorem sgX12_line_0_ok : qsg cX12_line 12 3 false 0 sgX12_line_0 = true := by decide +kernel
def sgX12_line_29 : List qEl := [(.iconst 0, 1, 0, 0, 0, 0), (.ireturn, 1, 0, 0, 0, 0)]
theorem sgX12_line_29_ok : qsg cX12_line 12 3 false 29 sgX12_line_29 = true := by decide +kernel
def sgX12_line_31 : List qEl := [(.iload_n 2, 1, 0, 0, 0, 0), (.iconst 3, 1, 0, 0, 3, 0), (.if_icmp .ne 11, 3, 44, 0, 0, 0), (.aload_n 0, 1, 0, 0, 0, 0), (.iload_n 1, 1, 0, 0, 0, 0), (.invokevirtual 356, 3, 0, 1, 0, 0), (.goto 13, 3, 54, 0, 0, 0)]
theorem sgX12_line_31_ok : qsg cX12_line 12 3 false 31 sgX12_line_31 = true := by decide +kernel
def sgX12_line_44 : List qEl := [(.aload_n 0, 1, 0, 0, 0, 0), (.getfield 59, 3, 12, 33, 0, 0), (.iconst 3, 1, 0, 0, 3, 0), (.iload_n 1, 1, 0, 0, 0, 0), (.imul, 1, 0, 0, 0, 0), (.iload_n 2, 1, 0, 0, 0, 0), (.iadd, 1, 0, 0, 0, 0), (.iaload, 1, 0, 0, 0, 0)]
theorem sgX12_line_44_ok : qsg cX12_line 12 3 false 44 sgX12_line_44 = true := by decide +kernel
def sgX12_line_54 : List qEl := [(.ireturn, 1, 0, 0, 0, 0)]
theorem sgX12_line_54_ok : qsg cX12_line 12 3 false 54 sgX12_line_54 = true := by decide +kernel
def sgX12_gives_0 : List qEl := [(.aload_n 0, 1, 0, 0, 0, 0), (.iconst 0, 1, 0, 0, 0, 0), (.putfield 3, 3, 12, 0, 0, 0), (.aload_n 0, 1, 0, 0, 0, 0), (.iload_n 1, 1, 0, 0, 0, 0), (.iconst 1, 1, 0, 0, 1, 0), (.invokevirtual 343, 3, 0, 2, 0, 0), (.ifCond .eq 37, 3, 48, 0, 0, 0), (.aload_n 0, 1, 0, 0, 0, 0), (.iload_n 2, 1, 0, 0, 0, 0), (.iconst 0, 1, 0, 0, 0, 0), (.bipush 60, 2, 0, 0, 60, 0), (.invokestatic 324, 3, 0, 3, 0, 0), (.ifCond .eq 17, 3, 39, 0, 0, 0), (.iload_n 3, 1, 0, 0, 0, 0), (.iconst 0, 1, 0, 0, 0, 0), (.bipush 9, 2, 0, 0, 9, 0), (.invokestatic 324, 3, 0, 3, 0, 0), (.ifCond .eq 7, 3, 39, 0, 0, 0), (.iconst 1, 1, 0, 0, 1, 0), (.goto 4, 3, 40, 0, 0, 0)]
theorem sgX12_gives_0_ok : qsg cX12_gives 12 4 false 0 sgX12_gives_0 = true := by decide +kernel
def sgX12_gives_39 : List qEl := [(.iconst 0, 1, 0, 0, 0, 0)]
theorem sgX12_gives_39_ok : qsg cX12_gives 12 4 false 39 sgX12_gives_39 = true := by decide +kernel
def sgX12_gives_40 : List qEl := [(.iconst 2, 1, 0, 0, 2, 0), (.iconst 1, 1, 0, 0, 1, 0), (.invokevirtual 247, 3, 0, 3, 0, 0), (.ifCond .ne 5, 3, 50, 0, 0, 0)]
theorem sgX12_gives_40_ok : qsg cX12_gives 12 4 false 40 sgX12_gives_40 = true := by decide +kernel
def sgX12_gives_48 : List qEl := [(.iconst 0, 1, 0, 0, 0, 0), (.ireturn, 1, 0, 0, 0, 0)]
theorem sgX12_gives_48_ok : qsg cX12_gives 12 4 false 48 sgX12_gives_48 = true := by decide +kernel
def sgX12_gives_50 : List qEl := [(.aload_n 0, 1, 0, 0, 0, 0), (.iload_n 1, 1, 0, 0, 0, 0), (.iload_n 2, 1, 0, 0, 0, 0), (.iload_n 3, 1, 0, 0, 0, 0), (.invokevirtual 359, 3, 0, 3, 0, 0), (.ireturn, 1, 0, 0, 0, 0)]
theorem sgX12_gives_50_ok : qsg cX12_gives 12 4 false 50 sgX12_gives_50 = true := by decide +kernel
def sgX12_isRing_0 : List qEl := [(.iload_n 1, 1, 0, 0, 0, 0), (.iconst 1, 1, 0, 0, 1, 0), (.if_icmp .ne 7, 3, 9, 0, 0, 0), (.iload_n 2, 1, 0, 0, 0, 0), (.ifCond .eq 13, 3, 19, 0, 0, 0)]
theorem sgX12_isRing_0_ok : qsg cX12_isRing 12 3 false 0 sgX12_isRing_0 = true := by decide +kernel
def sgX12_isRing_9 : List qEl := [(.iload_n 1, 1, 0, 0, 0, 0), (.iconst 2, 1, 0, 0, 2, 0), (.if_icmp .ne 12, 3, 23, 0, 0, 0), (.iload_n 2, 1, 0, 0, 0, 0), (.iload_n 0, 1, 0, 0, 0, 0), (.if_icmp .ne 7, 3, 23, 0, 0, 0)]
theorem sgX12_isRing_9_ok : qsg cX12_isRing 12 3 false 9 sgX12_isRing_9 = true := by decide +kernel
def sgX12_isRing_19 : List qEl := [(.iconst 1, 1, 0, 0, 1, 0), (.goto 4, 3, 24, 0, 0, 0)]
theorem sgX12_isRing_19_ok : qsg cX12_isRing 12 3 false 19 sgX12_isRing_19 = true := by decide +kernel
def sgX12_isRing_23 : List qEl := [(.iconst 0, 1, 0, 0, 0, 0)]
theorem sgX12_isRing_23_ok : qsg cX12_isRing 12 3 false 23 sgX12_isRing_23 = true := by decide +kernel
def sgX12_isRing_24 : List qEl := [(.ireturn, 1, 0, 0, 0, 0)]
theorem sgX12_isRing_24_ok : qsg cX12_isRing 12 3 false 24 sgX12_isRing_24 = true := by decide +kernel
def sgX12_findMeans_0 : List qEl := [(.bipush 10, 2, 0, 0, 10, 0), (.iload_n 1, 1, 0, 0, 0, 0), (.imul, 1, 0, 0, 0, 0), (.istore 5, 2, 0, 0, 0, 0), (.iload_n 2, 1, 0, 0, 0, 0), (.iload_n 3, 1, 0, 0, 0, 0), (.ifCond .ne 7, 3, 15, 0, 0, 0), (.iconst 0, 1, 0, 0, 0, 0), (.goto 4, 3, 16, 0, 0, 0)]
theorem sgX12_findMeans_0_ok : qsg cX12_findMeans 12 15 false 0 sgX12_findMeans_0 = true := by decide +kernel
def sgX12_findMeans_15 : List qEl := [(.iconst 1, 1, 0, 0, 1, 0)]
theorem sgX12_findMeans_15_ok : qsg cX12_findMeans 12 15 false 15 sgX12_findMeans_15 = true := by decide +kernel
def sgX12_findMeans_16 : List qEl := [(.iadd, 1, 0, 0, 0, 0), (.istore 6, 2, 0, 0, 0, 0), (.ldc2_w 362, 3, 0, 0, 0, 16777216), (.aload_n 0, 1, 0, 0, 0, 0), (.getfield 26, 3, 12, 11, 0, 0), (.iload 5, 2, 0, 0, 0, 0), (.iconst 3, 1, 0, 0, 3, 0), (.iadd, 1, 0, 0, 0, 0), (.iaload, 1, 0, 0, 0, 0), (.i2l, 1, 0, 0, 0, 0), (.lmul, 1, 0, 0, 0, 0), (.lstore 7, 2, 0, 0, 0, 0), (.iconst 0, 1, 0, 0, 0, 0), (.istore 9, 2, 0, 0, 0, 0), (.iconst 0, 1, 0, 0, 0, 0), (.istore 10, 2, 0, 0, 0, 0), (.aload_n 0, 1, 0, 0, 0, 0), (.lconst 0, 1, 0, 0, 0, 0), (.putfield 364, 3, 12, 38, 0, 0), (.aload_n 0, 1, 0, 0, 0, 0), (.lconst 0, 1, 0, 0, 0, 0), (.putfield 368, 3, 12, 39, 0, 0), (.aload_n 0, 1, 0, 0, 0, 0), (.lconst 0, 1, 0, 0, 0, 0), (.putfield 370, 3, 12, 41, 0, 0), (.iconst 0, 1, 0, 0, 0, 0), (.istore 11, 2, 0, 0, 0, 0)]
theorem sgX12_findMeans_16_ok : qsg cX12_findMeans 12 15 false 16 sgX12_findMeans_16 = true := by decide +kernel
def sgX12_findMeans_59 : List qEl := [(.iload 11, 2, 0, 0, 0, 0), (.iload 6, 2, 0, 0, 0, 0), (.if_icmp .ge 145, 3, 208, 0, 0, 0), (.iload_n 2, 1, 0, 0, 0, 0), (.iload_n 3, 1, 0, 0, 0, 0), (.iload 11, 2, 0, 0, 0, 0), (.invokestatic 373, 3, 0, 3, 0, 0), (.istore 12, 2, 0, 0, 0, 0), (.lload 7, 2, 0, 0, 0, 0), (.ldc2_w 376, 3, 0, 0, 0, 16), (.ldiv, 1, 0, 0, 0, 0), (.aload_n 0, 1, 0, 0, 0, 0), (.getfield 26, 3, 12, 11, 0, 0), (.iload 5, 2, 0, 0, 0, 0), (.iload 12, 2, 0, 0, 0, 0), (.ifCond .eq 7, 3, 96, 0, 0, 0), (.iconst 5, 1, 0, 0, 5, 0), (.goto 4, 3, 97, 0, 0, 0)]
theorem sgX12_findMeans_59_ok : qsg cX12_findMeans 12 15 false 59 sgX12_findMeans_59 = true := by decide +kernel
def sgX12_findMeans_96 : List qEl := [(.iconst 4, 1, 0, 0, 4, 0)]
theorem sgX12_findMeans_96_ok : qsg cX12_findMeans 12 15 false 96 sgX12_findMeans_96 = true := by decide +kernel
def sgX12_findMeans_97 : List qEl := [(.iadd, 1, 0, 0, 0, 0), (.iaload, 1, 0, 0, 0, 0), (.i2l, 1, 0, 0, 0, 0), (.lmul, 1, 0, 0, 0, 0), (.lstore 13, 2, 0, 0, 0, 0), (.iload 9, 2, 0, 0, 0, 0), (.iload 12, 2, 0, 0, 0, 0), (.ifCond .eq 7, 3, 114, 0, 0, 0), (.iconst 1, 1, 0, 0, 1, 0), (.goto 7, 3, 118, 0, 0, 0)]
theorem sgX12_findMeans_97_ok : qsg cX12_findMeans 12 15 false 97 sgX12_findMeans_97 = true := by decide +kernel
def sgX12_findMeans_114 : List qEl := [(.aload_n 0, 1, 0, 0, 0, 0), (.getfield 180, 3, 12, 22, 0, 0)]
theorem sgX12_findMeans_114_ok : qsg cX12_findMeans 12 15 false 114 sgX12_findMeans_114 = true := by decide +kernel
def sgX12_findMeans_118 : List qEl := [(.iadd, 1, 0, 0, 0, 0), (.istore 9, 2, 0, 0, 0, 0), (.iload 10, 2, 0, 0, 0, 0), (.iload 12, 2, 0, 0, 0, 0), (.ifCond .eq 7, 3, 132, 0, 0, 0), (.iconst 0, 1, 0, 0, 0, 0), (.goto 4, 3, 133, 0, 0, 0)]
theorem sgX12_findMeans_118_ok : qsg cX12_findMeans 12 15 false 118 sgX12_findMeans_118 = true := by decide +kernel
def sgX12_findMeans_132 : List qEl := [(.iconst 1, 1, 0, 0, 1, 0)]
theorem sgX12_findMeans_132_ok : qsg cX12_findMeans 12 15 false 132 sgX12_findMeans_132 = true := by decide +kernel
def sgX12_findMeans_133 : List qEl := [(.iadd, 1, 0, 0, 0, 0), (.istore 10, 2, 0, 0, 0, 0), (.lload 7, 2, 0, 0, 0, 0), (.lload 13, 2, 0, 0, 0, 0), (.lsub, 1, 0, 0, 0, 0), (.lstore 7, 2, 0, 0, 0, 0), (.aload_n 0, 1, 0, 0, 0, 0), (.dup, 1, 0, 0, 0, 0), (.getfield 364, 3, 12, 38, 0, 0), (.lload 13, 2, 0, 0, 0, 0), (.ladd, 1, 0, 0, 0, 0), (.putfield 364, 3, 12, 38, 0, 0), (.aload_n 0, 1, 0, 0, 0, 0), (.dup, 1, 0, 0, 0, 0), (.getfield 368, 3, 12, 39, 0, 0), (.lload 13, 2, 0, 0, 0, 0), (.aload_n 0, 1, 0, 0, 0, 0), (.iload_n 1, 1, 0, 0, 0, 0), (.iload 10, 2, 0, 0, 0, 0), (.iload 4, 2, 0, 0, 0, 0), (.invokevirtual 359, 3, 0, 3, 0, 0), (.i2l, 1, 0, 0, 0, 0), (.lmul, 1, 0, 0, 0, 0), (.ladd, 1, 0, 0, 0, 0), (.putfield 368, 3, 12, 39, 0, 0), (.aload_n 0, 1, 0, 0, 0, 0), (.dup, 1, 0, 0, 0, 0), (.getfield 370, 3, 12, 41, 0, 0), (.lload 13, 2, 0, 0, 0, 0), (.iload 9, 2, 0, 0, 0, 0), (.aload_n 0, 1, 0, 0, 0, 0), (.getfield 26, 3, 12, 11, 0, 0), (.iload 5, 2, 0, 0, 0, 0), (.bipush 9, 2, 0, 0, 9, 0), (.iadd, 1, 0, 0, 0, 0), (.iaload, 1, 0, 0, 0, 0), (.iadd, 1, 0, 0, 0, 0), (.i2l, 1, 0, 0, 0, 0), (.lmul, 1, 0, 0, 0, 0), (.ladd, 1, 0, 0, 0, 0), (.putfield 370, 3, 12, 41, 0, 0), (.iinc 11 1, 3, 0, 0, 1, 0), (.goto (-146), 3, 59, 0, 0, 0)]
theorem sgX12_findMeans_133_ok : qsg cX12_findMeans 12 15 false 133 sgX12_findMeans_133 = true := by decide +kernel
def sgX12_findMeans_208 : List qEl := [(.aload_n 0, 1, 0, 0, 0, 0), (.dup, 1, 0, 0, 0, 0), (.getfield 370, 3, 12, 41, 0, 0), (.ldc2_w 378, 3, 0, 0, 0, 268435456), (.aload_n 0, 1, 0, 0, 0, 0), (.getfield 364, 3, 12, 38, 0, 0), (.lsub, 1, 0, 0, 0, 0), (.iload 9, 2, 0, 0, 0, 0), (.i2l, 1, 0, 0, 0, 0), (.lmul, 1, 0, 0, 0, 0), (.ldc2_w 378, 3, 0, 0, 0, 268435456), (.iconst 2, 1, 0, 0, 2, 0), (.aload_n 0, 1, 0, 0, 0, 0), (.getfield 26, 3, 12, 11, 0, 0), (.iload 5, 2, 0, 0, 0, 0), (.bipush 8, 2, 0, 0, 8, 0), (.iadd, 1, 0, 0, 0, 0), (.iaload, 1, 0, 0, 0, 0), (.imul, 1, 0, 0, 0, 0), (.i2l, 1, 0, 0, 0, 0), (.lmul, 1, 0, 0, 0, 0), (.ladd, 1, 0, 0, 0, 0), (.ladd, 1, 0, 0, 0, 0), (.putfield 370, 3, 12, 41, 0, 0), (.aload_n 0, 1, 0, 0, 0, 0), (.aload_n 0, 1, 0, 0, 0, 0), (.getfield 364, 3, 12, 38, 0, 0), (.aload_n 0, 1, 0, 0, 0, 0), (.getfield 26, 3, 12, 11, 0, 0), (.iload 5, 2, 0, 0, 0, 0), (.iconst 2, 1, 0, 0, 2, 0), (.iadd, 1, 0, 0, 0, 0), (.iaload, 1, 0, 0, 0, 0), (.i2l, 1, 0, 0, 0, 0), (.lmul, 1, 0, 0, 0, 0), (.putfield 380, 3, 12, 40, 0, 0), (.aload_n 0, 1, 0, 0, 0, 0), (.iconst 2, 1, 0, 0, 2, 0), (.aload_n 0, 1, 0, 0, 0, 0), (.getfield 26, 3, 12, 11, 0, 0), (.iload 5, 2, 0, 0, 0, 0), (.bipush 8, 2, 0, 0, 8, 0), (.iadd, 1, 0, 0, 0, 0), (.iaload, 1, 0, 0, 0, 0), (.imul, 1, 0, 0, 0, 0), (.iload 9, 2, 0, 0, 0, 0), (.iadd, 1, 0, 0, 0, 0), (.aload_n 0, 1, 0, 0, 0, 0), (.getfield 26, 3, 12, 11, 0, 0), (.iload 5, 2, 0, 0, 0, 0), (.bipush 9, 2, 0, 0, 9, 0), (.iadd, 1, 0, 0, 0, 0), (.iaload, 1, 0, 0, 0, 0), (.iadd, 1, 0, 0, 0, 0), (.putfield 382, 3, 12, 42, 0, 0), (.return_, 1, 0, 0, 0, 0)]
theorem sgX12_findMeans_208_ok : qsg cX12_findMeans 12 15 false 208 sgX12_findMeans_208 = true := by decide +kernel
def sgX12_least_0 : List qEl := [(.lload_n 0, 1, 0, 0, 0, 0), (.lstore 5, 2, 0, 0, 0, 0), (.lload_n 2, 1, 0, 0, 0, 0), (.lstore 7, 2, 0, 0, 0, 0)]
theorem sgX12_least_0_ok : qsg cX12_least 12 11 false 0 sgX12_least_0 = true := by decide +kernel
def sgX12_least_6 : List qEl := [(.lload 7, 2, 0, 0, 0, 0), (.lconst 0, 1, 0, 0, 0, 0), (.lcmp, 1, 0, 0, 0, 0), (.ifCond .eq 21, 3, 31, 0, 0, 0), (.lload 5, 2, 0, 0, 0, 0), (.lload 7, 2, 0, 0, 0, 0), (.lrem, 1, 0, 0, 0, 0), (.lstore 9, 2, 0, 0, 0, 0), (.lload 7, 2, 0, 0, 0, 0), (.lstore 5, 2, 0, 0, 0, 0), (.lload 9, 2, 0, 0, 0, 0), (.lstore 7, 2, 0, 0, 0, 0), (.goto (-22), 3, 6, 0, 0, 0)]
theorem sgX12_least_6_ok : qsg cX12_least 12 11 false 6 sgX12_least_6 = true := by decide +kernel
def sgX12_least_31 : List qEl := [(.iload 4, 2, 0, 0, 0, 0), (.ifCond .ne 7, 3, 40, 0, 0, 0), (.lload_n 0, 1, 0, 0, 0, 0), (.goto 4, 3, 41, 0, 0, 0)]
theorem sgX12_least_31_ok : qsg cX12_least 12 11 false 31 sgX12_least_31 = true := by decide +kernel
def sgX12_least_40 : List qEl := [(.lload_n 2, 1, 0, 0, 0, 0)]
theorem sgX12_least_40_ok : qsg cX12_least 12 11 false 40 sgX12_least_40 = true := by decide +kernel
def sgX12_least_41 : List qEl := [(.lload 5, 2, 0, 0, 0, 0), (.ldiv, 1, 0, 0, 0, 0), (.lreturn, 1, 0, 0, 0, 0)]
theorem sgX12_least_41_ok : qsg cX12_least 12 11 false 41 sgX12_least_41 = true := by decide +kernel
def sgX12_meanOf_0 : List qEl := [(.iload_n 1, 1, 0, 0, 0, 0), (.ifCond .ne 10, 3, 11, 0, 0, 0), (.aload_n 0, 1, 0, 0, 0, 0), (.getfield 364, 3, 12, 38, 0, 0), (.goto 31, 3, 39, 0, 0, 0)]
theorem sgX12_meanOf_0_ok : qsg cX12_meanOf 12 2 false 0 sgX12_meanOf_0 = true := by decide +kernel
def sgX12_meanOf_11 : List qEl := [(.iload_n 1, 1, 0, 0, 0, 0), (.iconst 1, 1, 0, 0, 1, 0), (.if_icmp .ne 10, 3, 23, 0, 0, 0), (.aload_n 0, 1, 0, 0, 0, 0), (.getfield 368, 3, 12, 39, 0, 0), (.goto 19, 3, 39, 0, 0, 0)]
theorem sgX12_meanOf_11_ok : qsg cX12_meanOf 12 2 false 11 sgX12_meanOf_11 = true := by decide +kernel
def sgX12_meanOf_23 : List qEl := [(.iload_n 1, 1, 0, 0, 0, 0), (.iconst 2, 1, 0, 0, 2, 0), (.if_icmp .ne 10, 3, 35, 0, 0, 0), (.aload_n 0, 1, 0, 0, 0, 0), (.getfield 380, 3, 12, 40, 0, 0), (.goto 7, 3, 39, 0, 0, 0)]
theorem sgX12_meanOf_23_ok : qsg cX12_meanOf 12 2 false 23 sgX12_meanOf_23 = true := by decide +kernel
def sgX12_meanOf_35 : List qEl := [(.aload_n 0, 1, 0, 0, 0, 0), (.getfield 370, 3, 12, 41, 0, 0)]
theorem sgX12_meanOf_35_ok : qsg cX12_meanOf 12 2 false 35 sgX12_meanOf_35 = true := by decide +kernel
def sgX12_meanOf_39 : List qEl := [(.lreturn, 1, 0, 0, 0, 0)]
theorem sgX12_meanOf_39_ok : qsg cX12_meanOf 12 2 false 39 sgX12_meanOf_39 = true := by decide +kernel
def sgX12_mean_0 : List qEl := [(.aload_n 0, 1, 0, 0, 0, 0), (.iconst 0, 1, 0, 0, 0, 0), (.putfield 3, 3, 12, 0, 0, 0), (.aload_n 0, 1, 0, 0, 0, 0), (.iload_n 1, 1, 0, 0, 0, 0), (.iconst 1, 1, 0, 0, 1, 0), (.invokevirtual 343, 3, 0, 2, 0, 0), (.ifCond .eq 55, 3, 66, 0, 0, 0), (.aload_n 0, 1, 0, 0, 0, 0), (.iload_n 2, 1, 0, 0, 0, 0), (.iconst 0, 1, 0, 0, 0, 0), (.iconst 5, 1, 0, 0, 5, 0), (.invokestatic 324, 3, 0, 3, 0, 0), (.ifCond .eq 36, 3, 57, 0, 0, 0), (.iload_n 3, 1, 0, 0, 0, 0), (.iconst 0, 1, 0, 0, 0, 0), (.iconst 2, 1, 0, 0, 2, 0), (.invokestatic 324, 3, 0, 3, 0, 0), (.ifCond .eq 27, 3, 57, 0, 0, 0), (.iload 4, 2, 0, 0, 0, 0), (.iconst 0, 1, 0, 0, 0, 0), (.iconst 3, 1, 0, 0, 3, 0), (.invokestatic 324, 3, 0, 3, 0, 0), (.ifCond .eq 17, 3, 57, 0, 0, 0), (.iload 5, 2, 0, 0, 0, 0), (.iconst 0, 1, 0, 0, 0, 0), (.iconst 1, 1, 0, 0, 1, 0), (.invokestatic 324, 3, 0, 3, 0, 0), (.ifCond .eq 7, 3, 57, 0, 0, 0), (.iconst 1, 1, 0, 0, 1, 0), (.goto 4, 3, 58, 0, 0, 0)]
theorem sgX12_mean_0_ok : qsg cX12_mean 12 6 false 0 sgX12_mean_0 = true := by decide +kernel
def sgX12_mean_57 : List qEl := [(.iconst 0, 1, 0, 0, 0, 0)]
theorem sgX12_mean_57_ok : qsg cX12_mean 12 6 false 57 sgX12_mean_57 = true := by decide +kernel
def sgX12_mean_58 : List qEl := [(.iconst 2, 1, 0, 0, 2, 0), (.iconst 1, 1, 0, 0, 1, 0), (.invokevirtual 247, 3, 0, 3, 0, 0), (.ifCond .ne 5, 3, 68, 0, 0, 0)]
theorem sgX12_mean_58_ok : qsg cX12_mean 12 6 false 58 sgX12_mean_58 = true := by decide +kernel
def sgX12_mean_66 : List qEl := [(.lconst 0, 1, 0, 0, 0, 0), (.lreturn, 1, 0, 0, 0, 0)]
theorem sgX12_mean_66_ok : qsg cX12_mean 12 6 false 66 sgX12_mean_66 = true := by decide +kernel
def sgX12_mean_68 : List qEl := [(.aload_n 0, 1, 0, 0, 0, 0), (.iload_n 1, 1, 0, 0, 0, 0), (.iload_n 2, 1, 0, 0, 0, 0), (.iload_n 3, 1, 0, 0, 0, 0), (.iconst 0, 1, 0, 0, 0, 0), (.invokevirtual 385, 3, 0, 4, 0, 0), (.aload_n 0, 1, 0, 0, 0, 0), (.iload 4, 2, 0, 0, 0, 0), (.invokevirtual 389, 3, 0, 1, 0, 0), (.ldc2_w 378, 3, 0, 0, 0, 268435456), (.iload 5, 2, 0, 0, 0, 0), (.invokestatic 393, 3, 0, 3, 0, 0), (.lreturn, 1, 0, 0, 0, 0)]
theorem sgX12_mean_68_ok : qsg cX12_mean 12 6 false 68 sgX12_mean_68 = true := by decide +kernel
def sgX12_findLine_0 : List qEl := [(.aload_n 0, 1, 0, 0, 0, 0), (.aload_n 0, 1, 0, 0, 0, 0), (.getfield 59, 3, 12, 33, 0, 0), (.iconst 3, 1, 0, 0, 3, 0), (.iload_n 1, 1, 0, 0, 0, 0), (.imul, 1, 0, 0, 0, 0), (.iaload, 1, 0, 0, 0, 0), (.aload_n 0, 1, 0, 0, 0, 0), (.getfield 59, 3, 12, 33, 0, 0), (.iconst 3, 1, 0, 0, 3, 0), (.iload_n 1, 1, 0, 0, 0, 0), (.imul, 1, 0, 0, 0, 0), (.iconst 1, 1, 0, 0, 1, 0), (.iadd, 1, 0, 0, 0, 0), (.iaload, 1, 0, 0, 0, 0), (.aload_n 0, 1, 0, 0, 0, 0), (.getfield 59, 3, 12, 33, 0, 0), (.iconst 3, 1, 0, 0, 3, 0), (.iload_n 1, 1, 0, 0, 0, 0), (.imul, 1, 0, 0, 0, 0), (.iconst 2, 1, 0, 0, 2, 0), (.iadd, 1, 0, 0, 0, 0), (.iaload, 1, 0, 0, 0, 0), (.iload_n 1, 1, 0, 0, 0, 0), (.invokevirtual 385, 3, 0, 4, 0, 0), (.return_, 1, 0, 0, 0, 0)]
theorem sgX12_findLine_0_ok : qsg cX12_findLine 12 2 false 0 sgX12_findLine_0 = true := by decide +kernel
def sgX12_sumFrom_0 : List qEl := [(.lconst 0, 1, 0, 0, 0, 0), (.lstore_n 3, 1, 0, 0, 0, 0), (.iload_n 1, 1, 0, 0, 0, 0), (.istore 5, 2, 0, 0, 0, 0)]
theorem sgX12_sumFrom_0_ok : qsg cX12_sumFrom 12 6 false 0 sgX12_sumFrom_0 = true := by decide +kernel
def sgX12_sumFrom_5 : List qEl := [(.iload 5, 2, 0, 0, 0, 0), (.aload_n 0, 1, 0, 0, 0, 0), (.getfield 190, 3, 12, 36, 0, 0), (.if_icmp .ge 44, 3, 55, 0, 0, 0), (.aload_n 0, 1, 0, 0, 0, 0), (.iload 5, 2, 0, 0, 0, 0), (.invokevirtual 396, 3, 0, 1, 0, 0), (.lload_n 3, 1, 0, 0, 0, 0), (.aload_n 0, 1, 0, 0, 0, 0), (.iload_n 2, 1, 0, 0, 0, 0), (.invokevirtual 389, 3, 0, 1, 0, 0), (.iload_n 2, 1, 0, 0, 0, 0), (.iconst 3, 1, 0, 0, 3, 0), (.if_icmp .ne 17, 3, 45, 0, 0, 0), (.ldc2_w 378, 3, 0, 0, 0, 268435456), (.aload_n 0, 1, 0, 0, 0, 0), (.iload 5, 2, 0, 0, 0, 0), (.invokevirtual 356, 3, 0, 1, 0, 0), (.i2l, 1, 0, 0, 0, 0), (.lmul, 1, 0, 0, 0, 0), (.goto 4, 3, 46, 0, 0, 0)]
theorem sgX12_sumFrom_5_ok : qsg cX12_sumFrom 12 6 false 5 sgX12_sumFrom_5 = true := by decide +kernel
def sgX12_sumFrom_45 : List qEl := [(.lconst 0, 1, 0, 0, 0, 0)]
theorem sgX12_sumFrom_45_ok : qsg cX12_sumFrom 12 6 false 45 sgX12_sumFrom_45 = true := by decide +kernel
def sgX12_sumFrom_46 : List qEl := [(.ladd, 1, 0, 0, 0, 0), (.ladd, 1, 0, 0, 0, 0), (.lstore_n 3, 1, 0, 0, 0, 0), (.iinc 5 1, 3, 0, 0, 1, 0), (.goto (-47), 3, 5, 0, 0, 0)]
theorem sgX12_sumFrom_46_ok : qsg cX12_sumFrom 12 6 false 46 sgX12_sumFrom_46 = true := by decide +kernel
def sgX12_sumFrom_55 : List qEl := [(.lload_n 3, 1, 0, 0, 0, 0), (.lreturn, 1, 0, 0, 0, 0)]
theorem sgX12_sumFrom_55_ok : qsg cX12_sumFrom 12 6 false 55 sgX12_sumFrom_55 = true := by decide +kernel
def sgX12_planned_0 : List qEl := [(.aload_n 0, 1, 0, 0, 0, 0), (.iconst 0, 1, 0, 0, 0, 0), (.putfield 3, 3, 12, 0, 0, 0), (.aload_n 0, 1, 0, 0, 0, 0), (.iload_n 1, 1, 0, 0, 0, 0), (.iconst 0, 1, 0, 0, 0, 0), (.iconst 3, 1, 0, 0, 3, 0), (.invokestatic 324, 3, 0, 3, 0, 0), (.ifCond .eq 16, 3, 28, 0, 0, 0), (.iload_n 2, 1, 0, 0, 0, 0), (.iconst 0, 1, 0, 0, 0, 0), (.iconst 1, 1, 0, 0, 1, 0), (.invokestatic 324, 3, 0, 3, 0, 0), (.ifCond .eq 7, 3, 28, 0, 0, 0), (.iconst 1, 1, 0, 0, 1, 0), (.goto 4, 3, 29, 0, 0, 0)]
theorem sgX12_planned_0_ok : qsg cX12_planned 12 3 false 0 sgX12_planned_0 = true := by decide +kernel
def sgX12_planned_28 : List qEl := [(.iconst 0, 1, 0, 0, 0, 0)]
theorem sgX12_planned_28_ok : qsg cX12_planned 12 3 false 28 sgX12_planned_28 = true := by decide +kernel
def sgX12_planned_29 : List qEl := [(.iconst 1, 1, 0, 0, 1, 0), (.iconst 1, 1, 0, 0, 1, 0), (.invokevirtual 247, 3, 0, 3, 0, 0), (.ifCond .ne 5, 3, 39, 0, 0, 0), (.lconst 0, 1, 0, 0, 0, 0), (.lreturn, 1, 0, 0, 0, 0)]
theorem sgX12_planned_29_ok : qsg cX12_planned 12 3 false 29 sgX12_planned_29 = true := by decide +kernel
def sgX12_planned_39 : List qEl := [(.aload_n 0, 1, 0, 0, 0, 0), (.iconst 0, 1, 0, 0, 0, 0), (.iload_n 1, 1, 0, 0, 0, 0), (.invokevirtual 399, 3, 0, 2, 0, 0), (.ldc2_w 378, 3, 0, 0, 0, 268435456), (.iload_n 2, 1, 0, 0, 0, 0), (.invokestatic 393, 3, 0, 3, 0, 0), (.lreturn, 1, 0, 0, 0, 0)]
theorem sgX12_planned_39_ok : qsg cX12_planned 12 3 false 39 sgX12_planned_39 = true := by decide +kernel
def sgX12_longOf_0 : List qEl := [(.iconst 0, 1, 0, 0, 0, 0), (.istore_n 2, 1, 0, 0, 0, 0), (.iconst 0, 1, 0, 0, 0, 0), (.istore_n 3, 1, 0, 0, 0, 0)]
theorem sgX12_longOf_0_ok : qsg cX12_longOf 12 4 false 0 sgX12_longOf_0 = true := by decide +kernel
def sgX12_longOf_4 : List qEl := [(.iload_n 3, 1, 0, 0, 0, 0), (.iload_n 1, 1, 0, 0, 0, 0), (.if_icmp .ge 27, 3, 33, 0, 0, 0), (.aload_n 0, 1, 0, 0, 0, 0), (.iload_n 3, 1, 0, 0, 0, 0), (.invokevirtual 396, 3, 0, 1, 0, 0), (.iload_n 2, 1, 0, 0, 0, 0), (.aload_n 0, 1, 0, 0, 0, 0), (.iload_n 3, 1, 0, 0, 0, 0), (.invokevirtual 356, 3, 0, 1, 0, 0), (.aload_n 0, 1, 0, 0, 0, 0), (.getfield 382, 3, 12, 42, 0, 0), (.iadd, 1, 0, 0, 0, 0), (.iadd, 1, 0, 0, 0, 0), (.istore_n 2, 1, 0, 0, 0, 0), (.iinc 3 1, 3, 0, 0, 1, 0), (.goto (-26), 3, 4, 0, 0, 0)]
theorem sgX12_longOf_4_ok : qsg cX12_longOf 12 4 false 4 sgX12_longOf_4 = true := by decide +kernel
def sgX12_longOf_33 : List qEl := [(.iload_n 2, 1, 0, 0, 0, 0), (.ireturn, 1, 0, 0, 0, 0)]
theorem sgX12_longOf_33_ok : qsg cX12_longOf 12 4 false 33 sgX12_longOf_33 = true := by decide +kernel
def sgX12_longest_0 : List qEl := [(.aload_n 0, 1, 0, 0, 0, 0), (.iconst 0, 1, 0, 0, 0, 0), (.putfield 3, 3, 12, 0, 0, 0), (.aload_n 0, 1, 0, 0, 0, 0), (.aload_n 0, 1, 0, 0, 0, 0), (.getfield 190, 3, 12, 36, 0, 0), (.invokevirtual 403, 3, 0, 1, 0, 0), (.ireturn, 1, 0, 0, 0, 0)]
theorem sgX12_longest_0_ok : qsg cX12_longest 12 1 false 0 sgX12_longest_0 = true := by decide +kernel
def sgX12_sure_0 : List qEl := [(.aload_n 0, 1, 0, 0, 0, 0), (.iconst 0, 1, 0, 0, 0, 0), (.putfield 3, 3, 12, 0, 0, 0), (.iconst 0, 1, 0, 0, 0, 0), (.istore_n 1, 1, 0, 0, 0, 0)]
theorem sgX12_sure_0_ok : qsg cX12_sure 12 2 false 0 sgX12_sure_0 = true := by decide +kernel
def sgX12_sure_7 : List qEl := [(.iload_n 1, 1, 0, 0, 0, 0), (.aload_n 0, 1, 0, 0, 0, 0), (.getfield 190, 3, 12, 36, 0, 0), (.if_icmp .ge 23, 3, 35, 0, 0, 0), (.aload_n 0, 1, 0, 0, 0, 0), (.iload_n 1, 1, 0, 0, 0, 0), (.iconst 1, 1, 0, 0, 1, 0), (.iadd, 1, 0, 0, 0, 0), (.invokevirtual 403, 3, 0, 1, 0, 0), (.aload_n 0, 1, 0, 0, 0, 0), (.getfield 183, 3, 12, 23, 0, 0), (.if_icmp .gt 9, 3, 35, 0, 0, 0), (.iinc 1 1, 3, 0, 0, 1, 0), (.goto (-25), 3, 7, 0, 0, 0)]
theorem sgX12_sure_7_ok : qsg cX12_sure 12 2 false 7 sgX12_sure_7 = true := by decide +kernel
def sgX12_sure_35 : List qEl := [(.iload_n 1, 1, 0, 0, 0, 0), (.ireturn, 1, 0, 0, 0, 0)]
theorem sgX12_sure_35_ok : qsg cX12_sure 12 2 false 35 sgX12_sure_35 = true := by decide +kernel
def sgX12_findValues_0 : List qEl := [(.iconst 0, 1, 0, 0, 0, 0), (.istore_n 2, 1, 0, 0, 0, 0)]
theorem sgX12_findValues_0_ok : qsg cX12_findValues 12 4 false 0 sgX12_findValues_0 = true := by decide +kernel
def sgX12_findValues_2 : List qEl := [(.iload_n 2, 1, 0, 0, 0, 0), (.aload_n 0, 1, 0, 0, 0, 0), (.getfield 171, 3, 12, 19, 0, 0), (.if_icmp .ge 97, 3, 104, 0, 0, 0), (.iconst 0, 1, 0, 0, 0, 0), (.istore_n 3, 1, 0, 0, 0, 0)]
theorem sgX12_findValues_2_ok : qsg cX12_findValues 12 4 false 2 sgX12_findValues_2 = true := by decide +kernel
def sgX12_findValues_12 : List qEl := [(.iload_n 3, 1, 0, 0, 0, 0), (.bipush 19, 2, 0, 0, 19, 0), (.if_icmp .ge 83, 3, 98, 0, 0, 0), (.iload_n 3, 1, 0, 0, 0, 0), (.ifCond .le 19, 3, 38, 0, 0, 0), (.aload_n 0, 1, 0, 0, 0, 0), (.iload_n 2, 1, 0, 0, 0, 0), (.iload_n 3, 1, 0, 0, 0, 0), (.iconst 1, 1, 0, 0, 1, 0), (.isub, 1, 0, 0, 0, 0), (.iconst 3, 1, 0, 0, 3, 0), (.idiv, 1, 0, 0, 0, 0), (.iload_n 3, 1, 0, 0, 0, 0), (.iconst 1, 1, 0, 0, 1, 0), (.isub, 1, 0, 0, 0, 0), (.iconst 3, 1, 0, 0, 3, 0), (.irem, 1, 0, 0, 0, 0), (.iconst 0, 1, 0, 0, 0, 0), (.invokevirtual 385, 3, 0, 4, 0, 0)]
theorem sgX12_findValues_12_ok : qsg cX12_findValues 12 4 false 12 sgX12_findValues_12 = true := by decide +kernel
def sgX12_findValues_38 : List qEl := [(.aload_n 0, 1, 0, 0, 0, 0), (.getfield 73, 3, 12, 44, 0, 0), (.bipush 19, 2, 0, 0, 19, 0), (.iload_n 2, 1, 0, 0, 0, 0), (.imul, 1, 0, 0, 0, 0), (.iload_n 3, 1, 0, 0, 0, 0), (.iadd, 1, 0, 0, 0, 0), (.iload_n 3, 1, 0, 0, 0, 0), (.ifCond .ne 7, 3, 56, 0, 0, 0), (.lconst 0, 1, 0, 0, 0, 0), (.goto 15, 3, 68, 0, 0, 0)]
theorem sgX12_findValues_38_ok : qsg cX12_findValues 12 4 false 38 sgX12_findValues_38 = true := by decide +kernel
def sgX12_findValues_56 : List qEl := [(.aload_n 0, 1, 0, 0, 0, 0), (.getfield 368, 3, 12, 39, 0, 0), (.iload_n 1, 1, 0, 0, 0, 0), (.i2l, 1, 0, 0, 0, 0), (.aload_n 0, 1, 0, 0, 0, 0), (.getfield 380, 3, 12, 40, 0, 0), (.lmul, 1, 0, 0, 0, 0), (.ladd, 1, 0, 0, 0, 0)]
theorem sgX12_findValues_56_ok : qsg cX12_findValues 12 4 false 56 sgX12_findValues_56 = true := by decide +kernel
def sgX12_findValues_68 : List qEl := [(.lastore, 1, 0, 0, 0, 0), (.aload_n 0, 1, 0, 0, 0, 0), (.getfield 76, 3, 12, 45, 0, 0), (.bipush 19, 2, 0, 0, 19, 0), (.iload_n 2, 1, 0, 0, 0, 0), (.imul, 1, 0, 0, 0, 0), (.iload_n 3, 1, 0, 0, 0, 0), (.iadd, 1, 0, 0, 0, 0), (.iload_n 3, 1, 0, 0, 0, 0), (.ifCond .ne 7, 3, 87, 0, 0, 0), (.iconst 0, 1, 0, 0, 0, 0), (.goto 7, 3, 91, 0, 0, 0)]
theorem sgX12_findValues_68_ok : qsg cX12_findValues 12 4 false 68 sgX12_findValues_68 = true := by decide +kernel
def sgX12_findValues_87 : List qEl := [(.aload_n 0, 1, 0, 0, 0, 0), (.getfield 382, 3, 12, 42, 0, 0)]
theorem sgX12_findValues_87_ok : qsg cX12_findValues 12 4 false 87 sgX12_findValues_87 = true := by decide +kernel
def sgX12_findValues_91 : List qEl := [(.iastore, 1, 0, 0, 0, 0), (.iinc 3 1, 3, 0, 0, 1, 0), (.goto (-83), 3, 12, 0, 0, 0)]
theorem sgX12_findValues_91_ok : qsg cX12_findValues 12 4 false 91 sgX12_findValues_91 = true := by decide +kernel
def sgX12_findValues_98 : List qEl := [(.iinc 2 1, 3, 0, 0, 1, 0), (.goto (-99), 3, 2, 0, 0, 0)]
theorem sgX12_findValues_98_ok : qsg cX12_findValues 12 4 false 98 sgX12_findValues_98 = true := by decide +kernel
def sgX12_findValues_104 : List qEl := [(.return_, 1, 0, 0, 0, 0)]
theorem sgX12_findValues_104_ok : qsg cX12_findValues 12 4 false 104 sgX12_findValues_104 = true := by decide +kernel
def sgX12_wayOver_0 : List qEl := [(.sipush 1000, 3, 0, 0, 1000, 0), (.istore_n 2, 1, 0, 0, 0, 0), (.iconst (-1), 1, 0, 0, (-1), 0), (.istore_n 3, 1, 0, 0, 0, 0), (.iconst 0, 1, 0, 0, 0, 0), (.istore 4, 2, 0, 0, 0, 0)]
theorem sgX12_wayOver_0_ok : qsg cX12_wayOver 12 6 false 0 sgX12_wayOver_0 = true := by decide +kernel
def sgX12_wayOver_9 : List qEl := [(.iload 4, 2, 0, 0, 0, 0), (.aload_n 0, 1, 0, 0, 0, 0), (.getfield 171, 3, 12, 19, 0, 0), (.if_icmp .ge 63, 3, 78, 0, 0, 0), (.iload_n 1, 1, 0, 0, 0, 0), (.iload 4, 2, 0, 0, 0, 0), (.ishr, 1, 0, 0, 0, 0), (.iconst 1, 1, 0, 0, 1, 0), (.iand, 1, 0, 0, 0, 0), (.ifCond .ne 6, 3, 30, 0, 0, 0), (.goto 45, 3, 72, 0, 0, 0)]
theorem sgX12_wayOver_9_ok : qsg cX12_wayOver 12 6 false 9 sgX12_wayOver_9 = true := by decide +kernel
def sgX12_wayOver_30 : List qEl := [(.aload_n 0, 1, 0, 0, 0, 0), (.iload 4, 2, 0, 0, 0, 0), (.invokevirtual 347, 3, 0, 1, 0, 0), (.iload_n 2, 1, 0, 0, 0, 0), (.if_icmp .ge 12, 3, 49, 0, 0, 0), (.aload_n 0, 1, 0, 0, 0, 0), (.iload 4, 2, 0, 0, 0, 0), (.invokevirtual 347, 3, 0, 1, 0, 0), (.goto 4, 3, 50, 0, 0, 0)]
theorem sgX12_wayOver_30_ok : qsg cX12_wayOver 12 6 false 30 sgX12_wayOver_30 = true := by decide +kernel
def sgX12_wayOver_49 : List qEl := [(.iload_n 2, 1, 0, 0, 0, 0)]
theorem sgX12_wayOver_49_ok : qsg cX12_wayOver 12 6 false 49 sgX12_wayOver_49 = true := by decide +kernel
def sgX12_wayOver_50 : List qEl := [(.istore_n 2, 1, 0, 0, 0, 0), (.aload_n 0, 1, 0, 0, 0, 0), (.iload 4, 2, 0, 0, 0, 0), (.invokevirtual 347, 3, 0, 1, 0, 0), (.iload_n 3, 1, 0, 0, 0, 0), (.if_icmp .le 12, 3, 70, 0, 0, 0), (.aload_n 0, 1, 0, 0, 0, 0), (.iload 4, 2, 0, 0, 0, 0), (.invokevirtual 347, 3, 0, 1, 0, 0), (.goto 4, 3, 71, 0, 0, 0)]
theorem sgX12_wayOver_50_ok : qsg cX12_wayOver 12 6 false 50 sgX12_wayOver_50 = true := by decide +kernel
def sgX12_wayOver_70 : List qEl := [(.iload_n 3, 1, 0, 0, 0, 0)]
theorem sgX12_wayOver_70_ok : qsg cX12_wayOver 12 6 false 70 sgX12_wayOver_70 = true := by decide +kernel
def sgX12_wayOver_71 : List qEl := [(.istore_n 3, 1, 0, 0, 0, 0)]
theorem sgX12_wayOver_71_ok : qsg cX12_wayOver 12 6 false 71 sgX12_wayOver_71 = true := by decide +kernel
def sgX12_wayOver_72 : List qEl := [(.iinc 4 1, 3, 0, 0, 1, 0), (.goto (-66), 3, 9, 0, 0, 0)]
theorem sgX12_wayOver_72_ok : qsg cX12_wayOver 12 6 false 72 sgX12_wayOver_72 = true := by decide +kernel
def sgX12_wayOver_78 : List qEl := [(.iload_n 3, 1, 0, 0, 0, 0), (.ifCond .ge 5, 3, 84, 0, 0, 0), (.iconst 0, 1, 0, 0, 0, 0), (.ireturn, 1, 0, 0, 0, 0)]
theorem sgX12_wayOver_78_ok : qsg cX12_wayOver 12 6 false 78 sgX12_wayOver_78 = true := by decide +kernel
def sgX12_wayOver_84 : List qEl := [(.aload_n 0, 1, 0, 0, 0, 0), (.getfield 177, 3, 12, 21, 0, 0), (.iload_n 2, 1, 0, 0, 0, 0), (.invokestatic 350, 3, 0, 2, 0, 0), (.istore 4, 2, 0, 0, 0, 0), (.aload_n 0, 1, 0, 0, 0, 0), (.getfield 177, 3, 12, 21, 0, 0), (.iload_n 3, 1, 0, 0, 0, 0), (.invokestatic 350, 3, 0, 2, 0, 0), (.istore 5, 2, 0, 0, 0, 0), (.iload_n 3, 1, 0, 0, 0, 0), (.iload_n 2, 1, 0, 0, 0, 0), (.isub, 1, 0, 0, 0, 0), (.iload 4, 2, 0, 0, 0, 0), (.iload 5, 2, 0, 0, 0, 0), (.if_icmp .ge 8, 3, 119, 0, 0, 0), (.iload 4, 2, 0, 0, 0, 0), (.goto 5, 3, 121, 0, 0, 0)]
theorem sgX12_wayOver_84_ok : qsg cX12_wayOver 12 6 false 84 sgX12_wayOver_84 = true := by decide +kernel
def sgX12_wayOver_119 : List qEl := [(.iload 5, 2, 0, 0, 0, 0)]
theorem sgX12_wayOver_119_ok : qsg cX12_wayOver 12 6 false 119 sgX12_wayOver_119 = true := by decide +kernel
def sgX12_wayOver_121 : List qEl := [(.iadd, 1, 0, 0, 0, 0), (.ireturn, 1, 0, 0, 0, 0)]
theorem sgX12_wayOver_121_ok : qsg cX12_wayOver 12 6 false 121 sgX12_wayOver_121 = true := by decide +kernel
def sgX12_index_0 : List qEl := [(.bipush 6, 2, 0, 0, 6, 0), (.iload_n 1, 1, 0, 0, 0, 0), (.imul, 1, 0, 0, 0, 0), (.iload_n 2, 1, 0, 0, 0, 0), (.iadd, 1, 0, 0, 0, 0), (.sipush 481, 3, 0, 0, 481, 0), (.imul, 1, 0, 0, 0, 0), (.iload_n 3, 1, 0, 0, 0, 0), (.iadd, 1, 0, 0, 0, 0), (.ireturn, 1, 0, 0, 0, 0)]
theorem sgX12_index_0_ok : qsg cX12_index 12 4 false 0 sgX12_index_0 = true := by decide +kernel
def sgX12_isOf_0 : List qEl := [(.iload_n 1, 1, 0, 0, 0, 0), (.iload_n 2, 1, 0, 0, 0, 0), (.ishr, 1, 0, 0, 0, 0), (.iconst 1, 1, 0, 0, 1, 0), (.iand, 1, 0, 0, 0, 0), (.iconst 1, 1, 0, 0, 1, 0), (.if_icmp .ne 7, 3, 13, 0, 0, 0), (.iconst 1, 1, 0, 0, 1, 0), (.goto 4, 3, 14, 0, 0, 0)]
theorem sgX12_isOf_0_ok : qsg cX12_isOf 12 4 false 0 sgX12_isOf_0 = true := by decide +kernel
def sgX12_isOf_13 : List qEl := [(.iconst 0, 1, 0, 0, 0, 0)]
theorem sgX12_isOf_13_ok : qsg cX12_isOf 12 4 false 13 sgX12_isOf_13 = true := by decide +kernel
def sgX12_isOf_14 : List qEl := [(.iload_n 3, 1, 0, 0, 0, 0), (.ifCond .le 7, 3, 22, 0, 0, 0), (.iconst 1, 1, 0, 0, 1, 0), (.goto 4, 3, 23, 0, 0, 0)]
theorem sgX12_isOf_14_ok : qsg cX12_isOf 12 4 false 14 sgX12_isOf_14 = true := by decide +kernel
def sgX12_isOf_22 : List qEl := [(.iconst 0, 1, 0, 0, 0, 0)]
theorem sgX12_isOf_22_ok : qsg cX12_isOf 12 4 false 22 sgX12_isOf_22 = true := by decide +kernel
def sgX12_isOf_23 : List qEl := [(.if_icmp .ne 7, 3, 30, 0, 0, 0), (.iconst 1, 1, 0, 0, 1, 0), (.goto 4, 3, 31, 0, 0, 0)]
theorem sgX12_isOf_23_ok : qsg cX12_isOf 12 4 false 23 sgX12_isOf_23 = true := by decide +kernel
def sgX12_isOf_30 : List qEl := [(.iconst 0, 1, 0, 0, 0, 0)]
theorem sgX12_isOf_30_ok : qsg cX12_isOf 12 4 false 30 sgX12_isOf_30 = true := by decide +kernel
def sgX12_isOf_31 : List qEl := [(.ireturn, 1, 0, 0, 0, 0)]
theorem sgX12_isOf_31_ok : qsg cX12_isOf 12 4 false 31 sgX12_isOf_31 = true := by decide +kernel
def sgX12_findMost_0 : List qEl := [(.iconst 0, 1, 0, 0, 0, 0), (.istore_n 2, 1, 0, 0, 0, 0)]
theorem sgX12_findMost_0_ok : qsg cX12_findMost 12 10 false 0 sgX12_findMost_0 = true := by decide +kernel
def sgX12_findMost_2 : List qEl := [(.iload_n 2, 1, 0, 0, 0, 0), (.sipush 481, 3, 0, 0, 481, 0), (.if_icmp .ge 25, 3, 31, 0, 0, 0), (.aload_n 0, 1, 0, 0, 0, 0), (.getfield 69, 3, 12, 43, 0, 0), (.aload_n 0, 1, 0, 0, 0, 0), (.iload_n 1, 1, 0, 0, 0, 0), (.aload_n 0, 1, 0, 0, 0, 0), (.getfield 171, 3, 12, 19, 0, 0), (.iload_n 2, 1, 0, 0, 0, 0), (.invokevirtual 406, 3, 0, 3, 0, 0), (.lconst 0, 1, 0, 0, 0, 0), (.lastore, 1, 0, 0, 0, 0), (.iinc 2 1, 3, 0, 0, 1, 0), (.goto (-26), 3, 2, 0, 0, 0)]
theorem sgX12_findMost_2_ok : qsg cX12_findMost 12 10 false 2 sgX12_findMost_2 = true := by decide +kernel
def sgX12_findMost_31 : List qEl := [(.aload_n 0, 1, 0, 0, 0, 0), (.getfield 171, 3, 12, 19, 0, 0), (.iconst 1, 1, 0, 0, 1, 0), (.isub, 1, 0, 0, 0, 0), (.istore_n 2, 1, 0, 0, 0, 0)]
theorem sgX12_findMost_31_ok : qsg cX12_findMost 12 10 false 31 sgX12_findMost_31 = true := by decide +kernel
def sgX12_findMost_38 : List qEl := [(.iload_n 2, 1, 0, 0, 0, 0), (.ifCond .lt 163, 3, 202, 0, 0, 0), (.iconst 0, 1, 0, 0, 0, 0), (.istore_n 3, 1, 0, 0, 0, 0)]
theorem sgX12_findMost_38_ok : qsg cX12_findMost 12 10 false 38 sgX12_findMost_38 = true := by decide +kernel
def sgX12_findMost_44 : List qEl := [(.iload_n 3, 1, 0, 0, 0, 0), (.sipush 481, 3, 0, 0, 481, 0), (.if_icmp .ge 148, 3, 196, 0, 0, 0), (.ldc2_w 409, 3, 0, 0, 0, (-1)), (.lstore 4, 2, 0, 0, 0, 0), (.iconst 0, 1, 0, 0, 0, 0), (.istore 6, 2, 0, 0, 0, 0)]
theorem sgX12_findMost_44_ok : qsg cX12_findMost 12 10 false 44 sgX12_findMost_44 = true := by decide +kernel
def sgX12_findMost_59 : List qEl := [(.iload 6, 2, 0, 0, 0, 0), (.bipush 19, 2, 0, 0, 19, 0), (.if_icmp .ge 113, 3, 176, 0, 0, 0), (.iload_n 3, 1, 0, 0, 0, 0), (.aload_n 0, 1, 0, 0, 0, 0), (.getfield 76, 3, 12, 45, 0, 0), (.bipush 19, 2, 0, 0, 19, 0), (.iload_n 2, 1, 0, 0, 0, 0), (.imul, 1, 0, 0, 0, 0), (.iload 6, 2, 0, 0, 0, 0), (.iadd, 1, 0, 0, 0, 0), (.iaload, 1, 0, 0, 0, 0), (.isub, 1, 0, 0, 0, 0), (.istore 7, 2, 0, 0, 0, 0), (.aload_n 0, 1, 0, 0, 0, 0), (.iload_n 1, 1, 0, 0, 0, 0), (.iload_n 2, 1, 0, 0, 0, 0), (.iload 6, 2, 0, 0, 0, 0), (.invokevirtual 411, 3, 0, 3, 0, 0), (.ifCond .eq 80, 3, 170, 0, 0, 0), (.iload 7, 2, 0, 0, 0, 0), (.ifCond .lt 75, 3, 170, 0, 0, 0), (.aload_n 0, 1, 0, 0, 0, 0), (.getfield 69, 3, 12, 43, 0, 0), (.aload_n 0, 1, 0, 0, 0, 0), (.iload_n 1, 1, 0, 0, 0, 0), (.iload_n 2, 1, 0, 0, 0, 0), (.iconst 1, 1, 0, 0, 1, 0), (.iadd, 1, 0, 0, 0, 0), (.iload 7, 2, 0, 0, 0, 0), (.invokevirtual 406, 3, 0, 3, 0, 0), (.laload, 1, 0, 0, 0, 0), (.ldc2_w 409, 3, 0, 0, 0, (-1)), (.lcmp, 1, 0, 0, 0, 0), (.ifCond .ne 6, 3, 123, 0, 0, 0), (.goto 50, 3, 170, 0, 0, 0)]
theorem sgX12_findMost_59_ok : qsg cX12_findMost 12 10 false 59 sgX12_findMost_59 = true := by decide +kernel
def sgX12_findMost_123 : List qEl := [(.aload_n 0, 1, 0, 0, 0, 0), (.getfield 73, 3, 12, 44, 0, 0), (.bipush 19, 2, 0, 0, 19, 0), (.iload_n 2, 1, 0, 0, 0, 0), (.imul, 1, 0, 0, 0, 0), (.iload 6, 2, 0, 0, 0, 0), (.iadd, 1, 0, 0, 0, 0), (.laload, 1, 0, 0, 0, 0), (.aload_n 0, 1, 0, 0, 0, 0), (.getfield 69, 3, 12, 43, 0, 0), (.aload_n 0, 1, 0, 0, 0, 0), (.iload_n 1, 1, 0, 0, 0, 0), (.iload_n 2, 1, 0, 0, 0, 0), (.iconst 1, 1, 0, 0, 1, 0), (.iadd, 1, 0, 0, 0, 0), (.iload 7, 2, 0, 0, 0, 0), (.invokevirtual 406, 3, 0, 3, 0, 0), (.laload, 1, 0, 0, 0, 0), (.ladd, 1, 0, 0, 0, 0), (.lstore 8, 2, 0, 0, 0, 0), (.lload 8, 2, 0, 0, 0, 0), (.lload 4, 2, 0, 0, 0, 0), (.lcmp, 1, 0, 0, 0, 0), (.ifCond .le 8, 3, 166, 0, 0, 0), (.lload 8, 2, 0, 0, 0, 0), (.goto 5, 3, 168, 0, 0, 0)]
theorem sgX12_findMost_123_ok : qsg cX12_findMost 12 10 false 123 sgX12_findMost_123 = true := by decide +kernel
def sgX12_findMost_166 : List qEl := [(.lload 4, 2, 0, 0, 0, 0)]
theorem sgX12_findMost_166_ok : qsg cX12_findMost 12 10 false 166 sgX12_findMost_166 = true := by decide +kernel
def sgX12_findMost_168 : List qEl := [(.lstore 4, 2, 0, 0, 0, 0)]
theorem sgX12_findMost_168_ok : qsg cX12_findMost 12 10 false 168 sgX12_findMost_168 = true := by decide +kernel
def sgX12_findMost_170 : List qEl := [(.iinc 6 1, 3, 0, 0, 1, 0), (.goto (-114), 3, 59, 0, 0, 0)]
theorem sgX12_findMost_170_ok : qsg cX12_findMost 12 10 false 170 sgX12_findMost_170 = true := by decide +kernel
def sgX12_findMost_176 : List qEl := [(.aload_n 0, 1, 0, 0, 0, 0), (.getfield 69, 3, 12, 43, 0, 0), (.aload_n 0, 1, 0, 0, 0, 0), (.iload_n 1, 1, 0, 0, 0, 0), (.iload_n 2, 1, 0, 0, 0, 0), (.iload_n 3, 1, 0, 0, 0, 0), (.invokevirtual 406, 3, 0, 3, 0, 0), (.lload 4, 2, 0, 0, 0, 0), (.lastore, 1, 0, 0, 0, 0), (.iinc 3 1, 3, 0, 0, 1, 0), (.goto (-149), 3, 44, 0, 0, 0)]
theorem sgX12_findMost_176_ok : qsg cX12_findMost 12 10 false 176 sgX12_findMost_176 = true := by decide +kernel
def sgX12_findMost_196 : List qEl := [(.iinc 2 (-1), 3, 0, 0, (-1), 0), (.goto (-161), 3, 38, 0, 0, 0)]
theorem sgX12_findMost_196_ok : qsg cX12_findMost 12 10 false 196 sgX12_findMost_196 = true := by decide +kernel
def sgX12_findMost_202 : List qEl := [(.return_, 1, 0, 0, 0, 0)]
theorem sgX12_findMost_202_ok : qsg cX12_findMost 12 10 false 202 sgX12_findMost_202 = true := by decide +kernel
def sgX12_findBest_0 : List qEl := [(.aload_n 0, 1, 0, 0, 0, 0), (.iload_n 1, 1, 0, 0, 0, 0), (.invokevirtual 414, 3, 0, 1, 0, 0), (.aload_n 0, 1, 0, 0, 0, 0), (.ldc2_w 409, 3, 0, 0, 0, (-1)), (.putfield 417, 3, 12, 49, 0, 0), (.iconst 0, 1, 0, 0, 0, 0), (.istore_n 2, 1, 0, 0, 0, 0)]
theorem sgX12_findBest_0_ok : qsg cX12_findBest 12 8 false 0 sgX12_findBest_0 = true := by decide +kernel
def sgX12_findBest_14 : List qEl := [(.iload_n 2, 1, 0, 0, 0, 0), (.iconst 1, 1, 0, 0, 1, 0), (.aload_n 0, 1, 0, 0, 0, 0), (.getfield 171, 3, 12, 19, 0, 0), (.ishl, 1, 0, 0, 0, 0), (.if_icmp .ge 101, 3, 122, 0, 0, 0), (.aload_n 0, 1, 0, 0, 0, 0), (.getfield 82, 3, 12, 47, 0, 0), (.iload_n 2, 1, 0, 0, 0, 0), (.aload_n 0, 1, 0, 0, 0, 0), (.getfield 183, 3, 12, 23, 0, 0), (.aload_n 0, 1, 0, 0, 0, 0), (.iload_n 2, 1, 0, 0, 0, 0), (.invokevirtual 420, 3, 0, 1, 0, 0), (.isub, 1, 0, 0, 0, 0), (.iastore, 1, 0, 0, 0, 0), (.aload_n 0, 1, 0, 0, 0, 0), (.getfield 85, 3, 12, 48, 0, 0), (.iload_n 2, 1, 0, 0, 0, 0), (.aload_n 0, 1, 0, 0, 0, 0), (.getfield 82, 3, 12, 47, 0, 0), (.iload_n 2, 1, 0, 0, 0, 0), (.iaload, 1, 0, 0, 0, 0), (.ifCond .lt 7, 3, 58, 0, 0, 0), (.iconst 1, 1, 0, 0, 1, 0), (.goto 4, 3, 59, 0, 0, 0)]
theorem sgX12_findBest_14_ok : qsg cX12_findBest 12 8 false 14 sgX12_findBest_14 = true := by decide +kernel
def sgX12_findBest_58 : List qEl := [(.iconst 0, 1, 0, 0, 0, 0)]
theorem sgX12_findBest_58_ok : qsg cX12_findBest 12 8 false 58 sgX12_findBest_58 = true := by decide +kernel
def sgX12_findBest_59 : List qEl := [(.bastore, 1, 0, 0, 0, 0), (.aload_n 0, 1, 0, 0, 0, 0), (.getfield 85, 3, 12, 48, 0, 0), (.iload_n 2, 1, 0, 0, 0, 0), (.baload, 1, 0, 0, 0, 0), (.ifCond .ne 6, 3, 72, 0, 0, 0), (.goto 47, 3, 116, 0, 0, 0)]
theorem sgX12_findBest_59_ok : qsg cX12_findBest 12 8 false 59 sgX12_findBest_59 = true := by decide +kernel
def sgX12_findBest_72 : List qEl := [(.aload_n 0, 1, 0, 0, 0, 0), (.iload_n 2, 1, 0, 0, 0, 0), (.invokevirtual 423, 3, 0, 1, 0, 0), (.aload_n 0, 1, 0, 0, 0, 0), (.getfield 69, 3, 12, 43, 0, 0), (.aload_n 0, 1, 0, 0, 0, 0), (.iload_n 2, 1, 0, 0, 0, 0), (.iconst 0, 1, 0, 0, 0, 0), (.aload_n 0, 1, 0, 0, 0, 0), (.getfield 82, 3, 12, 47, 0, 0), (.iload_n 2, 1, 0, 0, 0, 0), (.iaload, 1, 0, 0, 0, 0), (.invokevirtual 406, 3, 0, 3, 0, 0), (.laload, 1, 0, 0, 0, 0), (.lstore_n 3, 1, 0, 0, 0, 0), (.aload_n 0, 1, 0, 0, 0, 0), (.lload_n 3, 1, 0, 0, 0, 0), (.aload_n 0, 1, 0, 0, 0, 0), (.getfield 417, 3, 12, 49, 0, 0), (.lcmp, 1, 0, 0, 0, 0), (.ifCond .le 7, 3, 109, 0, 0, 0), (.lload_n 3, 1, 0, 0, 0, 0), (.goto 7, 3, 113, 0, 0, 0)]
theorem sgX12_findBest_72_ok : qsg cX12_findBest 12 8 false 72 sgX12_findBest_72 = true := by decide +kernel
def sgX12_findBest_109 : List qEl := [(.aload_n 0, 1, 0, 0, 0, 0), (.getfield 417, 3, 12, 49, 0, 0)]
theorem sgX12_findBest_109_ok : qsg cX12_findBest 12 8 false 109 sgX12_findBest_109 = true := by decide +kernel
def sgX12_findBest_113 : List qEl := [(.putfield 417, 3, 12, 49, 0, 0)]
theorem sgX12_findBest_113_ok : qsg cX12_findBest 12 8 false 113 sgX12_findBest_113 = true := by decide +kernel
def sgX12_findBest_116 : List qEl := [(.iinc 2 1, 3, 0, 0, 1, 0), (.goto (-105), 3, 14, 0, 0, 0)]
theorem sgX12_findBest_116_ok : qsg cX12_findBest 12 8 false 116 sgX12_findBest_116 = true := by decide +kernel
def sgX12_findBest_122 : List qEl := [(.lconst 0, 1, 0, 0, 0, 0), (.lstore_n 2, 1, 0, 0, 0, 0), (.aload_n 0, 1, 0, 0, 0, 0), (.iconst 0, 1, 0, 0, 0, 0), (.putfield 426, 3, 12, 50, 0, 0), (.iconst 0, 1, 0, 0, 0, 0), (.istore 4, 2, 0, 0, 0, 0), (.iconst 0, 1, 0, 0, 0, 0), (.istore 5, 2, 0, 0, 0, 0)]
theorem sgX12_findBest_122_ok : qsg cX12_findBest 12 8 false 122 sgX12_findBest_122 = true := by decide +kernel
def sgX12_findBest_135 : List qEl := [(.iload 5, 2, 0, 0, 0, 0), (.aload_n 0, 1, 0, 0, 0, 0), (.getfield 171, 3, 12, 19, 0, 0), (.if_icmp .ge 150, 3, 291, 0, 0, 0), (.iconst 0, 1, 0, 0, 0, 0), (.istore 6, 2, 0, 0, 0, 0)]
theorem sgX12_findBest_135_ok : qsg cX12_findBest 12 8 false 135 sgX12_findBest_135 = true := by decide +kernel
def sgX12_findBest_147 : List qEl := [(.aload_n 0, 1, 0, 0, 0, 0), (.iload 5, 2, 0, 0, 0, 0), (.iload 6, 2, 0, 0, 0, 0), (.lload_n 2, 1, 0, 0, 0, 0), (.invokevirtual 429, 3, 0, 3, 0, 0), (.ifCond .ne 9, 3, 165, 0, 0, 0), (.iinc 6 1, 3, 0, 0, 1, 0), (.goto (-15), 3, 147, 0, 0, 0)]
theorem sgX12_findBest_147_ok : qsg cX12_findBest 12 8 false 147 sgX12_findBest_147 = true := by decide +kernel
def sgX12_findBest_165 : List qEl := [(.iconst 0, 1, 0, 0, 0, 0), (.istore 7, 2, 0, 0, 0, 0)]
theorem sgX12_findBest_165_ok : qsg cX12_findBest 12 8 false 165 sgX12_findBest_165 = true := by decide +kernel
def sgX12_findBest_168 : List qEl := [(.iload 7, 2, 0, 0, 0, 0), (.iconst 1, 1, 0, 0, 1, 0), (.aload_n 0, 1, 0, 0, 0, 0), (.getfield 171, 3, 12, 19, 0, 0), (.ishl, 1, 0, 0, 0, 0), (.if_icmp .ge 44, 3, 220, 0, 0, 0), (.aload_n 0, 1, 0, 0, 0, 0), (.getfield 85, 3, 12, 48, 0, 0), (.iload 7, 2, 0, 0, 0, 0), (.aload_n 0, 1, 0, 0, 0, 0), (.getfield 85, 3, 12, 48, 0, 0), (.iload 7, 2, 0, 0, 0, 0), (.baload, 1, 0, 0, 0, 0), (.ifCond .eq 20, 3, 212, 0, 0, 0), (.aload_n 0, 1, 0, 0, 0, 0), (.iload 7, 2, 0, 0, 0, 0), (.iload 5, 2, 0, 0, 0, 0), (.iload 6, 2, 0, 0, 0, 0), (.invokevirtual 411, 3, 0, 3, 0, 0), (.ifCond .eq 7, 3, 212, 0, 0, 0), (.iconst 1, 1, 0, 0, 1, 0), (.goto 4, 3, 213, 0, 0, 0)]
theorem sgX12_findBest_168_ok : qsg cX12_findBest 12 8 false 168 sgX12_findBest_168 = true := by decide +kernel
def sgX12_findBest_212 : List qEl := [(.iconst 0, 1, 0, 0, 0, 0)]
theorem sgX12_findBest_212_ok : qsg cX12_findBest 12 8 false 212 sgX12_findBest_212 = true := by decide +kernel
def sgX12_findBest_213 : List qEl := [(.bastore, 1, 0, 0, 0, 0), (.iinc 7 1, 3, 0, 0, 1, 0), (.goto (-49), 3, 168, 0, 0, 0)]
theorem sgX12_findBest_213_ok : qsg cX12_findBest 12 8 false 213 sgX12_findBest_213 = true := by decide +kernel
def sgX12_findBest_220 : List qEl := [(.aload_n 0, 1, 0, 0, 0, 0), (.getfield 79, 3, 12, 46, 0, 0), (.iload 5, 2, 0, 0, 0, 0), (.iload 6, 2, 0, 0, 0, 0), (.iastore, 1, 0, 0, 0, 0), (.lload_n 2, 1, 0, 0, 0, 0), (.aload_n 0, 1, 0, 0, 0, 0), (.getfield 73, 3, 12, 44, 0, 0), (.bipush 19, 2, 0, 0, 19, 0), (.iload 5, 2, 0, 0, 0, 0), (.imul, 1, 0, 0, 0, 0), (.iload 6, 2, 0, 0, 0, 0), (.iadd, 1, 0, 0, 0, 0), (.laload, 1, 0, 0, 0, 0), (.ladd, 1, 0, 0, 0, 0), (.lstore_n 2, 1, 0, 0, 0, 0), (.aload_n 0, 1, 0, 0, 0, 0), (.dup, 1, 0, 0, 0, 0), (.getfield 426, 3, 12, 50, 0, 0), (.aload_n 0, 1, 0, 0, 0, 0), (.getfield 76, 3, 12, 45, 0, 0), (.bipush 19, 2, 0, 0, 19, 0), (.iload 5, 2, 0, 0, 0, 0), (.imul, 1, 0, 0, 0, 0), (.iload 6, 2, 0, 0, 0, 0), (.iadd, 1, 0, 0, 0, 0), (.iaload, 1, 0, 0, 0, 0), (.iadd, 1, 0, 0, 0, 0), (.putfield 426, 3, 12, 50, 0, 0), (.iload 4, 2, 0, 0, 0, 0), (.iload 6, 2, 0, 0, 0, 0), (.ifCond .le 10, 3, 281, 0, 0, 0), (.iconst 1, 1, 0, 0, 1, 0), (.iload 5, 2, 0, 0, 0, 0), (.ishl, 1, 0, 0, 0, 0), (.goto 4, 3, 282, 0, 0, 0)]
theorem sgX12_findBest_220_ok : qsg cX12_findBest 12 8 false 220 sgX12_findBest_220 = true := by decide +kernel
def sgX12_findBest_281 : List qEl := [(.iconst 0, 1, 0, 0, 0, 0)]
theorem sgX12_findBest_281_ok : qsg cX12_findBest 12 8 false 281 sgX12_findBest_281 = true := by decide +kernel
def sgX12_findBest_282 : List qEl := [(.ior, 1, 0, 0, 0, 0), (.istore 4, 2, 0, 0, 0, 0), (.iinc 5 1, 3, 0, 0, 1, 0), (.goto (-153), 3, 135, 0, 0, 0)]
theorem sgX12_findBest_282_ok : qsg cX12_findBest 12 8 false 282 sgX12_findBest_282 = true := by decide +kernel
def sgX12_findBest_291 : List qEl := [(.aload_n 0, 1, 0, 0, 0, 0), (.dup, 1, 0, 0, 0, 0), (.getfield 426, 3, 12, 50, 0, 0), (.aload_n 0, 1, 0, 0, 0, 0), (.iload 4, 2, 0, 0, 0, 0), (.invokevirtual 420, 3, 0, 1, 0, 0), (.iadd, 1, 0, 0, 0, 0), (.putfield 426, 3, 12, 50, 0, 0), (.return_, 1, 0, 0, 0, 0)]
theorem sgX12_findBest_291_ok : qsg cX12_findBest 12 8 false 291 sgX12_findBest_291 = true := by decide +kernel
def sgX12_goesOn_0 : List qEl := [(.iconst 0, 1, 0, 0, 0, 0), (.istore 5, 2, 0, 0, 0, 0)]
theorem sgX12_goesOn_0_ok : qsg cX12_goesOn 12 9 false 0 sgX12_goesOn_0 = true := by decide +kernel
def sgX12_goesOn_3 : List qEl := [(.iload 5, 2, 0, 0, 0, 0), (.iconst 1, 1, 0, 0, 1, 0), (.aload_n 0, 1, 0, 0, 0, 0), (.getfield 171, 3, 12, 19, 0, 0), (.ishl, 1, 0, 0, 0, 0), (.if_icmp .ge 117, 3, 128, 0, 0, 0), (.aload_n 0, 1, 0, 0, 0, 0), (.getfield 82, 3, 12, 47, 0, 0), (.iload 5, 2, 0, 0, 0, 0), (.iaload, 1, 0, 0, 0, 0), (.aload_n 0, 1, 0, 0, 0, 0), (.getfield 426, 3, 12, 50, 0, 0), (.isub, 1, 0, 0, 0, 0), (.aload_n 0, 1, 0, 0, 0, 0), (.getfield 76, 3, 12, 45, 0, 0), (.bipush 19, 2, 0, 0, 19, 0), (.iload_n 1, 1, 0, 0, 0, 0), (.imul, 1, 0, 0, 0, 0), (.iload_n 2, 1, 0, 0, 0, 0), (.iadd, 1, 0, 0, 0, 0), (.iaload, 1, 0, 0, 0, 0), (.isub, 1, 0, 0, 0, 0), (.istore 6, 2, 0, 0, 0, 0), (.aload_n 0, 1, 0, 0, 0, 0), (.getfield 85, 3, 12, 48, 0, 0), (.iload 5, 2, 0, 0, 0, 0), (.baload, 1, 0, 0, 0, 0), (.ifCond .eq 75, 3, 122, 0, 0, 0), (.aload_n 0, 1, 0, 0, 0, 0), (.iload 5, 2, 0, 0, 0, 0), (.iload_n 1, 1, 0, 0, 0, 0), (.iload_n 2, 1, 0, 0, 0, 0), (.invokevirtual 411, 3, 0, 3, 0, 0), (.ifCond .eq 64, 3, 122, 0, 0, 0), (.iload 6, 2, 0, 0, 0, 0), (.ifCond .ge 6, 3, 69, 0, 0, 0), (.goto 56, 3, 122, 0, 0, 0)]
theorem sgX12_goesOn_3_ok : qsg cX12_goesOn 12 9 false 3 sgX12_goesOn_3 = true := by decide +kernel
def sgX12_goesOn_69 : List qEl := [(.aload_n 0, 1, 0, 0, 0, 0), (.getfield 69, 3, 12, 43, 0, 0), (.aload_n 0, 1, 0, 0, 0, 0), (.iload 5, 2, 0, 0, 0, 0), (.iload_n 1, 1, 0, 0, 0, 0), (.iconst 1, 1, 0, 0, 1, 0), (.iadd, 1, 0, 0, 0, 0), (.iload 6, 2, 0, 0, 0, 0), (.invokevirtual 406, 3, 0, 3, 0, 0), (.laload, 1, 0, 0, 0, 0), (.lstore 7, 2, 0, 0, 0, 0), (.lload 7, 2, 0, 0, 0, 0), (.ldc2_w 409, 3, 0, 0, 0, (-1)), (.lcmp, 1, 0, 0, 0, 0), (.ifCond .eq 29, 3, 122, 0, 0, 0), (.lload_n 3, 1, 0, 0, 0, 0), (.aload_n 0, 1, 0, 0, 0, 0), (.getfield 73, 3, 12, 44, 0, 0), (.bipush 19, 2, 0, 0, 19, 0), (.iload_n 1, 1, 0, 0, 0, 0), (.imul, 1, 0, 0, 0, 0), (.iload_n 2, 1, 0, 0, 0, 0), (.iadd, 1, 0, 0, 0, 0), (.laload, 1, 0, 0, 0, 0), (.ladd, 1, 0, 0, 0, 0), (.lload 7, 2, 0, 0, 0, 0), (.ladd, 1, 0, 0, 0, 0), (.aload_n 0, 1, 0, 0, 0, 0), (.getfield 417, 3, 12, 49, 0, 0), (.lcmp, 1, 0, 0, 0, 0), (.ifCond .ne 5, 3, 122, 0, 0, 0), (.iconst 1, 1, 0, 0, 1, 0), (.ireturn, 1, 0, 0, 0, 0)]
theorem sgX12_goesOn_69_ok : qsg cX12_goesOn 12 9 false 69 sgX12_goesOn_69 = true := by decide +kernel
def sgX12_goesOn_122 : List qEl := [(.iinc 5 1, 3, 0, 0, 1, 0), (.goto (-122), 3, 3, 0, 0, 0)]
theorem sgX12_goesOn_122_ok : qsg cX12_goesOn 12 9 false 122 sgX12_goesOn_122 = true := by decide +kernel
def sgX12_goesOn_128 : List qEl := [(.iconst 0, 1, 0, 0, 0, 0), (.ireturn, 1, 0, 0, 0, 0)]
theorem sgX12_goesOn_128_ok : qsg cX12_goesOn 12 9 false 128 sgX12_goesOn_128 = true := by decide +kernel
def sgX12_isBest_0 : List qEl := [(.aload_n 0, 1, 0, 0, 0, 0), (.iload_n 1, 1, 0, 0, 0, 0), (.iconst 0, 1, 0, 0, 0, 0), (.bipush 9, 2, 0, 0, 9, 0), (.invokestatic 324, 3, 0, 3, 0, 0), (.ifCond .eq 11, 3, 19, 0, 0, 0), (.iload_n 2, 1, 0, 0, 0, 0), (.ifCond .eq 7, 3, 19, 0, 0, 0), (.iconst 1, 1, 0, 0, 1, 0), (.goto 4, 3, 20, 0, 0, 0)]
theorem sgX12_isBest_0_ok : qsg cX12_isBest 12 4 false 0 sgX12_isBest_0 = true := by decide +kernel
def sgX12_isBest_19 : List qEl := [(.iconst 0, 1, 0, 0, 0, 0)]
theorem sgX12_isBest_19_ok : qsg cX12_isBest 12 4 false 19 sgX12_isBest_19 = true := by decide +kernel
def sgX12_isBest_20 : List qEl := [(.iload_n 3, 1, 0, 0, 0, 0), (.iconst 1, 1, 0, 0, 1, 0), (.invokevirtual 247, 3, 0, 3, 0, 0), (.ifCond .eq 31, 3, 56, 0, 0, 0), (.aload_n 0, 1, 0, 0, 0, 0), (.aload_n 0, 1, 0, 0, 0, 0), (.getfield 171, 3, 12, 19, 0, 0), (.iconst 5, 1, 0, 0, 5, 0), (.if_icmp .gt 7, 3, 41, 0, 0, 0), (.iconst 1, 1, 0, 0, 1, 0), (.goto 4, 3, 42, 0, 0, 0)]
theorem sgX12_isBest_20_ok : qsg cX12_isBest 12 4 false 20 sgX12_isBest_20 = true := by decide +kernel
def sgX12_isBest_41 : List qEl := [(.iconst 0, 1, 0, 0, 0, 0)]
theorem sgX12_isBest_41_ok : qsg cX12_isBest 12 4 false 41 sgX12_isBest_41 = true := by decide +kernel
def sgX12_isBest_42 : List qEl := [(.iload_n 3, 1, 0, 0, 0, 0), (.iconst 1, 1, 0, 0, 1, 0), (.iadd, 1, 0, 0, 0, 0), (.iconst 2, 1, 0, 0, 2, 0), (.invokevirtual 247, 3, 0, 3, 0, 0), (.ifCond .eq 7, 3, 56, 0, 0, 0), (.iconst 1, 1, 0, 0, 1, 0), (.goto 4, 3, 57, 0, 0, 0)]
theorem sgX12_isBest_42_ok : qsg cX12_isBest 12 4 false 42 sgX12_isBest_42 = true := by decide +kernel
def sgX12_isBest_56 : List qEl := [(.iconst 0, 1, 0, 0, 0, 0)]
theorem sgX12_isBest_56_ok : qsg cX12_isBest 12 4 false 56 sgX12_isBest_56 = true := by decide +kernel
def sgX12_isBest_57 : List qEl := [(.ireturn, 1, 0, 0, 0, 0)]
theorem sgX12_isBest_57_ok : qsg cX12_isBest 12 4 false 57 sgX12_isBest_57 = true := by decide +kernel
def sgX12_best_0 : List qEl := [(.aload_n 0, 1, 0, 0, 0, 0), (.iconst 0, 1, 0, 0, 0, 0), (.putfield 3, 3, 12, 0, 0, 0), (.aload_n 0, 1, 0, 0, 0, 0), (.iload_n 1, 1, 0, 0, 0, 0), (.iload_n 2, 1, 0, 0, 0, 0), (.iconst 0, 1, 0, 0, 0, 0), (.iconst 1, 1, 0, 0, 1, 0), (.invokestatic 324, 3, 0, 3, 0, 0), (.iconst 1, 1, 0, 0, 1, 0), (.invokevirtual 433, 3, 0, 3, 0, 0), (.ifCond .ne 5, 3, 22, 0, 0, 0), (.lconst 0, 1, 0, 0, 0, 0), (.lreturn, 1, 0, 0, 0, 0)]
theorem sgX12_best_0_ok : qsg cX12_best 12 3 false 0 sgX12_best_0 = true := by decide +kernel
def sgX12_best_22 : List qEl := [(.aload_n 0, 1, 0, 0, 0, 0), (.iload_n 1, 1, 0, 0, 0, 0), (.invokevirtual 437, 3, 0, 1, 0, 0), (.aload_n 0, 1, 0, 0, 0, 0), (.getfield 417, 3, 12, 49, 0, 0), (.ldc2_w 378, 3, 0, 0, 0, 268435456), (.iload_n 2, 1, 0, 0, 0, 0), (.invokestatic 393, 3, 0, 3, 0, 0), (.lreturn, 1, 0, 0, 0, 0)]
theorem sgX12_best_22_ok : qsg cX12_best 12 3 false 22 sgX12_best_22 = true := by decide +kernel
def sgX12_bestAt_0 : List qEl := [(.aload_n 0, 1, 0, 0, 0, 0), (.iconst 0, 1, 0, 0, 0, 0), (.putfield 3, 3, 12, 0, 0, 0), (.aload_n 0, 1, 0, 0, 0, 0), (.iload_n 2, 1, 0, 0, 0, 0), (.iconst 1, 1, 0, 0, 1, 0), (.invokevirtual 343, 3, 0, 2, 0, 0), (.ifCond .eq 13, 3, 24, 0, 0, 0), (.aload_n 0, 1, 0, 0, 0, 0), (.iload_n 1, 1, 0, 0, 0, 0), (.iconst 1, 1, 0, 0, 1, 0), (.iconst 2, 1, 0, 0, 2, 0), (.invokevirtual 433, 3, 0, 3, 0, 0), (.ifCond .ne 5, 3, 26, 0, 0, 0)]
theorem sgX12_bestAt_0_ok : qsg cX12_bestAt 12 4 false 0 sgX12_bestAt_0 = true := by decide +kernel
def sgX12_bestAt_24 : List qEl := [(.iconst 0, 1, 0, 0, 0, 0), (.ireturn, 1, 0, 0, 0, 0)]
theorem sgX12_bestAt_24_ok : qsg cX12_bestAt 12 4 false 24 sgX12_bestAt_24 = true := by decide +kernel
def sgX12_bestAt_26 : List qEl := [(.aload_n 0, 1, 0, 0, 0, 0), (.iload_n 1, 1, 0, 0, 0, 0), (.invokevirtual 437, 3, 0, 1, 0, 0), (.aload_n 0, 1, 0, 0, 0, 0), (.getfield 79, 3, 12, 46, 0, 0), (.iload_n 2, 1, 0, 0, 0, 0), (.iaload, 1, 0, 0, 0, 0), (.istore_n 3, 1, 0, 0, 0, 0), (.iload_n 3, 1, 0, 0, 0, 0), (.ifCond .ne 7, 3, 46, 0, 0, 0), (.iconst (-1), 1, 0, 0, (-1), 0), (.goto 17, 3, 60, 0, 0, 0)]
theorem sgX12_bestAt_26_ok : qsg cX12_bestAt 12 4 false 26 sgX12_bestAt_26 = true := by decide +kernel
def sgX12_bestAt_46 : List qEl := [(.bipush 10, 2, 0, 0, 10, 0), (.iload_n 3, 1, 0, 0, 0, 0), (.iconst 1, 1, 0, 0, 1, 0), (.isub, 1, 0, 0, 0, 0), (.iconst 3, 1, 0, 0, 3, 0), (.idiv, 1, 0, 0, 0, 0), (.imul, 1, 0, 0, 0, 0), (.iload_n 3, 1, 0, 0, 0, 0), (.iconst 1, 1, 0, 0, 1, 0), (.isub, 1, 0, 0, 0, 0), (.iconst 3, 1, 0, 0, 3, 0), (.irem, 1, 0, 0, 0, 0), (.iadd, 1, 0, 0, 0, 0)]
theorem sgX12_bestAt_46_ok : qsg cX12_bestAt 12 4 false 46 sgX12_bestAt_46 = true := by decide +kernel
def sgX12_bestAt_60 : List qEl := [(.ireturn, 1, 0, 0, 0, 0)]
theorem sgX12_bestAt_60_ok : qsg cX12_bestAt 12 4 false 60 sgX12_bestAt_60 = true := by decide +kernel
def sgX12_bestLong_0 : List qEl := [(.aload_n 0, 1, 0, 0, 0, 0), (.iconst 0, 1, 0, 0, 0, 0), (.putfield 3, 3, 12, 0, 0, 0), (.aload_n 0, 1, 0, 0, 0, 0), (.iload_n 1, 1, 0, 0, 0, 0), (.iconst 1, 1, 0, 0, 1, 0), (.iconst 1, 1, 0, 0, 1, 0), (.invokevirtual 433, 3, 0, 3, 0, 0), (.ifCond .ne 5, 3, 17, 0, 0, 0), (.iconst 0, 1, 0, 0, 0, 0), (.ireturn, 1, 0, 0, 0, 0)]
theorem sgX12_bestLong_0_ok : qsg cX12_bestLong 12 2 false 0 sgX12_bestLong_0 = true := by decide +kernel
def sgX12_bestLong_17 : List qEl := [(.aload_n 0, 1, 0, 0, 0, 0), (.iload_n 1, 1, 0, 0, 0, 0), (.invokevirtual 437, 3, 0, 1, 0, 0), (.aload_n 0, 1, 0, 0, 0, 0), (.getfield 426, 3, 12, 50, 0, 0), (.ireturn, 1, 0, 0, 0, 0)]
theorem sgX12_bestLong_17_ok : qsg cX12_bestLong 12 2 false 17 sgX12_bestLong_17 = true := by decide +kernel
def sgX12_weigh_0 : List qEl := [(.bipush 10, 2, 0, 0, 10, 0), (.iload_n 1, 1, 0, 0, 0, 0), (.imul, 1, 0, 0, 0, 0), (.istore 4, 2, 0, 0, 0, 0), (.aload_n 0, 1, 0, 0, 0, 0), (.getfield 26, 3, 12, 11, 0, 0), (.iload 4, 2, 0, 0, 0, 0), (.bipush 6, 2, 0, 0, 6, 0), (.iadd, 1, 0, 0, 0, 0), (.iaload, 1, 0, 0, 0, 0), (.istore 5, 2, 0, 0, 0, 0), (.aload_n 0, 1, 0, 0, 0, 0), (.getfield 26, 3, 12, 11, 0, 0), (.iload 4, 2, 0, 0, 0, 0), (.bipush 7, 2, 0, 0, 7, 0), (.iadd, 1, 0, 0, 0, 0), (.iaload, 1, 0, 0, 0, 0), (.istore 6, 2, 0, 0, 0, 0), (.aload_n 0, 1, 0, 0, 0, 0), (.aload_n 0, 1, 0, 0, 0, 0), (.getfield 26, 3, 12, 11, 0, 0), (.iload 4, 2, 0, 0, 0, 0), (.iconst 3, 1, 0, 0, 3, 0), (.iadd, 1, 0, 0, 0, 0), (.iaload, 1, 0, 0, 0, 0), (.i2l, 1, 0, 0, 0, 0), (.iload_n 2, 1, 0, 0, 0, 0), (.ifCond .ne 11, 3, 53, 0, 0, 0), (.bipush 16, 2, 0, 0, 16, 0), (.iload 5, 2, 0, 0, 0, 0), (.isub, 1, 0, 0, 0, 0), (.goto 15, 3, 65, 0, 0, 0)]
theorem sgX12_weigh_0_ok : qsg cX12_weigh 12 8 false 0 sgX12_weigh_0 = true := by decide +kernel
def sgX12_weigh_53 : List qEl := [(.iload_n 2, 1, 0, 0, 0, 0), (.iconst 1, 1, 0, 0, 1, 0), (.if_icmp .ne 8, 3, 63, 0, 0, 0), (.iload 5, 2, 0, 0, 0, 0), (.goto 5, 3, 65, 0, 0, 0)]
theorem sgX12_weigh_53_ok : qsg cX12_weigh 12 8 false 53 sgX12_weigh_53 = true := by decide +kernel
def sgX12_weigh_63 : List qEl := [(.bipush 16, 2, 0, 0, 16, 0)]
theorem sgX12_weigh_63_ok : qsg cX12_weigh 12 8 false 63 sgX12_weigh_63 = true := by decide +kernel
def sgX12_weigh_65 : List qEl := [(.i2l, 1, 0, 0, 0, 0), (.lmul, 1, 0, 0, 0, 0), (.putfield 440, 3, 12, 51, 0, 0), (.aload_n 0, 1, 0, 0, 0, 0), (.bipush 16, 2, 0, 0, 16, 0), (.aload_n 0, 1, 0, 0, 0, 0), (.getfield 26, 3, 12, 11, 0, 0), (.iload 4, 2, 0, 0, 0, 0), (.iconst 3, 1, 0, 0, 3, 0), (.iadd, 1, 0, 0, 0, 0), (.iaload, 1, 0, 0, 0, 0), (.isub, 1, 0, 0, 0, 0), (.i2l, 1, 0, 0, 0, 0), (.iload_n 2, 1, 0, 0, 0, 0), (.ifCond .ne 11, 3, 96, 0, 0, 0), (.bipush 16, 2, 0, 0, 16, 0), (.iload 6, 2, 0, 0, 0, 0), (.isub, 1, 0, 0, 0, 0), (.goto 15, 3, 108, 0, 0, 0)]
theorem sgX12_weigh_65_ok : qsg cX12_weigh 12 8 false 65 sgX12_weigh_65 = true := by decide +kernel
def sgX12_weigh_96 : List qEl := [(.iload_n 2, 1, 0, 0, 0, 0), (.iconst 1, 1, 0, 0, 1, 0), (.if_icmp .ne 8, 3, 106, 0, 0, 0), (.iload 6, 2, 0, 0, 0, 0), (.goto 5, 3, 108, 0, 0, 0)]
theorem sgX12_weigh_96_ok : qsg cX12_weigh 12 8 false 96 sgX12_weigh_96 = true := by decide +kernel
def sgX12_weigh_106 : List qEl := [(.bipush 16, 2, 0, 0, 16, 0)]
theorem sgX12_weigh_106_ok : qsg cX12_weigh 12 8 false 106 sgX12_weigh_106 = true := by decide +kernel
def sgX12_weigh_108 : List qEl := [(.i2l, 1, 0, 0, 0, 0), (.lmul, 1, 0, 0, 0, 0), (.putfield 443, 3, 12, 52, 0, 0), (.iconst 0, 1, 0, 0, 0, 0), (.istore 7, 2, 0, 0, 0, 0)]
theorem sgX12_weigh_108_ok : qsg cX12_weigh 12 8 false 108 sgX12_weigh_108 = true := by decide +kernel
def sgX12_weigh_116 : List qEl := [(.iload 7, 2, 0, 0, 0, 0), (.iload_n 3, 1, 0, 0, 0, 0), (.if_icmp .ge 43, 3, 162, 0, 0, 0), (.aload_n 0, 1, 0, 0, 0, 0), (.dup, 1, 0, 0, 0, 0), (.getfield 440, 3, 12, 51, 0, 0), (.bipush 16, 2, 0, 0, 16, 0), (.aload_n 0, 1, 0, 0, 0, 0), (.getfield 26, 3, 12, 11, 0, 0), (.iload 4, 2, 0, 0, 0, 0), (.iconst 4, 1, 0, 0, 4, 0), (.iadd, 1, 0, 0, 0, 0), (.iaload, 1, 0, 0, 0, 0), (.isub, 1, 0, 0, 0, 0), (.i2l, 1, 0, 0, 0, 0), (.lmul, 1, 0, 0, 0, 0), (.putfield 440, 3, 12, 51, 0, 0), (.aload_n 0, 1, 0, 0, 0, 0), (.dup, 1, 0, 0, 0, 0), (.getfield 443, 3, 12, 52, 0, 0), (.ldc2_w 376, 3, 0, 0, 0, 16), (.lmul, 1, 0, 0, 0, 0), (.putfield 443, 3, 12, 52, 0, 0), (.iinc 7 1, 3, 0, 0, 1, 0), (.goto (-43), 3, 116, 0, 0, 0)]
theorem sgX12_weigh_116_ok : qsg cX12_weigh 12 8 false 116 sgX12_weigh_116 = true := by decide +kernel
def sgX12_weigh_162 : List qEl := [(.return_, 1, 0, 0, 0, 0)]
theorem sgX12_weigh_162_ok : qsg cX12_weigh 12 8 false 162 sgX12_weigh_162 = true := by decide +kernel
def sgX12_isVain_0 : List qEl := [(.aload_n 0, 1, 0, 0, 0, 0), (.iload_n 1, 1, 0, 0, 0, 0), (.iconst 1, 1, 0, 0, 1, 0), (.invokevirtual 343, 3, 0, 2, 0, 0), (.ifCond .eq 45, 3, 51, 0, 0, 0), (.aload_n 0, 1, 0, 0, 0, 0), (.iload_n 2, 1, 0, 0, 0, 0), (.iconst 0, 1, 0, 0, 0, 0), (.iconst 2, 1, 0, 0, 2, 0), (.invokestatic 324, 3, 0, 3, 0, 0), (.ifCond .eq 22, 3, 38, 0, 0, 0), (.iload_n 3, 1, 0, 0, 0, 0), (.iconst 0, 1, 0, 0, 0, 0), (.bipush 10, 2, 0, 0, 10, 0), (.invokestatic 324, 3, 0, 3, 0, 0), (.ifCond .eq 12, 3, 38, 0, 0, 0), (.iload 4, 2, 0, 0, 0, 0), (.ifCond .eq 7, 3, 38, 0, 0, 0), (.iconst 1, 1, 0, 0, 1, 0), (.goto 4, 3, 39, 0, 0, 0)]
theorem sgX12_isVain_0_ok : qsg cX12_isVain 12 5 false 0 sgX12_isVain_0 = true := by decide +kernel
def sgX12_isVain_38 : List qEl := [(.iconst 0, 1, 0, 0, 0, 0)]
theorem sgX12_isVain_38_ok : qsg cX12_isVain 12 5 false 38 sgX12_isVain_38 = true := by decide +kernel
def sgX12_isVain_39 : List qEl := [(.iconst 2, 1, 0, 0, 2, 0), (.iconst 1, 1, 0, 0, 1, 0), (.invokevirtual 247, 3, 0, 3, 0, 0), (.ifCond .eq 7, 3, 51, 0, 0, 0), (.iconst 1, 1, 0, 0, 1, 0), (.goto 4, 3, 52, 0, 0, 0)]
theorem sgX12_isVain_39_ok : qsg cX12_isVain 12 5 false 39 sgX12_isVain_39 = true := by decide +kernel
def sgX12_isVain_51 : List qEl := [(.iconst 0, 1, 0, 0, 0, 0)]
theorem sgX12_isVain_51_ok : qsg cX12_isVain 12 5 false 51 sgX12_isVain_51 = true := by decide +kernel
def sgX12_isVain_52 : List qEl := [(.ireturn, 1, 0, 0, 0, 0)]
theorem sgX12_isVain_52_ok : qsg cX12_isVain 12 5 false 52 sgX12_isVain_52 = true := by decide +kernel
def sgX12_homeBy_0 : List qEl := [(.aload_n 0, 1, 0, 0, 0, 0), (.getfield 440, 3, 12, 51, 0, 0), (.aload_n 0, 1, 0, 0, 0, 0), (.getfield 443, 3, 12, 52, 0, 0), (.ladd, 1, 0, 0, 0, 0), (.lconst 0, 1, 0, 0, 0, 0), (.lcmp, 1, 0, 0, 0, 0), (.ifCond .ne 9, 3, 20, 0, 0, 0), (.iload 5, 2, 0, 0, 0, 0), (.i2l, 1, 0, 0, 0, 0), (.goto 20, 3, 37, 0, 0, 0)]
theorem sgX12_homeBy_0_ok : qsg cX12_homeBy 12 6 false 0 sgX12_homeBy_0 = true := by decide +kernel
def sgX12_homeBy_20 : List qEl := [(.lload_n 1, 1, 0, 0, 0, 0), (.lload_n 3, 1, 0, 0, 0, 0), (.aload_n 0, 1, 0, 0, 0, 0), (.getfield 440, 3, 12, 51, 0, 0), (.aload_n 0, 1, 0, 0, 0, 0), (.getfield 443, 3, 12, 52, 0, 0), (.ladd, 1, 0, 0, 0, 0), (.lmul, 1, 0, 0, 0, 0), (.iload 5, 2, 0, 0, 0, 0), (.invokestatic 393, 3, 0, 3, 0, 0)]
theorem sgX12_homeBy_20_ok : qsg cX12_homeBy 12 6 false 20 sgX12_homeBy_20 = true := by decide +kernel
def sgX12_homeBy_37 : List qEl := [(.lreturn, 1, 0, 0, 0, 0)]
theorem sgX12_homeBy_37_ok : qsg cX12_homeBy 12 6 false 37 sgX12_homeBy_37 = true := by decide +kernel
def sgX12_home_0 : List qEl := [(.aload_n 0, 1, 0, 0, 0, 0), (.iconst 0, 1, 0, 0, 0, 0), (.putfield 3, 3, 12, 0, 0, 0), (.aload_n 0, 1, 0, 0, 0, 0), (.iload_n 1, 1, 0, 0, 0, 0), (.iload_n 2, 1, 0, 0, 0, 0), (.iload_n 3, 1, 0, 0, 0, 0), (.iload 4, 2, 0, 0, 0, 0), (.iconst 0, 1, 0, 0, 0, 0), (.iconst 1, 1, 0, 0, 1, 0), (.invokestatic 324, 3, 0, 3, 0, 0), (.invokevirtual 446, 3, 0, 4, 0, 0), (.ifCond .ne 5, 3, 24, 0, 0, 0), (.lconst 0, 1, 0, 0, 0, 0), (.lreturn, 1, 0, 0, 0, 0)]
theorem sgX12_home_0_ok : qsg cX12_home 12 5 false 0 sgX12_home_0 = true := by decide +kernel
def sgX12_home_24 : List qEl := [(.aload_n 0, 1, 0, 0, 0, 0), (.iload_n 1, 1, 0, 0, 0, 0), (.iload_n 2, 1, 0, 0, 0, 0), (.iload_n 3, 1, 0, 0, 0, 0), (.invokevirtual 450, 3, 0, 3, 0, 0), (.aload_n 0, 1, 0, 0, 0, 0), (.aload_n 0, 1, 0, 0, 0, 0), (.getfield 440, 3, 12, 51, 0, 0), (.lconst 1, 1, 0, 0, 0, 1), (.iload 4, 2, 0, 0, 0, 0), (.invokevirtual 453, 3, 0, 3, 0, 0), (.lreturn, 1, 0, 0, 0, 0)]
theorem sgX12_home_24_ok : qsg cX12_home 12 5 false 24 sgX12_home_24 = true := by decide +kernel
def sgX12_another_0 : List qEl := [(.aload_n 0, 1, 0, 0, 0, 0), (.iconst 0, 1, 0, 0, 0, 0), (.putfield 3, 3, 12, 0, 0, 0), (.aload_n 0, 1, 0, 0, 0, 0), (.iload_n 1, 1, 0, 0, 0, 0), (.iload_n 2, 1, 0, 0, 0, 0), (.iload_n 3, 1, 0, 0, 0, 0), (.iload 4, 2, 0, 0, 0, 0), (.iconst 0, 1, 0, 0, 0, 0), (.iconst 1, 1, 0, 0, 1, 0), (.invokestatic 324, 3, 0, 3, 0, 0), (.invokevirtual 446, 3, 0, 4, 0, 0), (.ifCond .ne 5, 3, 24, 0, 0, 0), (.lconst 0, 1, 0, 0, 0, 0), (.lreturn, 1, 0, 0, 0, 0)]
theorem sgX12_another_0_ok : qsg cX12_another 12 5 false 0 sgX12_another_0 = true := by decide +kernel
def sgX12_another_24 : List qEl := [(.aload_n 0, 1, 0, 0, 0, 0), (.iload_n 1, 1, 0, 0, 0, 0), (.iload_n 2, 1, 0, 0, 0, 0), (.iload_n 3, 1, 0, 0, 0, 0), (.invokevirtual 450, 3, 0, 3, 0, 0), (.aload_n 0, 1, 0, 0, 0, 0), (.aload_n 0, 1, 0, 0, 0, 0), (.getfield 440, 3, 12, 51, 0, 0), (.aload_n 0, 1, 0, 0, 0, 0), (.getfield 26, 3, 12, 11, 0, 0), (.bipush 10, 2, 0, 0, 10, 0), (.iload_n 1, 1, 0, 0, 0, 0), (.imul, 1, 0, 0, 0, 0), (.iconst 4, 1, 0, 0, 4, 0), (.iadd, 1, 0, 0, 0, 0), (.iaload, 1, 0, 0, 0, 0), (.i2l, 1, 0, 0, 0, 0), (.lmul, 1, 0, 0, 0, 0), (.ldc2_w 376, 3, 0, 0, 0, 16), (.iload 4, 2, 0, 0, 0, 0), (.invokevirtual 453, 3, 0, 3, 0, 0), (.lreturn, 1, 0, 0, 0, 0)]
theorem sgX12_another_24_ok : qsg cX12_another 12 5 false 24 sgX12_another_24 = true := by decide +kernel
def sgX12_lineAt_0 : List qEl := [(.aload_n 0, 1, 0, 0, 0, 0), (.iconst 0, 1, 0, 0, 0, 0), (.putfield 3, 3, 12, 0, 0, 0), (.aload_n 0, 1, 0, 0, 0, 0), (.iload_n 1, 1, 0, 0, 0, 0), (.iload_n 2, 1, 0, 0, 0, 0), (.iconst 0, 1, 0, 0, 0, 0), (.iload_n 3, 1, 0, 0, 0, 0), (.iconst 0, 1, 0, 0, 0, 0), (.sipush 999, 3, 0, 0, 999, 0), (.invokestatic 324, 3, 0, 3, 0, 0), (.invokevirtual 446, 3, 0, 4, 0, 0), (.ifCond .ne 5, 3, 25, 0, 0, 0), (.iconst 0, 1, 0, 0, 0, 0), (.ireturn, 1, 0, 0, 0, 0)]
theorem sgX12_lineAt_0_ok : qsg cX12_lineAt 12 5 false 0 sgX12_lineAt_0 = true := by decide +kernel
def sgX12_lineAt_25 : List qEl := [(.iconst 0, 1, 0, 0, 0, 0), (.istore 4, 2, 0, 0, 0, 0)]
theorem sgX12_lineAt_25_ok : qsg cX12_lineAt 12 5 false 25 sgX12_lineAt_25 = true := by decide +kernel
def sgX12_lineAt_28 : List qEl := [(.iload 4, 2, 0, 0, 0, 0), (.bipush 10, 2, 0, 0, 10, 0), (.if_icmp .gt 90, 3, 122, 0, 0, 0), (.aload_n 0, 1, 0, 0, 0, 0), (.iload_n 1, 1, 0, 0, 0, 0), (.iload_n 2, 1, 0, 0, 0, 0), (.iload 4, 2, 0, 0, 0, 0), (.invokevirtual 450, 3, 0, 3, 0, 0), (.aload_n 0, 1, 0, 0, 0, 0), (.getfield 440, 3, 12, 51, 0, 0), (.aload_n 0, 1, 0, 0, 0, 0), (.getfield 443, 3, 12, 52, 0, 0), (.ladd, 1, 0, 0, 0, 0), (.lconst 0, 1, 0, 0, 0, 0), (.lcmp, 1, 0, 0, 0, 0), (.ifCond .ne 10, 3, 64, 0, 0, 0), (.iload_n 3, 1, 0, 0, 0, 0), (.ifCond .le 58, 3, 116, 0, 0, 0), (.goto 52, 3, 113, 0, 0, 0)]
theorem sgX12_lineAt_28_ok : qsg cX12_lineAt 12 5 false 28 sgX12_lineAt_28 = true := by decide +kernel
def sgX12_lineAt_64 : List qEl := [(.aload_n 0, 1, 0, 0, 0, 0), (.getfield 440, 3, 12, 51, 0, 0), (.aload_n 0, 1, 0, 0, 0, 0), (.getfield 26, 3, 12, 11, 0, 0), (.bipush 10, 2, 0, 0, 10, 0), (.iload_n 1, 1, 0, 0, 0, 0), (.imul, 1, 0, 0, 0, 0), (.iconst 4, 1, 0, 0, 4, 0), (.iadd, 1, 0, 0, 0, 0), (.iaload, 1, 0, 0, 0, 0), (.i2l, 1, 0, 0, 0, 0), (.lmul, 1, 0, 0, 0, 0), (.aload_n 0, 1, 0, 0, 0, 0), (.iload_n 1, 1, 0, 0, 0, 0), (.iload 4, 2, 0, 0, 0, 0), (.iconst 1, 1, 0, 0, 1, 0), (.iadd, 1, 0, 0, 0, 0), (.iconst 0, 1, 0, 0, 0, 0), (.invokevirtual 359, 3, 0, 3, 0, 0), (.i2l, 1, 0, 0, 0, 0), (.lmul, 1, 0, 0, 0, 0), (.iload_n 3, 1, 0, 0, 0, 0), (.i2l, 1, 0, 0, 0, 0), (.ldc2_w 376, 3, 0, 0, 0, 16), (.lmul, 1, 0, 0, 0, 0), (.aload_n 0, 1, 0, 0, 0, 0), (.getfield 440, 3, 12, 51, 0, 0), (.aload_n 0, 1, 0, 0, 0, 0), (.getfield 443, 3, 12, 52, 0, 0), (.ladd, 1, 0, 0, 0, 0), (.lmul, 1, 0, 0, 0, 0), (.lcmp, 1, 0, 0, 0, 0), (.ifCond .ge 6, 3, 116, 0, 0, 0)]
theorem sgX12_lineAt_64_ok : qsg cX12_lineAt 12 5 false 64 sgX12_lineAt_64 = true := by decide +kernel
def sgX12_lineAt_113 : List qEl := [(.iload 4, 2, 0, 0, 0, 0), (.ireturn, 1, 0, 0, 0, 0)]
theorem sgX12_lineAt_113_ok : qsg cX12_lineAt 12 5 false 113 sgX12_lineAt_113 = true := by decide +kernel
def sgX12_lineAt_116 : List qEl := [(.iinc 4 1, 3, 0, 0, 1, 0), (.goto (-91), 3, 28, 0, 0, 0)]
theorem sgX12_lineAt_116_ok : qsg cX12_lineAt 12 5 false 116 sgX12_lineAt_116 = true := by decide +kernel
def sgX12_lineAt_122 : List qEl := [(.iconst (-1), 1, 0, 0, (-1), 0), (.ireturn, 1, 0, 0, 0, 0)]
theorem sgX12_lineAt_122_ok : qsg cX12_lineAt 12 5 false 122 sgX12_lineAt_122 = true := by decide +kernel
def sgX12_ring_0 : List qEl := [(.aload_n 0, 1, 0, 0, 0, 0), (.iconst 0, 1, 0, 0, 0, 0), (.putfield 3, 3, 12, 0, 0, 0), (.aload_n 0, 1, 0, 0, 0, 0), (.iload_n 1, 1, 0, 0, 0, 0), (.iconst 1, 1, 0, 0, 1, 0), (.invokevirtual 343, 3, 0, 2, 0, 0), (.ifCond .eq 18, 3, 29, 0, 0, 0), (.aload_n 0, 1, 0, 0, 0, 0), (.iload_n 2, 1, 0, 0, 0, 0), (.iconst 0, 1, 0, 0, 0, 0), (.iconst 5, 1, 0, 0, 5, 0), (.invokestatic 324, 3, 0, 3, 0, 0), (.iconst 2, 1, 0, 0, 2, 0), (.iconst 1, 1, 0, 0, 1, 0), (.invokevirtual 247, 3, 0, 3, 0, 0), (.ifCond .ne 5, 3, 31, 0, 0, 0)]
theorem sgX12_ring_0_ok : qsg cX12_ring 12 9 false 0 sgX12_ring_0 = true := by decide +kernel
def sgX12_ring_29 : List qEl := [(.iconst 0, 1, 0, 0, 0, 0), (.ireturn, 1, 0, 0, 0, 0)]
theorem sgX12_ring_29_ok : qsg cX12_ring 12 9 false 29 sgX12_ring_29 = true := by decide +kernel
def sgX12_ring_31 : List qEl := [(.iconst (-1), 1, 0, 0, (-1), 0), (.istore_n 3, 1, 0, 0, 0, 0), (.lconst 0, 1, 0, 0, 0, 0), (.lstore 4, 2, 0, 0, 0, 0), (.lconst 0, 1, 0, 0, 0, 0), (.lstore 6, 2, 0, 0, 0, 0), (.iconst 0, 1, 0, 0, 0, 0), (.istore 8, 2, 0, 0, 0, 0)]
theorem sgX12_ring_31_ok : qsg cX12_ring 12 9 false 31 sgX12_ring_31 = true := by decide +kernel
def sgX12_ring_42 : List qEl := [(.iload 8, 2, 0, 0, 0, 0), (.iconst 3, 1, 0, 0, 3, 0), (.if_icmp .ge 71, 3, 116, 0, 0, 0), (.aload_n 0, 1, 0, 0, 0, 0), (.iload_n 1, 1, 0, 0, 0, 0), (.iload_n 2, 1, 0, 0, 0, 0), (.iload 8, 2, 0, 0, 0, 0), (.iconst 0, 1, 0, 0, 0, 0), (.invokevirtual 385, 3, 0, 4, 0, 0), (.iload_n 3, 1, 0, 0, 0, 0), (.iconst (-1), 1, 0, 0, (-1), 0), (.if_icmp .eq 36, 3, 95, 0, 0, 0), (.aload_n 0, 1, 0, 0, 0, 0), (.getfield 368, 3, 12, 39, 0, 0), (.lload 4, 2, 0, 0, 0, 0), (.lcmp, 1, 0, 0, 0, 0), (.ifCond .lt 41, 3, 110, 0, 0, 0), (.aload_n 0, 1, 0, 0, 0, 0), (.getfield 368, 3, 12, 39, 0, 0), (.lload 4, 2, 0, 0, 0, 0), (.lcmp, 1, 0, 0, 0, 0), (.ifCond .ne 16, 3, 95, 0, 0, 0), (.aload_n 0, 1, 0, 0, 0, 0), (.getfield 370, 3, 12, 41, 0, 0), (.lload 6, 2, 0, 0, 0, 0), (.lcmp, 1, 0, 0, 0, 0), (.ifCond .lt 6, 3, 95, 0, 0, 0), (.goto 18, 3, 110, 0, 0, 0)]
theorem sgX12_ring_42_ok : qsg cX12_ring 12 9 false 42 sgX12_ring_42 = true := by decide +kernel
def sgX12_ring_95 : List qEl := [(.iload 8, 2, 0, 0, 0, 0), (.istore_n 3, 1, 0, 0, 0, 0), (.aload_n 0, 1, 0, 0, 0, 0), (.getfield 368, 3, 12, 39, 0, 0), (.lstore 4, 2, 0, 0, 0, 0), (.aload_n 0, 1, 0, 0, 0, 0), (.getfield 370, 3, 12, 41, 0, 0), (.lstore 6, 2, 0, 0, 0, 0)]
theorem sgX12_ring_95_ok : qsg cX12_ring 12 9 false 95 sgX12_ring_95 = true := by decide +kernel
def sgX12_ring_110 : List qEl := [(.iinc 8 1, 3, 0, 0, 1, 0), (.goto (-71), 3, 42, 0, 0, 0)]
theorem sgX12_ring_110_ok : qsg cX12_ring 12 9 false 110 sgX12_ring_110 = true := by decide +kernel
def sgX12_ring_116 : List qEl := [(.iload_n 3, 1, 0, 0, 0, 0), (.ireturn, 1, 0, 0, 0, 0)]
theorem sgX12_ring_116_ok : qsg cX12_ring 12 9 false 116 sgX12_ring_116 = true := by decide +kernel
def sgX12_pays_0 : List qEl := [(.aload_n 0, 1, 0, 0, 0, 0), (.iconst 0, 1, 0, 0, 0, 0), (.putfield 3, 3, 12, 0, 0, 0), (.aload_n 0, 1, 0, 0, 0, 0), (.iload_n 1, 1, 0, 0, 0, 0), (.iconst 1, 1, 0, 0, 1, 0), (.invokevirtual 343, 3, 0, 2, 0, 0), (.ifCond .eq 46, 3, 57, 0, 0, 0), (.aload_n 0, 1, 0, 0, 0, 0), (.iload_n 2, 1, 0, 0, 0, 0), (.iconst 0, 1, 0, 0, 0, 0), (.iconst 5, 1, 0, 0, 5, 0), (.invokestatic 324, 3, 0, 3, 0, 0), (.ifCond .eq 27, 3, 48, 0, 0, 0), (.iload_n 3, 1, 0, 0, 0, 0), (.iconst 0, 1, 0, 0, 0, 0), (.iconst 2, 1, 0, 0, 2, 0), (.invokestatic 324, 3, 0, 3, 0, 0), (.ifCond .eq 18, 3, 48, 0, 0, 0), (.iload 4, 2, 0, 0, 0, 0), (.iconst 0, 1, 0, 0, 0, 0), (.bipush 99, 2, 0, 0, 99, 0), (.invokestatic 324, 3, 0, 3, 0, 0), (.ifCond .eq 7, 3, 48, 0, 0, 0), (.iconst 1, 1, 0, 0, 1, 0), (.goto 4, 3, 49, 0, 0, 0)]
theorem sgX12_pays_0_ok : qsg cX12_pays 12 5 false 0 sgX12_pays_0 = true := by decide +kernel
def sgX12_pays_48 : List qEl := [(.iconst 0, 1, 0, 0, 0, 0)]
theorem sgX12_pays_48_ok : qsg cX12_pays 12 5 false 48 sgX12_pays_48 = true := by decide +kernel
def sgX12_pays_49 : List qEl := [(.iconst 2, 1, 0, 0, 2, 0), (.iconst 1, 1, 0, 0, 1, 0), (.invokevirtual 247, 3, 0, 3, 0, 0), (.ifCond .ne 5, 3, 59, 0, 0, 0)]
theorem sgX12_pays_49_ok : qsg cX12_pays 12 5 false 49 sgX12_pays_49 = true := by decide +kernel
def sgX12_pays_57 : List qEl := [(.iconst 0, 1, 0, 0, 0, 0), (.ireturn, 1, 0, 0, 0, 0)]
theorem sgX12_pays_57_ok : qsg cX12_pays 12 5 false 57 sgX12_pays_57 = true := by decide +kernel
def sgX12_pays_59 : List qEl := [(.aload_n 0, 1, 0, 0, 0, 0), (.iload_n 1, 1, 0, 0, 0, 0), (.iload_n 2, 1, 0, 0, 0, 0), (.iload_n 3, 1, 0, 0, 0, 0), (.iconst 0, 1, 0, 0, 0, 0), (.invokevirtual 385, 3, 0, 4, 0, 0), (.aload_n 0, 1, 0, 0, 0, 0), (.getfield 368, 3, 12, 39, 0, 0), (.iload 4, 2, 0, 0, 0, 0), (.i2l, 1, 0, 0, 0, 0), (.aload_n 0, 1, 0, 0, 0, 0), (.getfield 370, 3, 12, 41, 0, 0), (.lmul, 1, 0, 0, 0, 0), (.lcmp, 1, 0, 0, 0, 0), (.ifCond .lt 7, 3, 87, 0, 0, 0), (.iconst 1, 1, 0, 0, 1, 0), (.goto 4, 3, 88, 0, 0, 0)]
theorem sgX12_pays_59_ok : qsg cX12_pays 12 5 false 59 sgX12_pays_59 = true := by decide +kernel
def sgX12_pays_87 : List qEl := [(.iconst 0, 1, 0, 0, 0, 0)]
theorem sgX12_pays_87_ok : qsg cX12_pays 12 5 false 87 sgX12_pays_87 = true := by decide +kernel
def sgX12_pays_88 : List qEl := [(.ireturn, 1, 0, 0, 0, 0)]
theorem sgX12_pays_88_ok : qsg cX12_pays 12 5 false 88 sgX12_pays_88 = true := by decide +kernel
def sgX12_stop_0 : List qEl := [(.aload_n 0, 1, 0, 0, 0, 0), (.iconst 0, 1, 0, 0, 0, 0), (.putfield 3, 3, 12, 0, 0, 0), (.aload_n 0, 1, 0, 0, 0, 0), (.iload_n 1, 1, 0, 0, 0, 0), (.iconst 0, 1, 0, 0, 0, 0), (.bipush 99, 2, 0, 0, 99, 0), (.invokestatic 324, 3, 0, 3, 0, 0), (.iconst 1, 1, 0, 0, 1, 0), (.iconst 1, 1, 0, 0, 1, 0), (.invokevirtual 247, 3, 0, 3, 0, 0), (.ifCond .ne 5, 3, 23, 0, 0, 0), (.iconst 0, 1, 0, 0, 0, 0), (.ireturn, 1, 0, 0, 0, 0)]
theorem sgX12_stop_0_ok : qsg cX12_stop 12 3 false 0 sgX12_stop_0 = true := by decide +kernel
def sgX12_stop_23 : List qEl := [(.iconst 0, 1, 0, 0, 0, 0), (.istore_n 2, 1, 0, 0, 0, 0)]
theorem sgX12_stop_23_ok : qsg cX12_stop 12 3 false 23 sgX12_stop_23 = true := by decide +kernel
def sgX12_stop_25 : List qEl := [(.iload_n 2, 1, 0, 0, 0, 0), (.aload_n 0, 1, 0, 0, 0, 0), (.getfield 190, 3, 12, 36, 0, 0), (.if_icmp .ge 30, 3, 60, 0, 0, 0), (.aload_n 0, 1, 0, 0, 0, 0), (.iload_n 2, 1, 0, 0, 0, 0), (.iconst 1, 1, 0, 0, 1, 0), (.invokevirtual 399, 3, 0, 2, 0, 0), (.iload_n 1, 1, 0, 0, 0, 0), (.i2l, 1, 0, 0, 0, 0), (.aload_n 0, 1, 0, 0, 0, 0), (.iload_n 2, 1, 0, 0, 0, 0), (.iconst 3, 1, 0, 0, 3, 0), (.invokevirtual 399, 3, 0, 2, 0, 0), (.lmul, 1, 0, 0, 0, 0), (.lcmp, 1, 0, 0, 0, 0), (.ifCond .ge 5, 3, 54, 0, 0, 0), (.iload_n 2, 1, 0, 0, 0, 0), (.ireturn, 1, 0, 0, 0, 0)]
theorem sgX12_stop_25_ok : qsg cX12_stop 12 3 false 25 sgX12_stop_25 = true := by decide +kernel
def sgX12_stop_54 : List qEl := [(.iinc 2 1, 3, 0, 0, 1, 0), (.goto (-32), 3, 25, 0, 0, 0)]
theorem sgX12_stop_54_ok : qsg cX12_stop 12 3 false 54 sgX12_stop_54 = true := by decide +kernel
def sgX12_stop_60 : List qEl := [(.iconst (-1), 1, 0, 0, (-1), 0), (.ireturn, 1, 0, 0, 0, 0)]
theorem sgX12_stop_60_ok : qsg cX12_stop 12 3 false 60 sgX12_stop_60 = true := by decide +kernel
def sgX12_thereIn_0 : List qEl := [(.iconst 0, 1, 0, 0, 0, 0), (.istore_n 2, 1, 0, 0, 0, 0), (.iconst 0, 1, 0, 0, 0, 0), (.istore_n 3, 1, 0, 0, 0, 0)]
theorem sgX12_thereIn_0_ok : qsg cX12_thereIn 12 4 false 0 sgX12_thereIn_0 = true := by decide +kernel
def sgX12_thereIn_4 : List qEl := [(.iload_n 3, 1, 0, 0, 0, 0), (.aload_n 0, 1, 0, 0, 0, 0), (.getfield 174, 3, 12, 20, 0, 0), (.if_icmp .ge 47, 3, 56, 0, 0, 0), (.iload_n 2, 1, 0, 0, 0, 0), (.aload_n 0, 1, 0, 0, 0, 0), (.getfield 32, 3, 12, 13, 0, 0), (.iconst 4, 1, 0, 0, 4, 0), (.iload_n 3, 1, 0, 0, 0, 0), (.imul, 1, 0, 0, 0, 0), (.iconst 2, 1, 0, 0, 2, 0), (.iadd, 1, 0, 0, 0, 0), (.iaload, 1, 0, 0, 0, 0), (.iconst (-1), 1, 0, 0, (-1), 0), (.if_icmp .eq 17, 3, 41, 0, 0, 0), (.iload_n 1, 1, 0, 0, 0, 0), (.aload_n 0, 1, 0, 0, 0, 0), (.getfield 32, 3, 12, 13, 0, 0), (.iconst 4, 1, 0, 0, 4, 0), (.iload_n 3, 1, 0, 0, 0, 0), (.imul, 1, 0, 0, 0, 0), (.iconst 2, 1, 0, 0, 2, 0), (.iadd, 1, 0, 0, 0, 0), (.iaload, 1, 0, 0, 0, 0), (.if_icmp .ge 9, 3, 47, 0, 0, 0)]
theorem sgX12_thereIn_4_ok : qsg cX12_thereIn 12 4 false 4 sgX12_thereIn_4 = true := by decide +kernel
def sgX12_thereIn_41 : List qEl := [(.iconst 1, 1, 0, 0, 1, 0), (.iload_n 3, 1, 0, 0, 0, 0), (.ishl, 1, 0, 0, 0, 0), (.goto 4, 3, 48, 0, 0, 0)]
theorem sgX12_thereIn_41_ok : qsg cX12_thereIn 12 4 false 41 sgX12_thereIn_41 = true := by decide +kernel
def sgX12_thereIn_47 : List qEl := [(.iconst 0, 1, 0, 0, 0, 0)]
theorem sgX12_thereIn_47_ok : qsg cX12_thereIn 12 4 false 47 sgX12_thereIn_47 = true := by decide +kernel
def sgX12_thereIn_48 : List qEl := [(.ior, 1, 0, 0, 0, 0), (.istore_n 2, 1, 0, 0, 0, 0), (.iinc 3 1, 3, 0, 0, 1, 0), (.goto (-49), 3, 4, 0, 0, 0)]
theorem sgX12_thereIn_48_ok : qsg cX12_thereIn 12 4 false 48 sgX12_thereIn_48 = true := by decide +kernel
def sgX12_thereIn_56 : List qEl := [(.iload_n 2, 1, 0, 0, 0, 0), (.ireturn, 1, 0, 0, 0, 0)]
theorem sgX12_thereIn_56_ok : qsg cX12_thereIn 12 4 false 56 sgX12_thereIn_56 = true := by decide +kernel
def sgX12_partsOf_0 : List qEl := [(.iconst 0, 1, 0, 0, 0, 0), (.istore_n 2, 1, 0, 0, 0, 0), (.iconst 0, 1, 0, 0, 0, 0), (.istore_n 3, 1, 0, 0, 0, 0)]
theorem sgX12_partsOf_0_ok : qsg cX12_partsOf 12 4 false 0 sgX12_partsOf_0 = true := by decide +kernel
def sgX12_partsOf_4 : List qEl := [(.iload_n 3, 1, 0, 0, 0, 0), (.aload_n 0, 1, 0, 0, 0, 0), (.getfield 174, 3, 12, 20, 0, 0), (.if_icmp .ge 37, 3, 46, 0, 0, 0), (.iload_n 2, 1, 0, 0, 0, 0), (.iload_n 1, 1, 0, 0, 0, 0), (.iload_n 3, 1, 0, 0, 0, 0), (.ishr, 1, 0, 0, 0, 0), (.iconst 1, 1, 0, 0, 1, 0), (.iand, 1, 0, 0, 0, 0), (.iconst 1, 1, 0, 0, 1, 0), (.if_icmp .ne 18, 3, 37, 0, 0, 0), (.iconst 1, 1, 0, 0, 1, 0), (.aload_n 0, 1, 0, 0, 0, 0), (.getfield 32, 3, 12, 13, 0, 0), (.iconst 4, 1, 0, 0, 4, 0), (.iload_n 3, 1, 0, 0, 0, 0), (.imul, 1, 0, 0, 0, 0), (.iconst 1, 1, 0, 0, 1, 0), (.iadd, 1, 0, 0, 0, 0), (.iaload, 1, 0, 0, 0, 0), (.ishl, 1, 0, 0, 0, 0), (.goto 4, 3, 38, 0, 0, 0)]
theorem sgX12_partsOf_4_ok : qsg cX12_partsOf 12 4 false 4 sgX12_partsOf_4 = true := by decide +kernel
def sgX12_partsOf_37 : List qEl := [(.iconst 0, 1, 0, 0, 0, 0)]
theorem sgX12_partsOf_37_ok : qsg cX12_partsOf 12 4 false 37 sgX12_partsOf_37 = true := by decide +kernel
def sgX12_partsOf_38 : List qEl := [(.ior, 1, 0, 0, 0, 0), (.istore_n 2, 1, 0, 0, 0, 0), (.iinc 3 1, 3, 0, 0, 1, 0), (.goto (-39), 3, 4, 0, 0, 0)]
theorem sgX12_partsOf_38_ok : qsg cX12_partsOf 12 4 false 38 sgX12_partsOf_38 = true := by decide +kernel
def sgX12_partsOf_46 : List qEl := [(.iload_n 2, 1, 0, 0, 0, 0), (.ireturn, 1, 0, 0, 0, 0)]
theorem sgX12_partsOf_46_ok : qsg cX12_partsOf 12 4 false 46 sgX12_partsOf_46 = true := by decide +kernel
end QSG
