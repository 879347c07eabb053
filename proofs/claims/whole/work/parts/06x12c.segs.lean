section QSG
def sgX12_canSing_0 : List qEl := [(.iconst 0, 1, 0, 0, 0, 0), (.istore 5, 2, 0, 0, 0, 0), (.iconst 4, 1, 0, 0, 4, 0), (.newarray .int, 2, 0, 0, 0, 0), (.dup, 1, 0, 0, 0, 0), (.iconst 0, 1, 0, 0, 0, 0), (.iconst 0, 1, 0, 0, 0, 0), (.iastore, 1, 0, 0, 0, 0), (.dup, 1, 0, 0, 0, 0), (.iconst 1, 1, 0, 0, 1, 0), (.iconst 0, 1, 0, 0, 0, 0), (.iastore, 1, 0, 0, 0, 0), (.dup, 1, 0, 0, 0, 0), (.iconst 2, 1, 0, 0, 2, 0), (.iconst 0, 1, 0, 0, 0, 0), (.iastore, 1, 0, 0, 0, 0), (.dup, 1, 0, 0, 0, 0), (.iconst 3, 1, 0, 0, 3, 0), (.iconst 0, 1, 0, 0, 0, 0), (.iastore, 1, 0, 0, 0, 0), (.astore 6, 2, 0, 0, 0, 0), (.iconst 0, 1, 0, 0, 0, 0), (.istore 7, 2, 0, 0, 0, 0)]
theorem sgX12_canSing_0_ok : qsg cX12_canSing 12 9 false 0 sgX12_canSing_0 = true := by decide +kernel
def sgX12_canSing_27 : List qEl := [(.iload 7, 2, 0, 0, 0, 0), (.aload_n 0, 1, 0, 0, 0, 0), (.getfield 174, 3, 12, 20, 0, 0), (.if_icmp .ge 76, 3, 109, 0, 0, 0), (.iload 4, 2, 0, 0, 0, 0), (.iload 7, 2, 0, 0, 0, 0), (.ishr, 1, 0, 0, 0, 0), (.iconst 1, 1, 0, 0, 1, 0), (.iand, 1, 0, 0, 0, 0), (.ifCond .ne 6, 3, 49, 0, 0, 0), (.goto 57, 3, 103, 0, 0, 0)]
theorem sgX12_canSing_27_ok : qsg cX12_canSing 12 9 false 27 sgX12_canSing_27 = true := by decide +kernel
def sgX12_canSing_49 : List qEl := [(.aload_n 0, 1, 0, 0, 0, 0), (.getfield 32, 3, 12, 13, 0, 0), (.iconst 4, 1, 0, 0, 4, 0), (.iload 7, 2, 0, 0, 0, 0), (.imul, 1, 0, 0, 0, 0), (.iaload, 1, 0, 0, 0, 0), (.iload_n 1, 1, 0, 0, 0, 0), (.if_icmp .ge 15, 3, 74, 0, 0, 0), (.aload_n 0, 1, 0, 0, 0, 0), (.getfield 32, 3, 12, 13, 0, 0), (.iconst 4, 1, 0, 0, 4, 0), (.iload 7, 2, 0, 0, 0, 0), (.imul, 1, 0, 0, 0, 0), (.iaload, 1, 0, 0, 0, 0), (.goto 4, 3, 75, 0, 0, 0)]
theorem sgX12_canSing_49_ok : qsg cX12_canSing 12 9 false 49 sgX12_canSing_49 = true := by decide +kernel
def sgX12_canSing_74 : List qEl := [(.iload_n 1, 1, 0, 0, 0, 0)]
theorem sgX12_canSing_74_ok : qsg cX12_canSing 12 9 false 74 sgX12_canSing_74 = true := by decide +kernel
def sgX12_canSing_75 : List qEl := [(.istore 8, 2, 0, 0, 0, 0), (.iload 5, 2, 0, 0, 0, 0), (.iload 8, 2, 0, 0, 0, 0), (.iadd, 1, 0, 0, 0, 0), (.istore 5, 2, 0, 0, 0, 0), (.aload 6, 2, 0, 0, 0, 0), (.aload_n 0, 1, 0, 0, 0, 0), (.getfield 32, 3, 12, 13, 0, 0), (.iconst 4, 1, 0, 0, 4, 0), (.iload 7, 2, 0, 0, 0, 0), (.imul, 1, 0, 0, 0, 0), (.iconst 1, 1, 0, 0, 1, 0), (.iadd, 1, 0, 0, 0, 0), (.iaload, 1, 0, 0, 0, 0), (.dup2, 1, 0, 0, 0, 0), (.iaload, 1, 0, 0, 0, 0), (.iload 8, 2, 0, 0, 0, 0), (.iadd, 1, 0, 0, 0, 0), (.iastore, 1, 0, 0, 0, 0)]
theorem sgX12_canSing_75_ok : qsg cX12_canSing 12 9 false 75 sgX12_canSing_75 = true := by decide +kernel
def sgX12_canSing_103 : List qEl := [(.iinc 7 1, 3, 0, 0, 1, 0), (.goto (-79), 3, 27, 0, 0, 0)]
theorem sgX12_canSing_103_ok : qsg cX12_canSing 12 9 false 103 sgX12_canSing_103 = true := by decide +kernel
def sgX12_canSing_109 : List qEl := [(.iload 5, 2, 0, 0, 0, 0), (.iload_n 2, 1, 0, 0, 0, 0), (.iload_n 1, 1, 0, 0, 0, 0), (.imul, 1, 0, 0, 0, 0), (.if_icmp .lt 7, 3, 121, 0, 0, 0), (.iconst 1, 1, 0, 0, 1, 0), (.goto 4, 3, 122, 0, 0, 0)]
theorem sgX12_canSing_109_ok : qsg cX12_canSing 12 9 false 109 sgX12_canSing_109 = true := by decide +kernel
def sgX12_canSing_121 : List qEl := [(.iconst 0, 1, 0, 0, 0, 0)]
theorem sgX12_canSing_121_ok : qsg cX12_canSing 12 9 false 121 sgX12_canSing_121 = true := by decide +kernel
def sgX12_canSing_122 : List qEl := [(.istore 7, 2, 0, 0, 0, 0), (.iconst 0, 1, 0, 0, 0, 0), (.istore 8, 2, 0, 0, 0, 0)]
theorem sgX12_canSing_122_ok : qsg cX12_canSing 12 9 false 122 sgX12_canSing_122 = true := by decide +kernel
def sgX12_canSing_127 : List qEl := [(.iload 8, 2, 0, 0, 0, 0), (.iconst 4, 1, 0, 0, 4, 0), (.if_icmp .ge 39, 3, 169, 0, 0, 0), (.iload 7, 2, 0, 0, 0, 0), (.ifCond .eq 25, 3, 160, 0, 0, 0), (.iload_n 3, 1, 0, 0, 0, 0), (.iload 8, 2, 0, 0, 0, 0), (.ishr, 1, 0, 0, 0, 0), (.iconst 1, 1, 0, 0, 1, 0), (.iand, 1, 0, 0, 0, 0), (.ifCond .eq 12, 3, 156, 0, 0, 0), (.aload 6, 2, 0, 0, 0, 0), (.iload 8, 2, 0, 0, 0, 0), (.iaload, 1, 0, 0, 0, 0), (.iload_n 1, 1, 0, 0, 0, 0), (.if_icmp .lt 7, 3, 160, 0, 0, 0)]
theorem sgX12_canSing_127_ok : qsg cX12_canSing 12 9 false 127 sgX12_canSing_127 = true := by decide +kernel
def sgX12_canSing_156 : List qEl := [(.iconst 1, 1, 0, 0, 1, 0), (.goto 4, 3, 161, 0, 0, 0)]
theorem sgX12_canSing_156_ok : qsg cX12_canSing 12 9 false 156 sgX12_canSing_156 = true := by decide +kernel
def sgX12_canSing_160 : List qEl := [(.iconst 0, 1, 0, 0, 0, 0)]
theorem sgX12_canSing_160_ok : qsg cX12_canSing 12 9 false 160 sgX12_canSing_160 = true := by decide +kernel
def sgX12_canSing_161 : List qEl := [(.istore 7, 2, 0, 0, 0, 0), (.iinc 8 1, 3, 0, 0, 1, 0), (.goto (-39), 3, 127, 0, 0, 0)]
theorem sgX12_canSing_161_ok : qsg cX12_canSing 12 9 false 161 sgX12_canSing_161 = true := by decide +kernel
def sgX12_canSing_169 : List qEl := [(.iload 7, 2, 0, 0, 0, 0), (.ireturn, 1, 0, 0, 0, 0)]
theorem sgX12_canSing_169_ok : qsg cX12_canSing 12 9 false 169 sgX12_canSing_169 = true := by decide +kernel
def sgX12_lastsBy_0 : List qEl := [(.aload_n 0, 1, 0, 0, 0, 0), (.iload_n 3, 1, 0, 0, 0, 0), (.invokevirtual 456, 3, 0, 1, 0, 0), (.istore 4, 2, 0, 0, 0, 0), (.bipush 99, 2, 0, 0, 99, 0), (.istore 5, 2, 0, 0, 0, 0)]
theorem sgX12_lastsBy_0_ok : qsg cX12_lastsBy 12 6 false 0 sgX12_lastsBy_0 = true := by decide +kernel
def sgX12_lastsBy_11 : List qEl := [(.aload_n 0, 1, 0, 0, 0, 0), (.iload 5, 2, 0, 0, 0, 0), (.iload_n 1, 1, 0, 0, 0, 0), (.iload_n 2, 1, 0, 0, 0, 0), (.iload 4, 2, 0, 0, 0, 0), (.invokevirtual 459, 3, 0, 4, 0, 0), (.ifCond .ne 9, 3, 30, 0, 0, 0), (.iinc 5 (-1), 3, 0, 0, (-1), 0), (.goto (-16), 3, 11, 0, 0, 0)]
theorem sgX12_lastsBy_11_ok : qsg cX12_lastsBy 12 6 false 11 sgX12_lastsBy_11 = true := by decide +kernel
def sgX12_lastsBy_30 : List qEl := [(.iload 5, 2, 0, 0, 0, 0), (.ireturn, 1, 0, 0, 0, 0)]
theorem sgX12_lastsBy_30_ok : qsg cX12_lastsBy 12 6 false 30 sgX12_lastsBy_30 = true := by decide +kernel
def sgX12_isMinute_0 : List qEl := [(.iload_n 0, 1, 0, 0, 0, 0), (.ifCond .lt 14, 3, 15, 0, 0, 0), (.iload_n 0, 1, 0, 0, 0, 0), (.sipush 480, 3, 0, 0, 480, 0), (.if_icmp .gt 7, 3, 15, 0, 0, 0), (.iconst 1, 1, 0, 0, 1, 0), (.goto 4, 3, 16, 0, 0, 0)]
theorem sgX12_isMinute_0_ok : qsg cX12_isMinute 12 1 false 0 sgX12_isMinute_0 = true := by decide +kernel
def sgX12_isMinute_15 : List qEl := [(.iconst 0, 1, 0, 0, 0, 0)]
theorem sgX12_isMinute_15_ok : qsg cX12_isMinute 12 1 false 15 sgX12_isMinute_15 = true := by decide +kernel
def sgX12_isMinute_16 : List qEl := [(.ireturn, 1, 0, 0, 0, 0)]
theorem sgX12_isMinute_16_ok : qsg cX12_isMinute 12 1 false 16 sgX12_isMinute_16 = true := by decide +kernel
def sgX12_lasts_0 : List qEl := [(.aload_n 0, 1, 0, 0, 0, 0), (.iconst 0, 1, 0, 0, 0, 0), (.putfield 3, 3, 12, 0, 0, 0), (.aload_n 0, 1, 0, 0, 0, 0), (.iload_n 1, 1, 0, 0, 0, 0), (.iconst 0, 1, 0, 0, 0, 0), (.bipush 8, 2, 0, 0, 8, 0), (.invokestatic 324, 3, 0, 3, 0, 0), (.ifCond .eq 14, 3, 27, 0, 0, 0), (.iload_n 2, 1, 0, 0, 0, 0), (.invokestatic 463, 3, 0, 1, 0, 0), (.ifCond .eq 7, 3, 27, 0, 0, 0), (.iconst 1, 1, 0, 0, 1, 0), (.goto 4, 3, 28, 0, 0, 0)]
theorem sgX12_lasts_0_ok : qsg cX12_lasts 12 3 false 0 sgX12_lasts_0 = true := by decide +kernel
def sgX12_lasts_27 : List qEl := [(.iconst 0, 1, 0, 0, 0, 0)]
theorem sgX12_lasts_27_ok : qsg cX12_lasts 12 3 false 27 sgX12_lasts_27 = true := by decide +kernel
def sgX12_lasts_28 : List qEl := [(.iconst 1, 1, 0, 0, 1, 0), (.iconst 1, 1, 0, 0, 1, 0), (.invokevirtual 247, 3, 0, 3, 0, 0), (.ifCond .ne 5, 3, 38, 0, 0, 0), (.iconst 0, 1, 0, 0, 0, 0), (.ireturn, 1, 0, 0, 0, 0)]
theorem sgX12_lasts_28_ok : qsg cX12_lasts 12 3 false 28 sgX12_lasts_28 = true := by decide +kernel
def sgX12_lasts_38 : List qEl := [(.aload_n 0, 1, 0, 0, 0, 0), (.iload_n 1, 1, 0, 0, 0, 0), (.aload_n 0, 1, 0, 0, 0, 0), (.iconst 1, 1, 0, 0, 1, 0), (.aload_n 0, 1, 0, 0, 0, 0), (.getfield 174, 3, 12, 20, 0, 0), (.ishl, 1, 0, 0, 0, 0), (.iconst 1, 1, 0, 0, 1, 0), (.isub, 1, 0, 0, 0, 0), (.invokevirtual 466, 3, 0, 1, 0, 0), (.iload_n 2, 1, 0, 0, 0, 0), (.invokevirtual 469, 3, 0, 3, 0, 0), (.ireturn, 1, 0, 0, 0, 0)]
theorem sgX12_lasts_38_ok : qsg cX12_lasts 12 3 false 38 sgX12_lasts_38 = true := by decide +kernel
def sgX12_without_0 : List qEl := [(.aload_n 0, 1, 0, 0, 0, 0), (.iconst 0, 1, 0, 0, 0, 0), (.putfield 3, 3, 12, 0, 0, 0), (.aload_n 0, 1, 0, 0, 0, 0), (.iload_n 1, 1, 0, 0, 0, 0), (.iconst 0, 1, 0, 0, 0, 0), (.iconst 3, 1, 0, 0, 3, 0), (.invokestatic 324, 3, 0, 3, 0, 0), (.ifCond .eq 24, 3, 36, 0, 0, 0), (.iload_n 2, 1, 0, 0, 0, 0), (.iconst 0, 1, 0, 0, 0, 0), (.bipush 8, 2, 0, 0, 8, 0), (.invokestatic 324, 3, 0, 3, 0, 0), (.ifCond .eq 14, 3, 36, 0, 0, 0), (.iload_n 3, 1, 0, 0, 0, 0), (.invokestatic 463, 3, 0, 1, 0, 0), (.ifCond .eq 7, 3, 36, 0, 0, 0), (.iconst 1, 1, 0, 0, 1, 0), (.goto 4, 3, 37, 0, 0, 0)]
theorem sgX12_without_0_ok : qsg cX12_without 12 4 false 0 sgX12_without_0 = true := by decide +kernel
def sgX12_without_36 : List qEl := [(.iconst 0, 1, 0, 0, 0, 0)]
theorem sgX12_without_36_ok : qsg cX12_without 12 4 false 36 sgX12_without_36 = true := by decide +kernel
def sgX12_without_37 : List qEl := [(.iconst 1, 1, 0, 0, 1, 0), (.iconst 1, 1, 0, 0, 1, 0), (.invokevirtual 247, 3, 0, 3, 0, 0), (.ifCond .ne 5, 3, 47, 0, 0, 0), (.iconst 0, 1, 0, 0, 0, 0), (.ireturn, 1, 0, 0, 0, 0)]
theorem sgX12_without_37_ok : qsg cX12_without 12 4 false 37 sgX12_without_37 = true := by decide +kernel
def sgX12_without_47 : List qEl := [(.aload_n 0, 1, 0, 0, 0, 0), (.iload_n 2, 1, 0, 0, 0, 0), (.aload_n 0, 1, 0, 0, 0, 0), (.iconst 1, 1, 0, 0, 1, 0), (.aload_n 0, 1, 0, 0, 0, 0), (.getfield 174, 3, 12, 20, 0, 0), (.ishl, 1, 0, 0, 0, 0), (.iconst 1, 1, 0, 0, 1, 0), (.isub, 1, 0, 0, 0, 0), (.invokevirtual 466, 3, 0, 1, 0, 0), (.iconst 1, 1, 0, 0, 1, 0), (.iload_n 1, 1, 0, 0, 0, 0), (.ishl, 1, 0, 0, 0, 0), (.iconst (-1), 1, 0, 0, (-1), 0), (.ixor, 1, 0, 0, 0, 0), (.iand, 1, 0, 0, 0, 0), (.iload_n 3, 1, 0, 0, 0, 0), (.invokevirtual 469, 3, 0, 3, 0, 0), (.ireturn, 1, 0, 0, 0, 0)]
theorem sgX12_without_47_ok : qsg cX12_without 12 4 false 47 sgX12_without_47 = true := by decide +kernel
def sgX12_there_0 : List qEl := [(.aload_n 0, 1, 0, 0, 0, 0), (.iconst 0, 1, 0, 0, 0, 0), (.putfield 3, 3, 12, 0, 0, 0), (.aload_n 0, 1, 0, 0, 0, 0), (.iload_n 1, 1, 0, 0, 0, 0), (.invokestatic 463, 3, 0, 1, 0, 0), (.iconst 1, 1, 0, 0, 1, 0), (.iconst 1, 1, 0, 0, 1, 0), (.invokevirtual 247, 3, 0, 3, 0, 0), (.ifCond .ne 5, 3, 20, 0, 0, 0), (.iconst 0, 1, 0, 0, 0, 0), (.ireturn, 1, 0, 0, 0, 0)]
theorem sgX12_there_0_ok : qsg cX12_there 12 2 false 0 sgX12_there_0 = true := by decide +kernel
def sgX12_there_20 : List qEl := [(.aload_n 0, 1, 0, 0, 0, 0), (.iload_n 1, 1, 0, 0, 0, 0), (.invokevirtual 456, 3, 0, 1, 0, 0), (.ireturn, 1, 0, 0, 0, 0)]
theorem sgX12_there_20_ok : qsg cX12_there 12 2 false 20 sgX12_there_20 = true := by decide +kernel
def sgX12_flat_0 : List qEl := [(.aload_n 0, 1, 0, 0, 0, 0), (.iconst 0, 1, 0, 0, 0, 0), (.putfield 3, 3, 12, 0, 0, 0), (.aload_n 0, 1, 0, 0, 0, 0), (.iconst 1, 1, 0, 0, 1, 0), (.aload_n 0, 1, 0, 0, 0, 0), (.getfield 174, 3, 12, 20, 0, 0), (.ishl, 1, 0, 0, 0, 0), (.iconst 1, 1, 0, 0, 1, 0), (.isub, 1, 0, 0, 0, 0), (.invokevirtual 466, 3, 0, 1, 0, 0), (.istore_n 1, 1, 0, 0, 0, 0), (.iconst 0, 1, 0, 0, 0, 0), (.istore_n 2, 1, 0, 0, 0, 0)]
theorem sgX12_flat_0_ok : qsg cX12_flat 12 3 false 0 sgX12_flat_0 = true := by decide +kernel
def sgX12_flat_20 : List qEl := [(.iload_n 2, 1, 0, 0, 0, 0), (.sipush 480, 3, 0, 0, 480, 0), (.if_icmp .gt 24, 3, 48, 0, 0, 0), (.aload_n 0, 1, 0, 0, 0, 0), (.aload_n 0, 1, 0, 0, 0, 0), (.iload_n 2, 1, 0, 0, 0, 0), (.invokevirtual 456, 3, 0, 1, 0, 0), (.invokevirtual 466, 3, 0, 1, 0, 0), (.iload_n 1, 1, 0, 0, 0, 0), (.if_icmp .eq 5, 3, 42, 0, 0, 0), (.iload_n 2, 1, 0, 0, 0, 0), (.ireturn, 1, 0, 0, 0, 0)]
theorem sgX12_flat_20_ok : qsg cX12_flat 12 3 false 20 sgX12_flat_20 = true := by decide +kernel
def sgX12_flat_42 : List qEl := [(.iinc 2 1, 3, 0, 0, 1, 0), (.goto (-25), 3, 20, 0, 0, 0)]
theorem sgX12_flat_42_ok : qsg cX12_flat 12 3 false 42 sgX12_flat_42 = true := by decide +kernel
def sgX12_flat_48 : List qEl := [(.iconst (-1), 1, 0, 0, (-1), 0), (.ireturn, 1, 0, 0, 0, 0)]
theorem sgX12_flat_48_ok : qsg cX12_flat 12 3 false 48 sgX12_flat_48 = true := by decide +kernel
def sgX12_ones_0 : List qEl := [(.iconst 0, 1, 0, 0, 0, 0), (.istore_n 2, 1, 0, 0, 0, 0), (.iload_n 1, 1, 0, 0, 0, 0), (.istore_n 3, 1, 0, 0, 0, 0)]
theorem sgX12_ones_0_ok : qsg cX12_ones 12 4 false 0 sgX12_ones_0 = true := by decide +kernel
def sgX12_ones_4 : List qEl := [(.iload_n 3, 1, 0, 0, 0, 0), (.ifCond .eq 15, 3, 20, 0, 0, 0), (.iinc 2 1, 3, 0, 0, 1, 0), (.iload_n 3, 1, 0, 0, 0, 0), (.iload_n 3, 1, 0, 0, 0, 0), (.iconst 1, 1, 0, 0, 1, 0), (.isub, 1, 0, 0, 0, 0), (.iand, 1, 0, 0, 0, 0), (.istore_n 3, 1, 0, 0, 0, 0), (.goto (-13), 3, 4, 0, 0, 0)]
theorem sgX12_ones_4_ok : qsg cX12_ones 12 4 false 4 sgX12_ones_4 = true := by decide +kernel
def sgX12_ones_20 : List qEl := [(.iload_n 2, 1, 0, 0, 0, 0), (.ireturn, 1, 0, 0, 0, 0)]
theorem sgX12_ones_20_ok : qsg cX12_ones 12 4 false 20 sgX12_ones_20 = true := by decide +kernel
def sgX12_findSolos_0 : List qEl := [(.iconst 0, 1, 0, 0, 0, 0), (.istore_n 1, 1, 0, 0, 0, 0), (.iconst 0, 1, 0, 0, 0, 0), (.istore_n 2, 1, 0, 0, 0, 0)]
theorem sgX12_findSolos_0_ok : qsg cX12_findSolos 12 7 false 0 sgX12_findSolos_0 = true := by decide +kernel
def sgX12_findSolos_4 : List qEl := [(.iload_n 2, 1, 0, 0, 0, 0), (.aload_n 0, 1, 0, 0, 0, 0), (.getfield 174, 3, 12, 20, 0, 0), (.if_icmp .ge 22, 3, 31, 0, 0, 0), (.iload_n 1, 1, 0, 0, 0, 0), (.aload_n 0, 1, 0, 0, 0, 0), (.getfield 32, 3, 12, 13, 0, 0), (.iconst 4, 1, 0, 0, 4, 0), (.iload_n 2, 1, 0, 0, 0, 0), (.imul, 1, 0, 0, 0, 0), (.iconst 3, 1, 0, 0, 3, 0), (.iadd, 1, 0, 0, 0, 0), (.iaload, 1, 0, 0, 0, 0), (.iadd, 1, 0, 0, 0, 0), (.istore_n 1, 1, 0, 0, 0, 0), (.iinc 2 1, 3, 0, 0, 1, 0), (.goto (-24), 3, 4, 0, 0, 0)]
theorem sgX12_findSolos_4_ok : qsg cX12_findSolos 12 7 false 4 sgX12_findSolos_4 = true := by decide +kernel
def sgX12_findSolos_31 : List qEl := [(.iload_n 1, 1, 0, 0, 0, 0), (.aload_n 0, 1, 0, 0, 0, 0), (.getfield 190, 3, 12, 36, 0, 0), (.if_icmp .ge 7, 3, 43, 0, 0, 0), (.iload_n 1, 1, 0, 0, 0, 0), (.goto 7, 3, 47, 0, 0, 0)]
theorem sgX12_findSolos_31_ok : qsg cX12_findSolos 12 7 false 31 sgX12_findSolos_31 = true := by decide +kernel
def sgX12_findSolos_43 : List qEl := [(.aload_n 0, 1, 0, 0, 0, 0), (.getfield 190, 3, 12, 36, 0, 0)]
theorem sgX12_findSolos_43_ok : qsg cX12_findSolos 12 7 false 43 sgX12_findSolos_43 = true := by decide +kernel
def sgX12_findSolos_47 : List qEl := [(.istore_n 1, 1, 0, 0, 0, 0), (.aload_n 0, 1, 0, 0, 0, 0), (.iconst (-1), 1, 0, 0, (-1), 0), (.putfield 472, 3, 12, 53, 0, 0), (.aload_n 0, 1, 0, 0, 0, 0), (.lconst 0, 1, 0, 0, 0, 0), (.putfield 475, 3, 12, 54, 0, 0), (.iconst 0, 1, 0, 0, 0, 0), (.istore_n 2, 1, 0, 0, 0, 0)]
theorem sgX12_findSolos_47_ok : qsg cX12_findSolos 12 7 false 47 sgX12_findSolos_47 = true := by decide +kernel
def sgX12_findSolos_60 : List qEl := [(.iload_n 2, 1, 0, 0, 0, 0), (.iconst 1, 1, 0, 0, 1, 0), (.aload_n 0, 1, 0, 0, 0, 0), (.getfield 190, 3, 12, 36, 0, 0), (.ishl, 1, 0, 0, 0, 0), (.if_icmp .ge 135, 3, 202, 0, 0, 0), (.aload_n 0, 1, 0, 0, 0, 0), (.iload_n 2, 1, 0, 0, 0, 0), (.invokevirtual 478, 3, 0, 1, 0, 0), (.iload_n 1, 1, 0, 0, 0, 0), (.if_icmp .eq 6, 3, 82, 0, 0, 0), (.goto 117, 3, 196, 0, 0, 0)]
theorem sgX12_findSolos_60_ok : qsg cX12_findSolos 12 7 false 60 sgX12_findSolos_60 = true := by decide +kernel
def sgX12_findSolos_82 : List qEl := [(.iconst 0, 1, 0, 0, 0, 0), (.istore_n 3, 1, 0, 0, 0, 0), (.lconst 0, 1, 0, 0, 0, 0), (.lstore 4, 2, 0, 0, 0, 0), (.iconst 0, 1, 0, 0, 0, 0), (.istore 6, 2, 0, 0, 0, 0)]
theorem sgX12_findSolos_82_ok : qsg cX12_findSolos 12 7 false 82 sgX12_findSolos_82 = true := by decide +kernel
def sgX12_findSolos_90 : List qEl := [(.iload 6, 2, 0, 0, 0, 0), (.aload_n 0, 1, 0, 0, 0, 0), (.getfield 190, 3, 12, 36, 0, 0), (.if_icmp .ge 50, 3, 146, 0, 0, 0), (.iload_n 2, 1, 0, 0, 0, 0), (.iload 6, 2, 0, 0, 0, 0), (.ishr, 1, 0, 0, 0, 0), (.iconst 1, 1, 0, 0, 1, 0), (.iand, 1, 0, 0, 0, 0), (.ifCond .ne 6, 3, 111, 0, 0, 0), (.goto 32, 3, 140, 0, 0, 0)]
theorem sgX12_findSolos_90_ok : qsg cX12_findSolos 12 7 false 90 sgX12_findSolos_90 = true := by decide +kernel
def sgX12_findSolos_111 : List qEl := [(.aload_n 0, 1, 0, 0, 0, 0), (.iload 6, 2, 0, 0, 0, 0), (.invokevirtual 396, 3, 0, 1, 0, 0), (.iload_n 3, 1, 0, 0, 0, 0), (.iconst 1, 1, 0, 0, 1, 0), (.aload_n 0, 1, 0, 0, 0, 0), (.getfield 59, 3, 12, 33, 0, 0), (.iconst 3, 1, 0, 0, 3, 0), (.iload 6, 2, 0, 0, 0, 0), (.imul, 1, 0, 0, 0, 0), (.iaload, 1, 0, 0, 0, 0), (.ishl, 1, 0, 0, 0, 0), (.ior, 1, 0, 0, 0, 0), (.istore_n 3, 1, 0, 0, 0, 0), (.lload 4, 2, 0, 0, 0, 0), (.aload_n 0, 1, 0, 0, 0, 0), (.getfield 380, 3, 12, 40, 0, 0), (.ladd, 1, 0, 0, 0, 0), (.lstore 4, 2, 0, 0, 0, 0)]
theorem sgX12_findSolos_111_ok : qsg cX12_findSolos 12 7 false 111 sgX12_findSolos_111 = true := by decide +kernel
def sgX12_findSolos_140 : List qEl := [(.iinc 6 1, 3, 0, 0, 1, 0), (.goto (-53), 3, 90, 0, 0, 0)]
theorem sgX12_findSolos_140_ok : qsg cX12_findSolos 12 7 false 140 sgX12_findSolos_140 = true := by decide +kernel
def sgX12_findSolos_146 : List qEl := [(.aload_n 0, 1, 0, 0, 0, 0), (.getfield 472, 3, 12, 53, 0, 0), (.iconst (-1), 1, 0, 0, (-1), 0), (.if_icmp .eq 34, 3, 185, 0, 0, 0), (.lload 4, 2, 0, 0, 0, 0), (.aload_n 0, 1, 0, 0, 0, 0), (.getfield 475, 3, 12, 54, 0, 0), (.lcmp, 1, 0, 0, 0, 0), (.ifCond .lt 35, 3, 196, 0, 0, 0), (.lload 4, 2, 0, 0, 0, 0), (.aload_n 0, 1, 0, 0, 0, 0), (.getfield 475, 3, 12, 54, 0, 0), (.lcmp, 1, 0, 0, 0, 0), (.ifCond .ne 14, 3, 185, 0, 0, 0), (.iload_n 3, 1, 0, 0, 0, 0), (.aload_n 0, 1, 0, 0, 0, 0), (.getfield 472, 3, 12, 53, 0, 0), (.if_icmp .le 6, 3, 185, 0, 0, 0), (.goto 14, 3, 196, 0, 0, 0)]
theorem sgX12_findSolos_146_ok : qsg cX12_findSolos 12 7 false 146 sgX12_findSolos_146 = true := by decide +kernel
def sgX12_findSolos_185 : List qEl := [(.aload_n 0, 1, 0, 0, 0, 0), (.iload_n 3, 1, 0, 0, 0, 0), (.putfield 472, 3, 12, 53, 0, 0), (.aload_n 0, 1, 0, 0, 0, 0), (.lload 4, 2, 0, 0, 0, 0), (.putfield 475, 3, 12, 54, 0, 0)]
theorem sgX12_findSolos_185_ok : qsg cX12_findSolos 12 7 false 185 sgX12_findSolos_185 = true := by decide +kernel
def sgX12_findSolos_196 : List qEl := [(.iinc 2 1, 3, 0, 0, 1, 0), (.goto (-139), 3, 60, 0, 0, 0)]
theorem sgX12_findSolos_196_ok : qsg cX12_findSolos 12 7 false 196 sgX12_findSolos_196 = true := by decide +kernel
def sgX12_findSolos_202 : List qEl := [(.return_, 1, 0, 0, 0, 0)]
theorem sgX12_findSolos_202_ok : qsg cX12_findSolos 12 7 false 202 sgX12_findSolos_202 = true := by decide +kernel
def sgX12_solos_0 : List qEl := [(.aload_n 0, 1, 0, 0, 0, 0), (.iconst 0, 1, 0, 0, 0, 0), (.putfield 3, 3, 12, 0, 0, 0), (.aload_n 0, 1, 0, 0, 0, 0), (.invokevirtual 481, 3, 0, 0, 0, 0), (.aload_n 0, 1, 0, 0, 0, 0), (.getfield 472, 3, 12, 53, 0, 0), (.ireturn, 1, 0, 0, 0, 0)]
theorem sgX12_solos_0_ok : qsg cX12_solos 12 1 false 0 sgX12_solos_0 = true := by decide +kernel
def sgX12_soloJoy_0 : List qEl := [(.aload_n 0, 1, 0, 0, 0, 0), (.iconst 0, 1, 0, 0, 0, 0), (.putfield 3, 3, 12, 0, 0, 0), (.aload_n 0, 1, 0, 0, 0, 0), (.iload_n 1, 1, 0, 0, 0, 0), (.iconst 0, 1, 0, 0, 0, 0), (.iconst 1, 1, 0, 0, 1, 0), (.invokestatic 324, 3, 0, 3, 0, 0), (.iconst 1, 1, 0, 0, 1, 0), (.iconst 1, 1, 0, 0, 1, 0), (.invokevirtual 247, 3, 0, 3, 0, 0), (.ifCond .ne 5, 3, 22, 0, 0, 0), (.lconst 0, 1, 0, 0, 0, 0), (.lreturn, 1, 0, 0, 0, 0)]
theorem sgX12_soloJoy_0_ok : qsg cX12_soloJoy 12 2 false 0 sgX12_soloJoy_0 = true := by decide +kernel
def sgX12_soloJoy_22 : List qEl := [(.aload_n 0, 1, 0, 0, 0, 0), (.invokevirtual 481, 3, 0, 0, 0, 0), (.aload_n 0, 1, 0, 0, 0, 0), (.getfield 475, 3, 12, 54, 0, 0), (.ldc2_w 378, 3, 0, 0, 0, 268435456), (.iload_n 1, 1, 0, 0, 0, 0), (.invokestatic 393, 3, 0, 3, 0, 0), (.lreturn, 1, 0, 0, 0, 0)]
theorem sgX12_soloJoy_22_ok : qsg cX12_soloJoy 12 2 false 22 sgX12_soloJoy_22 = true := by decide +kernel
def sgX12_findRow_0 : List qEl := [(.iconst 0, 1, 0, 0, 0, 0), (.istore_n 1, 1, 0, 0, 0, 0)]
theorem sgX12_findRow_0_ok : qsg cX12_findRow 12 3 false 0 sgX12_findRow_0 = true := by decide +kernel
def sgX12_findRow_2 : List qEl := [(.iload_n 1, 1, 0, 0, 0, 0), (.aload_n 0, 1, 0, 0, 0, 0), (.getfield 171, 3, 12, 19, 0, 0), (.if_icmp .ge 62, 3, 69, 0, 0, 0), (.iload_n 1, 1, 0, 0, 0, 0), (.istore_n 2, 1, 0, 0, 0, 0)]
theorem sgX12_findRow_2_ok : qsg cX12_findRow 12 3 false 2 sgX12_findRow_2 = true := by decide +kernel
def sgX12_findRow_12 : List qEl := [(.iload_n 2, 1, 0, 0, 0, 0), (.ifCond .le 43, 3, 56, 0, 0, 0), (.aload_n 0, 1, 0, 0, 0, 0), (.aload_n 0, 1, 0, 0, 0, 0), (.getfield 89, 3, 12, 55, 0, 0), (.iload_n 2, 1, 0, 0, 0, 0), (.iconst 1, 1, 0, 0, 1, 0), (.isub, 1, 0, 0, 0, 0), (.iaload, 1, 0, 0, 0, 0), (.invokevirtual 347, 3, 0, 1, 0, 0), (.aload_n 0, 1, 0, 0, 0, 0), (.iload_n 1, 1, 0, 0, 0, 0), (.invokevirtual 347, 3, 0, 1, 0, 0), (.if_icmp .le 23, 3, 56, 0, 0, 0), (.aload_n 0, 1, 0, 0, 0, 0), (.getfield 89, 3, 12, 55, 0, 0), (.iload_n 2, 1, 0, 0, 0, 0), (.aload_n 0, 1, 0, 0, 0, 0), (.getfield 89, 3, 12, 55, 0, 0), (.iload_n 2, 1, 0, 0, 0, 0), (.iconst 1, 1, 0, 0, 1, 0), (.isub, 1, 0, 0, 0, 0), (.iaload, 1, 0, 0, 0, 0), (.iastore, 1, 0, 0, 0, 0), (.iinc 2 (-1), 3, 0, 0, (-1), 0), (.goto (-41), 3, 12, 0, 0, 0)]
theorem sgX12_findRow_12_ok : qsg cX12_findRow 12 3 false 12 sgX12_findRow_12 = true := by decide +kernel
def sgX12_findRow_56 : List qEl := [(.aload_n 0, 1, 0, 0, 0, 0), (.getfield 89, 3, 12, 55, 0, 0), (.iload_n 2, 1, 0, 0, 0, 0), (.iload_n 1, 1, 0, 0, 0, 0), (.iastore, 1, 0, 0, 0, 0), (.iinc 1 1, 3, 0, 0, 1, 0), (.goto (-64), 3, 2, 0, 0, 0)]
theorem sgX12_findRow_56_ok : qsg cX12_findRow 12 3 false 56 sgX12_findRow_56 = true := by decide +kernel
def sgX12_findRow_69 : List qEl := [(.return_, 1, 0, 0, 0, 0)]
theorem sgX12_findRow_69_ok : qsg cX12_findRow 12 3 false 69 sgX12_findRow_69 = true := by decide +kernel
def sgX12_findLead_0 : List qEl := [(.aload_n 0, 1, 0, 0, 0, 0), (.invokevirtual 484, 3, 0, 0, 0, 0), (.bipush 11, 2, 0, 0, 11, 0), (.istore_n 1, 1, 0, 0, 0, 0), (.iconst 0, 1, 0, 0, 0, 0), (.istore_n 2, 1, 0, 0, 0, 0)]
theorem sgX12_findLead_0_ok : qsg cX12_findLead 12 7 false 0 sgX12_findLead_0 = true := by decide +kernel
def sgX12_findLead_9 : List qEl := [(.iload_n 2, 1, 0, 0, 0, 0), (.aload_n 0, 1, 0, 0, 0, 0), (.getfield 171, 3, 12, 19, 0, 0), (.if_icmp .gt 143, 3, 157, 0, 0, 0), (.iconst 0, 1, 0, 0, 0, 0), (.istore_n 3, 1, 0, 0, 0, 0)]
theorem sgX12_findLead_9_ok : qsg cX12_findLead 12 7 false 9 sgX12_findLead_9 = true := by decide +kernel
def sgX12_findLead_19 : List qEl := [(.iload_n 3, 1, 0, 0, 0, 0), (.iload_n 2, 1, 0, 0, 0, 0), (.iadd, 1, 0, 0, 0, 0), (.aload_n 0, 1, 0, 0, 0, 0), (.getfield 171, 3, 12, 19, 0, 0), (.if_icmp .gt 125, 3, 151, 0, 0, 0), (.iload_n 3, 1, 0, 0, 0, 0), (.iload_n 2, 1, 0, 0, 0, 0), (.iadd, 1, 0, 0, 0, 0), (.istore 4, 2, 0, 0, 0, 0), (.iload_n 2, 1, 0, 0, 0, 0), (.ifCond .ne 18, 3, 53, 0, 0, 0), (.aload_n 0, 1, 0, 0, 0, 0), (.getfield 92, 3, 12, 56, 0, 0), (.iload_n 1, 1, 0, 0, 0, 0), (.iload_n 3, 1, 0, 0, 0, 0), (.imul, 1, 0, 0, 0, 0), (.iload 4, 2, 0, 0, 0, 0), (.iadd, 1, 0, 0, 0, 0), (.iconst 0, 1, 0, 0, 0, 0), (.iastore, 1, 0, 0, 0, 0), (.goto 95, 3, 145, 0, 0, 0)]
theorem sgX12_findLead_19_ok : qsg cX12_findLead 12 7 false 19 sgX12_findLead_19 = true := by decide +kernel
def sgX12_findLead_53 : List qEl := [(.aload_n 0, 1, 0, 0, 0, 0), (.getfield 26, 3, 12, 11, 0, 0), (.bipush 10, 2, 0, 0, 10, 0), (.aload_n 0, 1, 0, 0, 0, 0), (.getfield 89, 3, 12, 55, 0, 0), (.iload_n 3, 1, 0, 0, 0, 0), (.iaload, 1, 0, 0, 0, 0), (.imul, 1, 0, 0, 0, 0), (.iconst 1, 1, 0, 0, 1, 0), (.iadd, 1, 0, 0, 0, 0), (.iaload, 1, 0, 0, 0, 0), (.aload_n 0, 1, 0, 0, 0, 0), (.getfield 92, 3, 12, 56, 0, 0), (.iload_n 1, 1, 0, 0, 0, 0), (.iload_n 3, 1, 0, 0, 0, 0), (.iconst 1, 1, 0, 0, 1, 0), (.iadd, 1, 0, 0, 0, 0), (.imul, 1, 0, 0, 0, 0), (.iload 4, 2, 0, 0, 0, 0), (.iadd, 1, 0, 0, 0, 0), (.iaload, 1, 0, 0, 0, 0), (.isub, 1, 0, 0, 0, 0), (.istore 5, 2, 0, 0, 0, 0), (.aload_n 0, 1, 0, 0, 0, 0), (.getfield 26, 3, 12, 11, 0, 0), (.bipush 10, 2, 0, 0, 10, 0), (.aload_n 0, 1, 0, 0, 0, 0), (.getfield 89, 3, 12, 55, 0, 0), (.iload 4, 2, 0, 0, 0, 0), (.iconst 1, 1, 0, 0, 1, 0), (.isub, 1, 0, 0, 0, 0), (.iaload, 1, 0, 0, 0, 0), (.imul, 1, 0, 0, 0, 0), (.iconst 1, 1, 0, 0, 1, 0), (.iadd, 1, 0, 0, 0, 0), (.iaload, 1, 0, 0, 0, 0), (.aload_n 0, 1, 0, 0, 0, 0), (.getfield 92, 3, 12, 56, 0, 0), (.iload_n 1, 1, 0, 0, 0, 0), (.iload_n 3, 1, 0, 0, 0, 0), (.imul, 1, 0, 0, 0, 0), (.iload 4, 2, 0, 0, 0, 0), (.iadd, 1, 0, 0, 0, 0), (.iconst 1, 1, 0, 0, 1, 0), (.isub, 1, 0, 0, 0, 0), (.iaload, 1, 0, 0, 0, 0), (.isub, 1, 0, 0, 0, 0), (.istore 6, 2, 0, 0, 0, 0), (.aload_n 0, 1, 0, 0, 0, 0), (.getfield 92, 3, 12, 56, 0, 0), (.iload_n 1, 1, 0, 0, 0, 0), (.iload_n 3, 1, 0, 0, 0, 0), (.imul, 1, 0, 0, 0, 0), (.iload 4, 2, 0, 0, 0, 0), (.iadd, 1, 0, 0, 0, 0), (.iload 5, 2, 0, 0, 0, 0), (.iload 6, 2, 0, 0, 0, 0), (.if_icmp .le 8, 3, 142, 0, 0, 0), (.iload 5, 2, 0, 0, 0, 0), (.goto 5, 3, 144, 0, 0, 0)]
theorem sgX12_findLead_53_ok : qsg cX12_findLead 12 7 false 53 sgX12_findLead_53 = true := by decide +kernel
def sgX12_findLead_142 : List qEl := [(.iload 6, 2, 0, 0, 0, 0)]
theorem sgX12_findLead_142_ok : qsg cX12_findLead 12 7 false 142 sgX12_findLead_142 = true := by decide +kernel
def sgX12_findLead_144 : List qEl := [(.iastore, 1, 0, 0, 0, 0)]
theorem sgX12_findLead_144_ok : qsg cX12_findLead 12 7 false 144 sgX12_findLead_144 = true := by decide +kernel
def sgX12_findLead_145 : List qEl := [(.iinc 3 1, 3, 0, 0, 1, 0), (.goto (-129), 3, 19, 0, 0, 0)]
theorem sgX12_findLead_145_ok : qsg cX12_findLead 12 7 false 145 sgX12_findLead_145 = true := by decide +kernel
def sgX12_findLead_151 : List qEl := [(.iinc 2 1, 3, 0, 0, 1, 0), (.goto (-145), 3, 9, 0, 0, 0)]
theorem sgX12_findLead_151_ok : qsg cX12_findLead 12 7 false 151 sgX12_findLead_151 = true := by decide +kernel
def sgX12_findLead_157 : List qEl := [(.return_, 1, 0, 0, 0, 0)]
theorem sgX12_findLead_157_ok : qsg cX12_findLead 12 7 false 157 sgX12_findLead_157 = true := by decide +kernel
def sgX12_party_0 : List qEl := [(.aload_n 0, 1, 0, 0, 0, 0), (.iconst 0, 1, 0, 0, 0, 0), (.putfield 3, 3, 12, 0, 0, 0), (.aload_n 0, 1, 0, 0, 0, 0), (.iload_n 1, 1, 0, 0, 0, 0), (.iconst 0, 1, 0, 0, 0, 0), (.iconst 1, 1, 0, 0, 1, 0), (.invokestatic 324, 3, 0, 3, 0, 0), (.iconst 1, 1, 0, 0, 1, 0), (.iconst 1, 1, 0, 0, 1, 0), (.invokevirtual 247, 3, 0, 3, 0, 0), (.ifCond .ne 5, 3, 22, 0, 0, 0), (.iconst 0, 1, 0, 0, 0, 0), (.ireturn, 1, 0, 0, 0, 0)]
theorem sgX12_party_0_ok : qsg cX12_party 12 3 false 0 sgX12_party_0 = true := by decide +kernel
def sgX12_party_22 : List qEl := [(.aload_n 0, 1, 0, 0, 0, 0), (.invokevirtual 487, 3, 0, 0, 0, 0), (.iload_n 1, 1, 0, 0, 0, 0), (.ifCond .ne 13, 3, 40, 0, 0, 0), (.aload_n 0, 1, 0, 0, 0, 0), (.getfield 92, 3, 12, 56, 0, 0), (.aload_n 0, 1, 0, 0, 0, 0), (.getfield 171, 3, 12, 19, 0, 0), (.iaload, 1, 0, 0, 0, 0), (.ireturn, 1, 0, 0, 0, 0)]
theorem sgX12_party_22_ok : qsg cX12_party 12 3 false 22 sgX12_party_22 = true := by decide +kernel
def sgX12_party_40 : List qEl := [(.aload_n 0, 1, 0, 0, 0, 0), (.getfield 171, 3, 12, 19, 0, 0), (.ifCond .ne 5, 3, 49, 0, 0, 0), (.iconst (-1), 1, 0, 0, (-1), 0), (.ireturn, 1, 0, 0, 0, 0)]
theorem sgX12_party_40_ok : qsg cX12_party 12 3 false 40 sgX12_party_40 = true := by decide +kernel
def sgX12_party_49 : List qEl := [(.aload_n 0, 1, 0, 0, 0, 0), (.getfield 26, 3, 12, 11, 0, 0), (.bipush 10, 2, 0, 0, 10, 0), (.aload_n 0, 1, 0, 0, 0, 0), (.getfield 89, 3, 12, 55, 0, 0), (.iconst 0, 1, 0, 0, 0, 0), (.iaload, 1, 0, 0, 0, 0), (.imul, 1, 0, 0, 0, 0), (.iconst 1, 1, 0, 0, 1, 0), (.iadd, 1, 0, 0, 0, 0), (.iaload, 1, 0, 0, 0, 0), (.aload_n 0, 1, 0, 0, 0, 0), (.getfield 92, 3, 12, 56, 0, 0), (.bipush 11, 2, 0, 0, 11, 0), (.aload_n 0, 1, 0, 0, 0, 0), (.getfield 171, 3, 12, 19, 0, 0), (.iadd, 1, 0, 0, 0, 0), (.iaload, 1, 0, 0, 0, 0), (.isub, 1, 0, 0, 0, 0), (.istore_n 2, 1, 0, 0, 0, 0), (.iload_n 2, 1, 0, 0, 0, 0), (.aload_n 0, 1, 0, 0, 0, 0), (.getfield 92, 3, 12, 56, 0, 0), (.aload_n 0, 1, 0, 0, 0, 0), (.getfield 171, 3, 12, 19, 0, 0), (.iaload, 1, 0, 0, 0, 0), (.if_icmp .ne 12, 3, 101, 0, 0, 0), (.aload_n 0, 1, 0, 0, 0, 0), (.getfield 89, 3, 12, 55, 0, 0), (.iconst 0, 1, 0, 0, 0, 0), (.iaload, 1, 0, 0, 0, 0), (.goto 14, 3, 112, 0, 0, 0)]
theorem sgX12_party_49_ok : qsg cX12_party 12 3 false 49 sgX12_party_49 = true := by decide +kernel
def sgX12_party_101 : List qEl := [(.aload_n 0, 1, 0, 0, 0, 0), (.getfield 89, 3, 12, 55, 0, 0), (.aload_n 0, 1, 0, 0, 0, 0), (.getfield 171, 3, 12, 19, 0, 0), (.iconst 1, 1, 0, 0, 1, 0), (.isub, 1, 0, 0, 0, 0), (.iaload, 1, 0, 0, 0, 0)]
theorem sgX12_party_101_ok : qsg cX12_party 12 3 false 101 sgX12_party_101 = true := by decide +kernel
def sgX12_party_112 : List qEl := [(.ireturn, 1, 0, 0, 0, 0)]
theorem sgX12_party_112_ok : qsg cX12_party 12 3 false 112 sgX12_party_112 = true := by decide +kernel
def sgX12_isRight_0 : List qEl := [(.iconst 0, 1, 0, 0, 0, 0), (.istore_n 3, 1, 0, 0, 0, 0), (.iconst 0, 1, 0, 0, 0, 0), (.istore 4, 2, 0, 0, 0, 0)]
theorem sgX12_isRight_0_ok : qsg cX12_isRight 12 5 false 0 sgX12_isRight_0 = true := by decide +kernel
def sgX12_isRight_5 : List qEl := [(.iload 4, 2, 0, 0, 0, 0), (.aload_n 0, 1, 0, 0, 0, 0), (.getfield 171, 3, 12, 19, 0, 0), (.if_icmp .ge 40, 3, 51, 0, 0, 0), (.iload_n 3, 1, 0, 0, 0, 0), (.aload_n 0, 1, 0, 0, 0, 0), (.getfield 65, 3, 12, 35, 0, 0), (.iconst 2, 1, 0, 0, 2, 0), (.iload_n 1, 1, 0, 0, 0, 0), (.imul, 1, 0, 0, 0, 0), (.iaload, 1, 0, 0, 0, 0), (.iload_n 2, 1, 0, 0, 0, 0), (.iand, 1, 0, 0, 0, 0), (.iload 4, 2, 0, 0, 0, 0), (.ishr, 1, 0, 0, 0, 0), (.iconst 1, 1, 0, 0, 1, 0), (.iand, 1, 0, 0, 0, 0), (.aload_n 0, 1, 0, 0, 0, 0), (.getfield 26, 3, 12, 11, 0, 0), (.bipush 10, 2, 0, 0, 10, 0), (.iload 4, 2, 0, 0, 0, 0), (.imul, 1, 0, 0, 0, 0), (.iconst 1, 1, 0, 0, 1, 0), (.iadd, 1, 0, 0, 0, 0), (.iaload, 1, 0, 0, 0, 0), (.imul, 1, 0, 0, 0, 0), (.iadd, 1, 0, 0, 0, 0), (.istore_n 3, 1, 0, 0, 0, 0), (.iinc 4 1, 3, 0, 0, 1, 0), (.goto (-43), 3, 5, 0, 0, 0)]
theorem sgX12_isRight_5_ok : qsg cX12_isRight 12 5 false 5 sgX12_isRight_5 = true := by decide +kernel
def sgX12_isRight_51 : List qEl := [(.iload_n 3, 1, 0, 0, 0, 0), (.aload_n 0, 1, 0, 0, 0, 0), (.getfield 65, 3, 12, 35, 0, 0), (.iconst 2, 1, 0, 0, 2, 0), (.iload_n 1, 1, 0, 0, 0, 0), (.imul, 1, 0, 0, 0, 0), (.iconst 1, 1, 0, 0, 1, 0), (.iadd, 1, 0, 0, 0, 0), (.iaload, 1, 0, 0, 0, 0), (.if_icmp .ne 7, 3, 69, 0, 0, 0), (.iconst 1, 1, 0, 0, 1, 0), (.goto 4, 3, 70, 0, 0, 0)]
theorem sgX12_isRight_51_ok : qsg cX12_isRight 12 5 false 51 sgX12_isRight_51 = true := by decide +kernel
def sgX12_isRight_69 : List qEl := [(.iconst 0, 1, 0, 0, 0, 0)]
theorem sgX12_isRight_69_ok : qsg cX12_isRight 12 5 false 69 sgX12_isRight_69 = true := by decide +kernel
def sgX12_isRight_70 : List qEl := [(.ireturn, 1, 0, 0, 0, 0)]
theorem sgX12_isRight_70_ok : qsg cX12_isRight 12 5 false 70 sgX12_isRight_70 = true := by decide +kernel
def sgX12_gave_0 : List qEl := [(.aload_n 0, 1, 0, 0, 0, 0), (.iconst 0, 1, 0, 0, 0, 0), (.putfield 3, 3, 12, 0, 0, 0), (.aload_n 0, 1, 0, 0, 0, 0), (.iload_n 1, 1, 0, 0, 0, 0), (.iconst 0, 1, 0, 0, 0, 0), (.iconst 3, 1, 0, 0, 3, 0), (.invokestatic 324, 3, 0, 3, 0, 0), (.iconst 1, 1, 0, 0, 1, 0), (.iconst 1, 1, 0, 0, 1, 0), (.invokevirtual 247, 3, 0, 3, 0, 0), (.ifCond .ne 5, 3, 22, 0, 0, 0), (.iconst 0, 1, 0, 0, 0, 0), (.ireturn, 1, 0, 0, 0, 0)]
theorem sgX12_gave_0_ok : qsg cX12_gave 12 9 false 0 sgX12_gave_0 = true := by decide +kernel
def sgX12_gave_22 : List qEl := [(.iconst 0, 1, 0, 0, 0, 0), (.istore_n 2, 1, 0, 0, 0, 0), (.iconst (-1), 1, 0, 0, (-1), 0), (.istore_n 3, 1, 0, 0, 0, 0), (.iconst 1, 1, 0, 0, 1, 0), (.aload_n 0, 1, 0, 0, 0, 0), (.getfield 171, 3, 12, 19, 0, 0), (.ishl, 1, 0, 0, 0, 0), (.iconst 1, 1, 0, 0, 1, 0), (.isub, 1, 0, 0, 0, 0), (.istore 4, 2, 0, 0, 0, 0), (.iconst 0, 1, 0, 0, 0, 0), (.istore 5, 2, 0, 0, 0, 0), (.iconst 0, 1, 0, 0, 0, 0), (.istore 6, 2, 0, 0, 0, 0)]
theorem sgX12_gave_22_ok : qsg cX12_gave 12 9 false 22 sgX12_gave_22 = true := by decide +kernel
def sgX12_gave_42 : List qEl := [(.iload 6, 2, 0, 0, 0, 0), (.iconst 1, 1, 0, 0, 1, 0), (.aload_n 0, 1, 0, 0, 0, 0), (.getfield 171, 3, 12, 19, 0, 0), (.ishl, 1, 0, 0, 0, 0), (.if_icmp .ge 90, 3, 140, 0, 0, 0), (.iconst 1, 1, 0, 0, 1, 0), (.istore 7, 2, 0, 0, 0, 0), (.iconst 0, 1, 0, 0, 0, 0), (.istore 8, 2, 0, 0, 0, 0)]
theorem sgX12_gave_42_ok : qsg cX12_gave 12 9 false 42 sgX12_gave_42 = true := by decide +kernel
def sgX12_gave_59 : List qEl := [(.iload 8, 2, 0, 0, 0, 0), (.aload_n 0, 1, 0, 0, 0, 0), (.getfield 193, 3, 12, 37, 0, 0), (.if_icmp .ge 32, 3, 97, 0, 0, 0), (.iload 7, 2, 0, 0, 0, 0), (.ifCond .eq 18, 3, 88, 0, 0, 0), (.aload_n 0, 1, 0, 0, 0, 0), (.iload 8, 2, 0, 0, 0, 0), (.iload 6, 2, 0, 0, 0, 0), (.invokevirtual 490, 3, 0, 2, 0, 0), (.ifCond .eq 7, 3, 88, 0, 0, 0), (.iconst 1, 1, 0, 0, 1, 0), (.goto 4, 3, 89, 0, 0, 0)]
theorem sgX12_gave_59_ok : qsg cX12_gave 12 9 false 59 sgX12_gave_59 = true := by decide +kernel
def sgX12_gave_88 : List qEl := [(.iconst 0, 1, 0, 0, 0, 0)]
theorem sgX12_gave_88_ok : qsg cX12_gave 12 9 false 88 sgX12_gave_88 = true := by decide +kernel
def sgX12_gave_89 : List qEl := [(.istore 7, 2, 0, 0, 0, 0), (.iinc 8 1, 3, 0, 0, 1, 0), (.goto (-35), 3, 59, 0, 0, 0)]
theorem sgX12_gave_89_ok : qsg cX12_gave 12 9 false 89 sgX12_gave_89 = true := by decide +kernel
def sgX12_gave_97 : List qEl := [(.iload 7, 2, 0, 0, 0, 0), (.ifCond .ne 6, 3, 105, 0, 0, 0), (.goto 32, 3, 134, 0, 0, 0)]
theorem sgX12_gave_97_ok : qsg cX12_gave 12 9 false 97 sgX12_gave_97 = true := by decide +kernel
def sgX12_gave_105 : List qEl := [(.iinc 2 1, 3, 0, 0, 1, 0), (.iload_n 3, 1, 0, 0, 0, 0), (.iconst (-1), 1, 0, 0, (-1), 0), (.if_icmp .ne 8, 3, 118, 0, 0, 0), (.iload 6, 2, 0, 0, 0, 0), (.goto 4, 3, 119, 0, 0, 0)]
theorem sgX12_gave_105_ok : qsg cX12_gave 12 9 false 105 sgX12_gave_105 = true := by decide +kernel
def sgX12_gave_118 : List qEl := [(.iload_n 3, 1, 0, 0, 0, 0)]
theorem sgX12_gave_118_ok : qsg cX12_gave 12 9 false 118 sgX12_gave_118 = true := by decide +kernel
def sgX12_gave_119 : List qEl := [(.istore_n 3, 1, 0, 0, 0, 0), (.iload 4, 2, 0, 0, 0, 0), (.iload 6, 2, 0, 0, 0, 0), (.iand, 1, 0, 0, 0, 0), (.istore 4, 2, 0, 0, 0, 0), (.iload 5, 2, 0, 0, 0, 0), (.iload 6, 2, 0, 0, 0, 0), (.ior, 1, 0, 0, 0, 0), (.istore 5, 2, 0, 0, 0, 0)]
theorem sgX12_gave_119_ok : qsg cX12_gave 12 9 false 119 sgX12_gave_119 = true := by decide +kernel
def sgX12_gave_134 : List qEl := [(.iinc 6 1, 3, 0, 0, 1, 0), (.goto (-95), 3, 42, 0, 0, 0)]
theorem sgX12_gave_134_ok : qsg cX12_gave 12 9 false 134 sgX12_gave_134 = true := by decide +kernel
def sgX12_gave_140 : List qEl := [(.iload_n 1, 1, 0, 0, 0, 0), (.iconst 2, 1, 0, 0, 2, 0), (.if_icmp .ge 13, 3, 155, 0, 0, 0), (.iload_n 1, 1, 0, 0, 0, 0), (.ifCond .ne 7, 3, 153, 0, 0, 0), (.iload_n 2, 1, 0, 0, 0, 0), (.goto 4, 3, 154, 0, 0, 0)]
theorem sgX12_gave_140_ok : qsg cX12_gave 12 9 false 140 sgX12_gave_140 = true := by decide +kernel
def sgX12_gave_153 : List qEl := [(.iload_n 3, 1, 0, 0, 0, 0)]
theorem sgX12_gave_153_ok : qsg cX12_gave 12 9 false 153 sgX12_gave_153 = true := by decide +kernel
def sgX12_gave_154 : List qEl := [(.ireturn, 1, 0, 0, 0, 0)]
theorem sgX12_gave_154_ok : qsg cX12_gave 12 9 false 154 sgX12_gave_154 = true := by decide +kernel
def sgX12_gave_155 : List qEl := [(.iload_n 2, 1, 0, 0, 0, 0), (.ifCond .ne 7, 3, 163, 0, 0, 0), (.iconst 0, 1, 0, 0, 0, 0), (.goto 26, 3, 186, 0, 0, 0)]
theorem sgX12_gave_155_ok : qsg cX12_gave 12 9 false 155 sgX12_gave_155 = true := by decide +kernel
def sgX12_gave_163 : List qEl := [(.iload_n 1, 1, 0, 0, 0, 0), (.iconst 2, 1, 0, 0, 2, 0), (.if_icmp .ne 8, 3, 173, 0, 0, 0), (.iload 4, 2, 0, 0, 0, 0), (.goto 16, 3, 186, 0, 0, 0)]
theorem sgX12_gave_163_ok : qsg cX12_gave 12 9 false 163 sgX12_gave_163 = true := by decide +kernel
def sgX12_gave_173 : List qEl := [(.iconst 1, 1, 0, 0, 1, 0), (.aload_n 0, 1, 0, 0, 0, 0), (.getfield 171, 3, 12, 19, 0, 0), (.ishl, 1, 0, 0, 0, 0), (.iconst 1, 1, 0, 0, 1, 0), (.isub, 1, 0, 0, 0, 0), (.iload 5, 2, 0, 0, 0, 0), (.iconst (-1), 1, 0, 0, (-1), 0), (.ixor, 1, 0, 0, 0, 0), (.iand, 1, 0, 0, 0, 0)]
theorem sgX12_gave_173_ok : qsg cX12_gave 12 9 false 173 sgX12_gave_173 = true := by decide +kernel
def sgX12_gave_186 : List qEl := [(.ireturn, 1, 0, 0, 0, 0)]
theorem sgX12_gave_186_ok : qsg cX12_gave 12 9 false 186 sgX12_gave_186 = true := by decide +kernel
def sgX12_right_0 : List qEl := [(.aload_n 0, 1, 0, 0, 0, 0), (.iconst 0, 1, 0, 0, 0, 0), (.putfield 3, 3, 12, 0, 0, 0), (.aload_n 0, 1, 0, 0, 0, 0), (.iload_n 1, 1, 0, 0, 0, 0), (.iconst 0, 1, 0, 0, 0, 0), (.iconst 1, 1, 0, 0, 1, 0), (.aload_n 0, 1, 0, 0, 0, 0), (.getfield 171, 3, 12, 19, 0, 0), (.ishl, 1, 0, 0, 0, 0), (.iconst 1, 1, 0, 0, 1, 0), (.isub, 1, 0, 0, 0, 0), (.invokestatic 324, 3, 0, 3, 0, 0), (.iconst 1, 1, 0, 0, 1, 0), (.iconst 1, 1, 0, 0, 1, 0), (.invokevirtual 247, 3, 0, 3, 0, 0), (.ifCond .ne 5, 3, 29, 0, 0, 0), (.iconst 0, 1, 0, 0, 0, 0), (.ireturn, 1, 0, 0, 0, 0)]
theorem sgX12_right_0_ok : qsg cX12_right 12 3 false 0 sgX12_right_0 = true := by decide +kernel
def sgX12_right_29 : List qEl := [(.iconst 0, 1, 0, 0, 0, 0), (.istore_n 2, 1, 0, 0, 0, 0)]
theorem sgX12_right_29_ok : qsg cX12_right 12 3 false 29 sgX12_right_29 = true := by decide +kernel
def sgX12_right_31 : List qEl := [(.iload_n 2, 1, 0, 0, 0, 0), (.aload_n 0, 1, 0, 0, 0, 0), (.getfield 193, 3, 12, 37, 0, 0), (.if_icmp .ge 18, 3, 54, 0, 0, 0), (.aload_n 0, 1, 0, 0, 0, 0), (.iload_n 2, 1, 0, 0, 0, 0), (.iload_n 1, 1, 0, 0, 0, 0), (.invokevirtual 490, 3, 0, 2, 0, 0), (.ifCond .eq 9, 3, 54, 0, 0, 0), (.iinc 2 1, 3, 0, 0, 1, 0), (.goto (-20), 3, 31, 0, 0, 0)]
theorem sgX12_right_31_ok : qsg cX12_right 12 3 false 31 sgX12_right_31 = true := by decide +kernel
def sgX12_right_54 : List qEl := [(.iload_n 2, 1, 0, 0, 0, 0), (.ireturn, 1, 0, 0, 0, 0)]
theorem sgX12_right_54_ok : qsg cX12_right 12 3 false 54 sgX12_right_54 = true := by decide +kernel
def sgX12_draws_0 : List qEl := [(.aload_n 0, 1, 0, 0, 0, 0), (.aload_n 0, 1, 0, 0, 0, 0), (.getfield 493, 3, 12, 57, 0, 0), (.ldc_w 496, 3, 0, 0, 1103515245, 0), (.imul, 1, 0, 0, 0, 0), (.sipush 12345, 3, 0, 0, 12345, 0), (.iadd, 1, 0, 0, 0, 0), (.putfield 493, 3, 12, 57, 0, 0), (.aload_n 0, 1, 0, 0, 0, 0), (.getfield 493, 3, 12, 57, 0, 0), (.bipush 16, 2, 0, 0, 16, 0), (.ishr, 1, 0, 0, 0, 0), (.sipush 32767, 3, 0, 0, 32767, 0), (.iand, 1, 0, 0, 0, 0), (.bipush 16, 2, 0, 0, 16, 0), (.irem, 1, 0, 0, 0, 0), (.ireturn, 1, 0, 0, 0, 0)]
theorem sgX12_draws_0_ok : qsg cX12_draws 12 1 false 0 sgX12_draws_0 = true := by decide +kernel
def sgX12_stepAt_0 : List qEl := [(.aload_n 0, 1, 0, 0, 0, 0), (.getfield 95, 3, 12, 58, 0, 0), (.iconst 2, 1, 0, 0, 2, 0), (.dup2, 1, 0, 0, 0, 0), (.iaload, 1, 0, 0, 0, 0), (.iload_n 2, 1, 0, 0, 0, 0), (.ifCond .eq 7, 3, 15, 0, 0, 0), (.iconst 1, 1, 0, 0, 1, 0), (.goto 7, 3, 19, 0, 0, 0)]
theorem sgX12_stepAt_0_ok : qsg cX12_stepAt 12 3 false 0 sgX12_stepAt_0 = true := by decide +kernel
def sgX12_stepAt_15 : List qEl := [(.aload_n 0, 1, 0, 0, 0, 0), (.getfield 180, 3, 12, 22, 0, 0)]
theorem sgX12_stepAt_15_ok : qsg cX12_stepAt 12 3 false 15 sgX12_stepAt_15 = true := by decide +kernel
def sgX12_stepAt_19 : List qEl := [(.iadd, 1, 0, 0, 0, 0), (.iastore, 1, 0, 0, 0, 0), (.aload_n 0, 1, 0, 0, 0, 0), (.getfield 95, 3, 12, 58, 0, 0), (.iload_n 2, 1, 0, 0, 0, 0), (.ifCond .eq 7, 3, 33, 0, 0, 0), (.iconst 5, 1, 0, 0, 5, 0), (.goto 4, 3, 34, 0, 0, 0)]
theorem sgX12_stepAt_19_ok : qsg cX12_stepAt 12 3 false 19 sgX12_stepAt_19 = true := by decide +kernel
def sgX12_stepAt_33 : List qEl := [(.iconst 4, 1, 0, 0, 4, 0)]
theorem sgX12_stepAt_33_ok : qsg cX12_stepAt 12 3 false 33 sgX12_stepAt_33 = true := by decide +kernel
def sgX12_stepAt_34 : List qEl := [(.dup2, 1, 0, 0, 0, 0), (.iaload, 1, 0, 0, 0, 0), (.iconst 1, 1, 0, 0, 1, 0), (.iadd, 1, 0, 0, 0, 0), (.iastore, 1, 0, 0, 0, 0), (.aload_n 0, 1, 0, 0, 0, 0), (.getfield 497, 3, 12, 60, 0, 0), (.ifCond .eq 38, 3, 81, 0, 0, 0), (.aload_n 0, 1, 0, 0, 0, 0), (.aload_n 0, 1, 0, 0, 0, 0), (.invokevirtual 501, 3, 0, 0, 0, 0), (.aload_n 0, 1, 0, 0, 0, 0), (.getfield 26, 3, 12, 11, 0, 0), (.bipush 10, 2, 0, 0, 10, 0), (.iload_n 1, 1, 0, 0, 0, 0), (.imul, 1, 0, 0, 0, 0), (.iload_n 2, 1, 0, 0, 0, 0), (.ifCond .eq 7, 3, 67, 0, 0, 0), (.iconst 5, 1, 0, 0, 5, 0), (.goto 4, 3, 68, 0, 0, 0)]
theorem sgX12_stepAt_34_ok : qsg cX12_stepAt 12 3 false 34 sgX12_stepAt_34 = true := by decide +kernel
def sgX12_stepAt_67 : List qEl := [(.iconst 4, 1, 0, 0, 4, 0)]
theorem sgX12_stepAt_67_ok : qsg cX12_stepAt 12 3 false 67 sgX12_stepAt_67 = true := by decide +kernel
def sgX12_stepAt_68 : List qEl := [(.iadd, 1, 0, 0, 0, 0), (.iaload, 1, 0, 0, 0, 0), (.if_icmp .ge 7, 3, 77, 0, 0, 0), (.iconst 1, 1, 0, 0, 1, 0), (.goto 4, 3, 78, 0, 0, 0)]
theorem sgX12_stepAt_68_ok : qsg cX12_stepAt 12 3 false 68 sgX12_stepAt_68 = true := by decide +kernel
def sgX12_stepAt_77 : List qEl := [(.iconst 0, 1, 0, 0, 0, 0)]
theorem sgX12_stepAt_77_ok : qsg cX12_stepAt 12 3 false 77 sgX12_stepAt_77 = true := by decide +kernel
def sgX12_stepAt_78 : List qEl := [(.putfield 504, 3, 12, 59, 0, 0)]
theorem sgX12_stepAt_78_ok : qsg cX12_stepAt 12 3 false 78 sgX12_stepAt_78 = true := by decide +kernel
def sgX12_stepAt_81 : List qEl := [(.return_, 1, 0, 0, 0, 0)]
theorem sgX12_stepAt_81_ok : qsg cX12_stepAt 12 3 false 81 sgX12_stepAt_81 = true := by decide +kernel
def sgX12_singsOn_0 : List qEl := [(.aload_n 0, 1, 0, 0, 0, 0), (.getfield 59, 3, 12, 33, 0, 0), (.iconst 3, 1, 0, 0, 3, 0), (.iload_n 1, 1, 0, 0, 0, 0), (.imul, 1, 0, 0, 0, 0), (.iconst 1, 1, 0, 0, 1, 0), (.iadd, 1, 0, 0, 0, 0), (.iaload, 1, 0, 0, 0, 0), (.istore_n 3, 1, 0, 0, 0, 0), (.aload_n 0, 1, 0, 0, 0, 0), (.getfield 47, 3, 12, 28, 0, 0), (.iconst 1, 1, 0, 0, 1, 0), (.iaload, 1, 0, 0, 0, 0), (.ifCond .ne 14, 3, 31, 0, 0, 0), (.iload_n 2, 1, 0, 0, 0, 0), (.iload_n 3, 1, 0, 0, 0, 0), (.if_icmp .ge 7, 3, 29, 0, 0, 0), (.iconst 1, 1, 0, 0, 1, 0), (.goto 4, 3, 30, 0, 0, 0)]
theorem sgX12_singsOn_0_ok : qsg cX12_singsOn 12 4 false 0 sgX12_singsOn_0 = true := by decide +kernel
def sgX12_singsOn_29 : List qEl := [(.iconst 0, 1, 0, 0, 0, 0)]
theorem sgX12_singsOn_29_ok : qsg cX12_singsOn 12 4 false 29 sgX12_singsOn_29 = true := by decide +kernel
def sgX12_singsOn_30 : List qEl := [(.ireturn, 1, 0, 0, 0, 0)]
theorem sgX12_singsOn_30_ok : qsg cX12_singsOn 12 4 false 30 sgX12_singsOn_30 = true := by decide +kernel
def sgX12_singsOn_31 : List qEl := [(.iload_n 2, 1, 0, 0, 0, 0), (.iconst 5, 1, 0, 0, 5, 0), (.if_icmp .ne 5, 3, 38, 0, 0, 0), (.iconst 0, 1, 0, 0, 0, 0), (.ireturn, 1, 0, 0, 0, 0)]
theorem sgX12_singsOn_31_ok : qsg cX12_singsOn 12 4 false 31 sgX12_singsOn_31 = true := by decide +kernel
def sgX12_singsOn_38 : List qEl := [(.aload_n 0, 1, 0, 0, 0, 0), (.aload_n 0, 1, 0, 0, 0, 0), (.getfield 59, 3, 12, 33, 0, 0), (.iconst 3, 1, 0, 0, 3, 0), (.iload_n 1, 1, 0, 0, 0, 0), (.imul, 1, 0, 0, 0, 0), (.iaload, 1, 0, 0, 0, 0), (.iload_n 2, 1, 0, 0, 0, 0), (.iload_n 1, 1, 0, 0, 0, 0), (.invokevirtual 332, 3, 0, 3, 0, 0), (.aload_n 0, 1, 0, 0, 0, 0), (.getfield 53, 3, 12, 31, 0, 0), (.bipush 7, 2, 0, 0, 7, 0), (.aload_n 0, 1, 0, 0, 0, 0), (.getfield 95, 3, 12, 58, 0, 0), (.iconst 2, 1, 0, 0, 2, 0), (.iaload, 1, 0, 0, 0, 0), (.iastore, 1, 0, 0, 0, 0), (.aload_n 0, 1, 0, 0, 0, 0), (.getfield 53, 3, 12, 31, 0, 0), (.bipush 8, 2, 0, 0, 8, 0), (.aload_n 0, 1, 0, 0, 0, 0), (.getfield 95, 3, 12, 58, 0, 0), (.iconst 0, 1, 0, 0, 0, 0), (.iaload, 1, 0, 0, 0, 0), (.iastore, 1, 0, 0, 0, 0), (.aload_n 0, 1, 0, 0, 0, 0), (.getfield 53, 3, 12, 31, 0, 0), (.bipush 9, 2, 0, 0, 9, 0), (.iload_n 3, 1, 0, 0, 0, 0), (.iastore, 1, 0, 0, 0, 0), (.aload_n 0, 1, 0, 0, 0, 0), (.iconst 1, 1, 0, 0, 1, 0), (.invokevirtual 336, 3, 0, 1, 0, 0), (.ifCond .le 7, 3, 98, 0, 0, 0), (.iconst 1, 1, 0, 0, 1, 0), (.goto 4, 3, 99, 0, 0, 0)]
theorem sgX12_singsOn_38_ok : qsg cX12_singsOn 12 4 false 38 sgX12_singsOn_38 = true := by decide +kernel
def sgX12_singsOn_98 : List qEl := [(.iconst 0, 1, 0, 0, 0, 0)]
theorem sgX12_singsOn_98_ok : qsg cX12_singsOn 12 4 false 98 sgX12_singsOn_98 = true := by decide +kernel
def sgX12_singsOn_99 : List qEl := [(.ireturn, 1, 0, 0, 0, 0)]
theorem sgX12_singsOn_99_ok : qsg cX12_singsOn 12 4 false 99 sgX12_singsOn_99 = true := by decide +kernel
def sgX12_visits_0 : List qEl := [(.aload_n 0, 1, 0, 0, 0, 0), (.getfield 59, 3, 12, 33, 0, 0), (.iconst 3, 1, 0, 0, 3, 0), (.iload_n 1, 1, 0, 0, 0, 0), (.imul, 1, 0, 0, 0, 0), (.iaload, 1, 0, 0, 0, 0), (.istore_n 2, 1, 0, 0, 0, 0), (.aload_n 0, 1, 0, 0, 0, 0), (.getfield 59, 3, 12, 33, 0, 0), (.iconst 3, 1, 0, 0, 3, 0), (.iload_n 1, 1, 0, 0, 0, 0), (.imul, 1, 0, 0, 0, 0), (.iconst 2, 1, 0, 0, 2, 0), (.iadd, 1, 0, 0, 0, 0), (.iaload, 1, 0, 0, 0, 0), (.istore_n 3, 1, 0, 0, 0, 0), (.aload_n 0, 1, 0, 0, 0, 0), (.aload_n 0, 1, 0, 0, 0, 0), (.invokevirtual 501, 3, 0, 0, 0, 0), (.aload_n 0, 1, 0, 0, 0, 0), (.getfield 26, 3, 12, 11, 0, 0), (.bipush 10, 2, 0, 0, 10, 0), (.iload_n 2, 1, 0, 0, 0, 0), (.imul, 1, 0, 0, 0, 0), (.iconst 3, 1, 0, 0, 3, 0), (.iadd, 1, 0, 0, 0, 0), (.iaload, 1, 0, 0, 0, 0), (.if_icmp .ge 7, 3, 43, 0, 0, 0), (.iconst 1, 1, 0, 0, 1, 0), (.goto 4, 3, 44, 0, 0, 0)]
theorem sgX12_visits_0_ok : qsg cX12_visits 12 5 false 0 sgX12_visits_0 = true := by decide +kernel
def sgX12_visits_43 : List qEl := [(.iconst 0, 1, 0, 0, 0, 0)]
theorem sgX12_visits_43_ok : qsg cX12_visits 12 5 false 43 sgX12_visits_43 = true := by decide +kernel
def sgX12_visits_44 : List qEl := [(.putfield 497, 3, 12, 60, 0, 0), (.aload_n 0, 1, 0, 0, 0, 0), (.iconst 0, 1, 0, 0, 0, 0), (.putfield 504, 3, 12, 59, 0, 0), (.aload_n 0, 1, 0, 0, 0, 0), (.getfield 95, 3, 12, 58, 0, 0), (.iconst 2, 1, 0, 0, 2, 0), (.dup2, 1, 0, 0, 0, 0), (.iaload, 1, 0, 0, 0, 0), (.aload_n 0, 1, 0, 0, 0, 0), (.getfield 26, 3, 12, 11, 0, 0), (.bipush 10, 2, 0, 0, 10, 0), (.iload_n 2, 1, 0, 0, 0, 0), (.imul, 1, 0, 0, 0, 0), (.bipush 8, 2, 0, 0, 8, 0), (.iadd, 1, 0, 0, 0, 0), (.iaload, 1, 0, 0, 0, 0), (.iadd, 1, 0, 0, 0, 0), (.iastore, 1, 0, 0, 0, 0), (.iconst 0, 1, 0, 0, 0, 0), (.istore 4, 2, 0, 0, 0, 0), (.iload_n 3, 1, 0, 0, 0, 0), (.iconst 1, 1, 0, 0, 1, 0), (.if_icmp .ne 9, 3, 87, 0, 0, 0), (.aload_n 0, 1, 0, 0, 0, 0), (.iload_n 2, 1, 0, 0, 0, 0), (.iconst 1, 1, 0, 0, 1, 0), (.invokevirtual 507, 3, 0, 2, 0, 0)]
theorem sgX12_visits_44_ok : qsg cX12_visits 12 5 false 44 sgX12_visits_44 = true := by decide +kernel
def sgX12_visits_87 : List qEl := [(.aload_n 0, 1, 0, 0, 0, 0), (.getfield 504, 3, 12, 59, 0, 0), (.ifCond .ne 25, 3, 116, 0, 0, 0), (.aload_n 0, 1, 0, 0, 0, 0), (.iload_n 1, 1, 0, 0, 0, 0), (.iload 4, 2, 0, 0, 0, 0), (.invokevirtual 511, 3, 0, 2, 0, 0), (.ifCond .eq 15, 3, 116, 0, 0, 0), (.aload_n 0, 1, 0, 0, 0, 0), (.iload_n 2, 1, 0, 0, 0, 0), (.iconst 0, 1, 0, 0, 0, 0), (.invokevirtual 507, 3, 0, 2, 0, 0), (.iinc 4 1, 3, 0, 0, 1, 0), (.goto (-26), 3, 87, 0, 0, 0)]
theorem sgX12_visits_87_ok : qsg cX12_visits 12 5 false 87 sgX12_visits_87 = true := by decide +kernel
def sgX12_visits_116 : List qEl := [(.iload_n 3, 1, 0, 0, 0, 0), (.iconst 2, 1, 0, 0, 2, 0), (.if_icmp .ne 16, 3, 134, 0, 0, 0), (.aload_n 0, 1, 0, 0, 0, 0), (.getfield 504, 3, 12, 59, 0, 0), (.ifCond .ne 9, 3, 134, 0, 0, 0), (.aload_n 0, 1, 0, 0, 0, 0), (.iload_n 2, 1, 0, 0, 0, 0), (.iconst 1, 1, 0, 0, 1, 0), (.invokevirtual 507, 3, 0, 2, 0, 0)]
theorem sgX12_visits_116_ok : qsg cX12_visits 12 5 false 116 sgX12_visits_116 = true := by decide +kernel
def sgX12_visits_134 : List qEl := [(.aload_n 0, 1, 0, 0, 0, 0), (.getfield 504, 3, 12, 59, 0, 0), (.ifCond .eq 73, 3, 211, 0, 0, 0), (.aload_n 0, 1, 0, 0, 0, 0), (.getfield 95, 3, 12, 58, 0, 0), (.iconst 0, 1, 0, 0, 0, 0), (.dup2, 1, 0, 0, 0, 0), (.iaload, 1, 0, 0, 0, 0), (.aload_n 0, 1, 0, 0, 0, 0), (.iload_n 2, 1, 0, 0, 0, 0), (.iload 4, 2, 0, 0, 0, 0), (.iload_n 1, 1, 0, 0, 0, 0), (.invokevirtual 359, 3, 0, 3, 0, 0), (.iadd, 1, 0, 0, 0, 0), (.iastore, 1, 0, 0, 0, 0), (.aload_n 0, 1, 0, 0, 0, 0), (.getfield 95, 3, 12, 58, 0, 0), (.iconst 1, 1, 0, 0, 1, 0), (.dup2, 1, 0, 0, 0, 0), (.iaload, 1, 0, 0, 0, 0), (.aload_n 0, 1, 0, 0, 0, 0), (.getfield 26, 3, 12, 11, 0, 0), (.bipush 10, 2, 0, 0, 10, 0), (.iload_n 2, 1, 0, 0, 0, 0), (.imul, 1, 0, 0, 0, 0), (.iconst 2, 1, 0, 0, 2, 0), (.iadd, 1, 0, 0, 0, 0), (.iaload, 1, 0, 0, 0, 0), (.iadd, 1, 0, 0, 0, 0), (.iastore, 1, 0, 0, 0, 0), (.aload_n 0, 1, 0, 0, 0, 0), (.getfield 95, 3, 12, 58, 0, 0), (.iconst 2, 1, 0, 0, 2, 0), (.dup2, 1, 0, 0, 0, 0), (.iaload, 1, 0, 0, 0, 0), (.aload_n 0, 1, 0, 0, 0, 0), (.getfield 26, 3, 12, 11, 0, 0), (.bipush 10, 2, 0, 0, 10, 0), (.iload_n 2, 1, 0, 0, 0, 0), (.imul, 1, 0, 0, 0, 0), (.bipush 9, 2, 0, 0, 9, 0), (.iadd, 1, 0, 0, 0, 0), (.iaload, 1, 0, 0, 0, 0), (.iadd, 1, 0, 0, 0, 0), (.iastore, 1, 0, 0, 0, 0), (.aload_n 0, 1, 0, 0, 0, 0), (.getfield 95, 3, 12, 58, 0, 0), (.iconst 3, 1, 0, 0, 3, 0), (.dup2, 1, 0, 0, 0, 0), (.iaload, 1, 0, 0, 0, 0), (.iconst 1, 1, 0, 0, 1, 0), (.iload_n 2, 1, 0, 0, 0, 0), (.ishl, 1, 0, 0, 0, 0), (.ior, 1, 0, 0, 0, 0), (.iastore, 1, 0, 0, 0, 0)]
theorem sgX12_visits_134_ok : qsg cX12_visits 12 5 false 134 sgX12_visits_134 = true := by decide +kernel
def sgX12_visits_211 : List qEl := [(.aload_n 0, 1, 0, 0, 0, 0), (.getfield 95, 3, 12, 58, 0, 0), (.iconst 2, 1, 0, 0, 2, 0), (.dup2, 1, 0, 0, 0, 0), (.iaload, 1, 0, 0, 0, 0), (.aload_n 0, 1, 0, 0, 0, 0), (.getfield 26, 3, 12, 11, 0, 0), (.bipush 10, 2, 0, 0, 10, 0), (.iload_n 2, 1, 0, 0, 0, 0), (.imul, 1, 0, 0, 0, 0), (.bipush 8, 2, 0, 0, 8, 0), (.iadd, 1, 0, 0, 0, 0), (.iaload, 1, 0, 0, 0, 0), (.iadd, 1, 0, 0, 0, 0), (.iastore, 1, 0, 0, 0, 0), (.return_, 1, 0, 0, 0, 0)]
theorem sgX12_visits_211_ok : qsg cX12_visits 12 5 false 211 sgX12_visits_211 = true := by decide +kernel
def sgX12_goesOut_0 : List qEl := [(.aload_n 0, 1, 0, 0, 0, 0), (.iload_n 1, 1, 0, 0, 0, 0), (.putfield 493, 3, 12, 57, 0, 0), (.iconst 0, 1, 0, 0, 0, 0), (.istore_n 2, 1, 0, 0, 0, 0)]
theorem sgX12_goesOut_0_ok : qsg cX12_goesOut 12 3 false 0 sgX12_goesOut_0 = true := by decide +kernel
def sgX12_goesOut_7 : List qEl := [(.iload_n 2, 1, 0, 0, 0, 0), (.bipush 7, 2, 0, 0, 7, 0), (.if_icmp .ge 16, 3, 26, 0, 0, 0), (.aload_n 0, 1, 0, 0, 0, 0), (.getfield 95, 3, 12, 58, 0, 0), (.iload_n 2, 1, 0, 0, 0, 0), (.iconst 0, 1, 0, 0, 0, 0), (.iastore, 1, 0, 0, 0, 0), (.iinc 2 1, 3, 0, 0, 1, 0), (.goto (-16), 3, 7, 0, 0, 0)]
theorem sgX12_goesOut_7_ok : qsg cX12_goesOut 12 3 false 7 sgX12_goesOut_7 = true := by decide +kernel
def sgX12_goesOut_26 : List qEl := [(.iconst 0, 1, 0, 0, 0, 0), (.istore_n 2, 1, 0, 0, 0, 0)]
theorem sgX12_goesOut_26_ok : qsg cX12_goesOut 12 3 false 26 sgX12_goesOut_26 = true := by decide +kernel
def sgX12_goesOut_28 : List qEl := [(.iload_n 2, 1, 0, 0, 0, 0), (.aload_n 0, 1, 0, 0, 0, 0), (.getfield 190, 3, 12, 36, 0, 0), (.if_icmp .ge 67, 3, 100, 0, 0, 0), (.aload_n 0, 1, 0, 0, 0, 0), (.getfield 95, 3, 12, 58, 0, 0), (.iconst 2, 1, 0, 0, 2, 0), (.dup2, 1, 0, 0, 0, 0), (.iaload, 1, 0, 0, 0, 0), (.aload_n 0, 1, 0, 0, 0, 0), (.iload_n 2, 1, 0, 0, 0, 0), (.invokevirtual 356, 3, 0, 1, 0, 0), (.iadd, 1, 0, 0, 0, 0), (.iastore, 1, 0, 0, 0, 0), (.aload_n 0, 1, 0, 0, 0, 0), (.getfield 95, 3, 12, 58, 0, 0), (.iconst 2, 1, 0, 0, 2, 0), (.iaload, 1, 0, 0, 0, 0), (.aload_n 0, 1, 0, 0, 0, 0), (.getfield 183, 3, 12, 23, 0, 0), (.if_icmp .le 18, 3, 78, 0, 0, 0), (.aload_n 0, 1, 0, 0, 0, 0), (.getfield 95, 3, 12, 58, 0, 0), (.iconst 2, 1, 0, 0, 2, 0), (.dup2, 1, 0, 0, 0, 0), (.iaload, 1, 0, 0, 0, 0), (.aload_n 0, 1, 0, 0, 0, 0), (.iload_n 2, 1, 0, 0, 0, 0), (.invokevirtual 356, 3, 0, 1, 0, 0), (.isub, 1, 0, 0, 0, 0), (.iastore, 1, 0, 0, 0, 0), (.return_, 1, 0, 0, 0, 0)]
theorem sgX12_goesOut_28_ok : qsg cX12_goesOut 12 3 false 28 sgX12_goesOut_28 = true := by decide +kernel
def sgX12_goesOut_78 : List qEl := [(.aload_n 0, 1, 0, 0, 0, 0), (.getfield 95, 3, 12, 58, 0, 0), (.bipush 6, 2, 0, 0, 6, 0), (.dup2, 1, 0, 0, 0, 0), (.iaload, 1, 0, 0, 0, 0), (.iconst 1, 1, 0, 0, 1, 0), (.iadd, 1, 0, 0, 0, 0), (.iastore, 1, 0, 0, 0, 0), (.aload_n 0, 1, 0, 0, 0, 0), (.iload_n 2, 1, 0, 0, 0, 0), (.invokevirtual 514, 3, 0, 1, 0, 0), (.iinc 2 1, 3, 0, 0, 1, 0), (.goto (-69), 3, 28, 0, 0, 0)]
theorem sgX12_goesOut_78_ok : qsg cX12_goesOut 12 3 false 78 sgX12_goesOut_78 = true := by decide +kernel
def sgX12_goesOut_100 : List qEl := [(.return_, 1, 0, 0, 0, 0)]
theorem sgX12_goesOut_100_ok : qsg cX12_goesOut 12 3 false 100 sgX12_goesOut_100 = true := by decide +kernel
def sgX12_evening_0 : List qEl := [(.aload_n 0, 1, 0, 0, 0, 0), (.iconst 0, 1, 0, 0, 0, 0), (.putfield 3, 3, 12, 0, 0, 0), (.aload_n 0, 1, 0, 0, 0, 0), (.iload_n 2, 1, 0, 0, 0, 0), (.iconst 0, 1, 0, 0, 0, 0), (.bipush 6, 2, 0, 0, 6, 0), (.invokestatic 324, 3, 0, 3, 0, 0), (.iconst 1, 1, 0, 0, 1, 0), (.iconst 1, 1, 0, 0, 1, 0), (.invokevirtual 247, 3, 0, 3, 0, 0), (.ifCond .ne 5, 3, 23, 0, 0, 0), (.iconst 0, 1, 0, 0, 0, 0), (.ireturn, 1, 0, 0, 0, 0)]
theorem sgX12_evening_0_ok : qsg cX12_evening 12 3 false 0 sgX12_evening_0 = true := by decide +kernel
def sgX12_evening_23 : List qEl := [(.aload_n 0, 1, 0, 0, 0, 0), (.iload_n 1, 1, 0, 0, 0, 0), (.invokevirtual 517, 3, 0, 1, 0, 0), (.aload_n 0, 1, 0, 0, 0, 0), (.getfield 95, 3, 12, 58, 0, 0), (.iload_n 2, 1, 0, 0, 0, 0), (.iaload, 1, 0, 0, 0, 0), (.ireturn, 1, 0, 0, 0, 0)]
theorem sgX12_evening_23_ok : qsg cX12_evening 12 3 false 23 sgX12_evening_23 = true := by decide +kernel
def sgX12_isSpan_0 : List qEl := [(.aload_n 0, 1, 0, 0, 0, 0), (.iload_n 1, 1, 0, 0, 0, 0), (.iconst 1, 1, 0, 0, 1, 0), (.bipush 40, 2, 0, 0, 40, 0), (.invokestatic 324, 3, 0, 3, 0, 0), (.ifCond .eq 11, 3, 19, 0, 0, 0), (.iload_n 2, 1, 0, 0, 0, 0), (.ifCond .eq 7, 3, 19, 0, 0, 0), (.iconst 1, 1, 0, 0, 1, 0), (.goto 4, 3, 20, 0, 0, 0)]
theorem sgX12_isSpan_0_ok : qsg cX12_isSpan 12 3 false 0 sgX12_isSpan_0 = true := by decide +kernel
def sgX12_isSpan_19 : List qEl := [(.iconst 0, 1, 0, 0, 0, 0)]
theorem sgX12_isSpan_19_ok : qsg cX12_isSpan 12 3 false 19 sgX12_isSpan_19 = true := by decide +kernel
def sgX12_isSpan_20 : List qEl := [(.iconst 1, 1, 0, 0, 1, 0), (.iconst 1, 1, 0, 0, 1, 0), (.invokevirtual 247, 3, 0, 3, 0, 0), (.ireturn, 1, 0, 0, 0, 0)]
theorem sgX12_isSpan_20_ok : qsg cX12_isSpan 12 3 false 20 sgX12_isSpan_20 = true := by decide +kernel
def sgX12_span_0 : List qEl := [(.aload_n 0, 1, 0, 0, 0, 0), (.iconst 0, 1, 0, 0, 0, 0), (.putfield 3, 3, 12, 0, 0, 0), (.aload_n 0, 1, 0, 0, 0, 0), (.iload_n 2, 1, 0, 0, 0, 0), (.iload_n 3, 1, 0, 0, 0, 0), (.iconst 0, 1, 0, 0, 0, 0), (.iconst 3, 1, 0, 0, 3, 0), (.invokestatic 324, 3, 0, 3, 0, 0), (.ifCond .eq 22, 3, 35, 0, 0, 0), (.iload 4, 2, 0, 0, 0, 0), (.iconst 0, 1, 0, 0, 0, 0), (.aload_n 0, 1, 0, 0, 0, 0), (.getfield 171, 3, 12, 19, 0, 0), (.iconst 1, 1, 0, 0, 1, 0), (.isub, 1, 0, 0, 0, 0), (.invokestatic 324, 3, 0, 3, 0, 0), (.ifCond .eq 7, 3, 35, 0, 0, 0), (.iconst 1, 1, 0, 0, 1, 0), (.goto 4, 3, 36, 0, 0, 0)]
theorem sgX12_span_0_ok : qsg cX12_span 12 10 false 0 sgX12_span_0 = true := by decide +kernel
def sgX12_span_35 : List qEl := [(.iconst 0, 1, 0, 0, 0, 0)]
theorem sgX12_span_35_ok : qsg cX12_span 12 10 false 35 sgX12_span_35 = true := by decide +kernel
def sgX12_span_36 : List qEl := [(.invokevirtual 520, 3, 0, 2, 0, 0), (.ifCond .ne 5, 3, 44, 0, 0, 0), (.iconst 0, 1, 0, 0, 0, 0), (.ireturn, 1, 0, 0, 0, 0)]
theorem sgX12_span_36_ok : qsg cX12_span 12 10 false 36 sgX12_span_36 = true := by decide +kernel
def sgX12_span_44 : List qEl := [(.iconst (-1), 1, 0, 0, (-1), 0), (.istore 5, 2, 0, 0, 0, 0), (.iconst 0, 1, 0, 0, 0, 0), (.istore 6, 2, 0, 0, 0, 0), (.iconst 0, 1, 0, 0, 0, 0), (.istore 7, 2, 0, 0, 0, 0), (.iconst 0, 1, 0, 0, 0, 0), (.istore 8, 2, 0, 0, 0, 0), (.iconst 0, 1, 0, 0, 0, 0), (.istore 9, 2, 0, 0, 0, 0)]
theorem sgX12_span_44_ok : qsg cX12_span 12 10 false 44 sgX12_span_44 = true := by decide +kernel
def sgX12_span_59 : List qEl := [(.iload 9, 2, 0, 0, 0, 0), (.iload_n 2, 1, 0, 0, 0, 0), (.if_icmp .ge 98, 3, 160, 0, 0, 0), (.aload_n 0, 1, 0, 0, 0, 0), (.iload_n 1, 1, 0, 0, 0, 0), (.iload 9, 2, 0, 0, 0, 0), (.iadd, 1, 0, 0, 0, 0), (.invokevirtual 517, 3, 0, 1, 0, 0), (.iload 5, 2, 0, 0, 0, 0), (.iconst (-1), 1, 0, 0, (-1), 0), (.if_icmp .eq 14, 3, 90, 0, 0, 0), (.aload_n 0, 1, 0, 0, 0, 0), (.getfield 95, 3, 12, 58, 0, 0), (.iconst 0, 1, 0, 0, 0, 0), (.iaload, 1, 0, 0, 0, 0), (.iload 5, 2, 0, 0, 0, 0), (.if_icmp .ge 12, 3, 99, 0, 0, 0)]
theorem sgX12_span_59_ok : qsg cX12_span 12 10 false 59 sgX12_span_59 = true := by decide +kernel
def sgX12_span_90 : List qEl := [(.aload_n 0, 1, 0, 0, 0, 0), (.getfield 95, 3, 12, 58, 0, 0), (.iconst 0, 1, 0, 0, 0, 0), (.iaload, 1, 0, 0, 0, 0), (.goto 5, 3, 101, 0, 0, 0)]
theorem sgX12_span_90_ok : qsg cX12_span 12 10 false 90 sgX12_span_90 = true := by decide +kernel
def sgX12_span_99 : List qEl := [(.iload 5, 2, 0, 0, 0, 0)]
theorem sgX12_span_99_ok : qsg cX12_span 12 10 false 99 sgX12_span_99 = true := by decide +kernel
def sgX12_span_101 : List qEl := [(.istore 5, 2, 0, 0, 0, 0), (.aload_n 0, 1, 0, 0, 0, 0), (.getfield 95, 3, 12, 58, 0, 0), (.iconst 0, 1, 0, 0, 0, 0), (.iaload, 1, 0, 0, 0, 0), (.iload 6, 2, 0, 0, 0, 0), (.if_icmp .le 12, 3, 123, 0, 0, 0), (.aload_n 0, 1, 0, 0, 0, 0), (.getfield 95, 3, 12, 58, 0, 0), (.iconst 0, 1, 0, 0, 0, 0), (.iaload, 1, 0, 0, 0, 0), (.goto 5, 3, 125, 0, 0, 0)]
theorem sgX12_span_101_ok : qsg cX12_span 12 10 false 101 sgX12_span_101 = true := by decide +kernel
def sgX12_span_123 : List qEl := [(.iload 6, 2, 0, 0, 0, 0)]
theorem sgX12_span_123_ok : qsg cX12_span 12 10 false 123 sgX12_span_123 = true := by decide +kernel
def sgX12_span_125 : List qEl := [(.istore 6, 2, 0, 0, 0, 0), (.iload 7, 2, 0, 0, 0, 0), (.aload_n 0, 1, 0, 0, 0, 0), (.getfield 95, 3, 12, 58, 0, 0), (.iconst 0, 1, 0, 0, 0, 0), (.iaload, 1, 0, 0, 0, 0), (.iadd, 1, 0, 0, 0, 0), (.istore 7, 2, 0, 0, 0, 0), (.iload 8, 2, 0, 0, 0, 0), (.aload_n 0, 1, 0, 0, 0, 0), (.getfield 95, 3, 12, 58, 0, 0), (.iconst 3, 1, 0, 0, 3, 0), (.iaload, 1, 0, 0, 0, 0), (.iload 4, 2, 0, 0, 0, 0), (.ishr, 1, 0, 0, 0, 0), (.iconst 1, 1, 0, 0, 1, 0), (.iand, 1, 0, 0, 0, 0), (.iadd, 1, 0, 0, 0, 0), (.istore 8, 2, 0, 0, 0, 0), (.iinc 9 1, 3, 0, 0, 1, 0), (.goto (-98), 3, 59, 0, 0, 0)]
theorem sgX12_span_125_ok : qsg cX12_span 12 10 false 125 sgX12_span_125 = true := by decide +kernel
def sgX12_span_160 : List qEl := [(.iload_n 3, 1, 0, 0, 0, 0), (.ifCond .ne 8, 3, 169, 0, 0, 0), (.iload 5, 2, 0, 0, 0, 0), (.goto 25, 3, 191, 0, 0, 0)]
theorem sgX12_span_160_ok : qsg cX12_span 12 10 false 160 sgX12_span_160 = true := by decide +kernel
def sgX12_span_169 : List qEl := [(.iload_n 3, 1, 0, 0, 0, 0), (.iconst 1, 1, 0, 0, 1, 0), (.if_icmp .ne 8, 3, 179, 0, 0, 0), (.iload 6, 2, 0, 0, 0, 0), (.goto 15, 3, 191, 0, 0, 0)]
theorem sgX12_span_169_ok : qsg cX12_span 12 10 false 169 sgX12_span_169 = true := by decide +kernel
def sgX12_span_179 : List qEl := [(.iload_n 3, 1, 0, 0, 0, 0), (.iconst 2, 1, 0, 0, 2, 0), (.if_icmp .ne 8, 3, 189, 0, 0, 0), (.iload 7, 2, 0, 0, 0, 0), (.goto 5, 3, 191, 0, 0, 0)]
theorem sgX12_span_179_ok : qsg cX12_span 12 10 false 179 sgX12_span_179 = true := by decide +kernel
def sgX12_span_189 : List qEl := [(.iload 8, 2, 0, 0, 0, 0)]
theorem sgX12_span_189_ok : qsg cX12_span 12 10 false 189 sgX12_span_189 = true := by decide +kernel
def sgX12_span_191 : List qEl := [(.ireturn, 1, 0, 0, 0, 0)]
theorem sgX12_span_191_ok : qsg cX12_span 12 10 false 191 sgX12_span_191 = true := by decide +kernel
def sgX12_finest_0 : List qEl := [(.aload_n 0, 1, 0, 0, 0, 0), (.iconst 0, 1, 0, 0, 0, 0), (.putfield 3, 3, 12, 0, 0, 0), (.aload_n 0, 1, 0, 0, 0, 0), (.iload_n 2, 1, 0, 0, 0, 0), (.iconst 1, 1, 0, 0, 1, 0), (.invokevirtual 520, 3, 0, 2, 0, 0), (.ifCond .ne 5, 3, 16, 0, 0, 0), (.iconst 0, 1, 0, 0, 0, 0), (.ireturn, 1, 0, 0, 0, 0)]
theorem sgX12_finest_0_ok : qsg cX12_finest 12 6 false 0 sgX12_finest_0 = true := by decide +kernel
def sgX12_finest_16 : List qEl := [(.iload_n 1, 1, 0, 0, 0, 0), (.istore_n 3, 1, 0, 0, 0, 0), (.iconst (-1), 1, 0, 0, (-1), 0), (.istore 4, 2, 0, 0, 0, 0), (.iconst 0, 1, 0, 0, 0, 0), (.istore 5, 2, 0, 0, 0, 0)]
theorem sgX12_finest_16_ok : qsg cX12_finest 12 6 false 16 sgX12_finest_16 = true := by decide +kernel
def sgX12_finest_24 : List qEl := [(.iload 5, 2, 0, 0, 0, 0), (.iload_n 2, 1, 0, 0, 0, 0), (.if_icmp .ge 44, 3, 71, 0, 0, 0), (.aload_n 0, 1, 0, 0, 0, 0), (.iload_n 1, 1, 0, 0, 0, 0), (.iload 5, 2, 0, 0, 0, 0), (.iadd, 1, 0, 0, 0, 0), (.invokevirtual 517, 3, 0, 1, 0, 0), (.aload_n 0, 1, 0, 0, 0, 0), (.getfield 95, 3, 12, 58, 0, 0), (.iconst 1, 1, 0, 0, 1, 0), (.iaload, 1, 0, 0, 0, 0), (.iload 4, 2, 0, 0, 0, 0), (.if_icmp .gt 6, 3, 52, 0, 0, 0), (.goto 16, 3, 65, 0, 0, 0)]
theorem sgX12_finest_24_ok : qsg cX12_finest 12 6 false 24 sgX12_finest_24 = true := by decide +kernel
def sgX12_finest_52 : List qEl := [(.aload_n 0, 1, 0, 0, 0, 0), (.getfield 95, 3, 12, 58, 0, 0), (.iconst 1, 1, 0, 0, 1, 0), (.iaload, 1, 0, 0, 0, 0), (.istore 4, 2, 0, 0, 0, 0), (.iload_n 1, 1, 0, 0, 0, 0), (.iload 5, 2, 0, 0, 0, 0), (.iadd, 1, 0, 0, 0, 0), (.istore_n 3, 1, 0, 0, 0, 0)]
theorem sgX12_finest_52_ok : qsg cX12_finest 12 6 false 52 sgX12_finest_52 = true := by decide +kernel
def sgX12_finest_65 : List qEl := [(.iinc 5 1, 3, 0, 0, 1, 0), (.goto (-44), 3, 24, 0, 0, 0)]
theorem sgX12_finest_65_ok : qsg cX12_finest 12 6 false 65 sgX12_finest_65 = true := by decide +kernel
def sgX12_finest_71 : List qEl := [(.iload_n 3, 1, 0, 0, 0, 0), (.ireturn, 1, 0, 0, 0, 0)]
theorem sgX12_finest_71_ok : qsg cX12_finest 12 6 false 71 sgX12_finest_71 = true := by decide +kernel
def sgX12_keepsIn_0 : List qEl := [(.iconst 0, 1, 0, 0, 0, 0), (.istore_n 3, 1, 0, 0, 0, 0)]
theorem sgX12_keepsIn_0_ok : qsg cX12_keepsIn 12 4 false 0 sgX12_keepsIn_0 = true := by decide +kernel
def sgX12_keepsIn_2 : List qEl := [(.iload_n 3, 1, 0, 0, 0, 0), (.bipush 100, 2, 0, 0, 100, 0), (.if_icmp .ge 20, 3, 25, 0, 0, 0), (.aload_n 1, 1, 0, 0, 0, 0), (.iload_n 2, 1, 0, 0, 0, 0), (.iload_n 3, 1, 0, 0, 0, 0), (.iadd, 1, 0, 0, 0, 0), (.aload_n 0, 1, 0, 0, 0, 0), (.getfield 26, 3, 12, 11, 0, 0), (.iload_n 3, 1, 0, 0, 0, 0), (.iaload, 1, 0, 0, 0, 0), (.iastore, 1, 0, 0, 0, 0), (.iinc 3 1, 3, 0, 0, 1, 0), (.goto (-20), 3, 2, 0, 0, 0)]
theorem sgX12_keepsIn_2_ok : qsg cX12_keepsIn 12 4 false 2 sgX12_keepsIn_2 = true := by decide +kernel
def sgX12_keepsIn_25 : List qEl := [(.iconst 0, 1, 0, 0, 0, 0), (.istore_n 3, 1, 0, 0, 0, 0)]
theorem sgX12_keepsIn_25_ok : qsg cX12_keepsIn 12 4 false 25 sgX12_keepsIn_25 = true := by decide +kernel
def sgX12_keepsIn_27 : List qEl := [(.iload_n 3, 1, 0, 0, 0, 0), (.bipush 30, 2, 0, 0, 30, 0), (.if_icmp .ge 23, 3, 53, 0, 0, 0), (.aload_n 1, 1, 0, 0, 0, 0), (.iload_n 2, 1, 0, 0, 0, 0), (.bipush 100, 2, 0, 0, 100, 0), (.iadd, 1, 0, 0, 0, 0), (.iload_n 3, 1, 0, 0, 0, 0), (.iadd, 1, 0, 0, 0, 0), (.aload_n 0, 1, 0, 0, 0, 0), (.getfield 59, 3, 12, 33, 0, 0), (.iload_n 3, 1, 0, 0, 0, 0), (.iaload, 1, 0, 0, 0, 0), (.iastore, 1, 0, 0, 0, 0), (.iinc 3 1, 3, 0, 0, 1, 0), (.goto (-23), 3, 27, 0, 0, 0)]
theorem sgX12_keepsIn_27_ok : qsg cX12_keepsIn 12 4 false 27 sgX12_keepsIn_27 = true := by decide +kernel
def sgX12_keepsIn_53 : List qEl := [(.aload_n 1, 1, 0, 0, 0, 0), (.iload_n 2, 1, 0, 0, 0, 0), (.sipush 132, 3, 0, 0, 132, 0), (.iadd, 1, 0, 0, 0, 0), (.iconst 2, 1, 0, 0, 2, 0), (.isub, 1, 0, 0, 0, 0), (.aload_n 0, 1, 0, 0, 0, 0), (.getfield 190, 3, 12, 36, 0, 0), (.iastore, 1, 0, 0, 0, 0), (.aload_n 1, 1, 0, 0, 0, 0), (.iload_n 2, 1, 0, 0, 0, 0), (.sipush 132, 3, 0, 0, 132, 0), (.iadd, 1, 0, 0, 0, 0), (.iconst 1, 1, 0, 0, 1, 0), (.isub, 1, 0, 0, 0, 0), (.aload_n 0, 1, 0, 0, 0, 0), (.getfield 183, 3, 12, 23, 0, 0), (.iastore, 1, 0, 0, 0, 0), (.return_, 1, 0, 0, 0, 0)]
theorem sgX12_keepsIn_53_ok : qsg cX12_keepsIn 12 4 false 53 sgX12_keepsIn_53 = true := by decide +kernel
def sgX12_takesFrom_0 : List qEl := [(.iconst 0, 1, 0, 0, 0, 0), (.istore_n 3, 1, 0, 0, 0, 0)]
theorem sgX12_takesFrom_0_ok : qsg cX12_takesFrom 12 4 false 0 sgX12_takesFrom_0 = true := by decide +kernel
def sgX12_takesFrom_2 : List qEl := [(.iload_n 3, 1, 0, 0, 0, 0), (.bipush 100, 2, 0, 0, 100, 0), (.if_icmp .ge 20, 3, 25, 0, 0, 0), (.aload_n 0, 1, 0, 0, 0, 0), (.getfield 26, 3, 12, 11, 0, 0), (.iload_n 3, 1, 0, 0, 0, 0), (.aload_n 1, 1, 0, 0, 0, 0), (.iload_n 2, 1, 0, 0, 0, 0), (.iload_n 3, 1, 0, 0, 0, 0), (.iadd, 1, 0, 0, 0, 0), (.iaload, 1, 0, 0, 0, 0), (.iastore, 1, 0, 0, 0, 0), (.iinc 3 1, 3, 0, 0, 1, 0), (.goto (-20), 3, 2, 0, 0, 0)]
theorem sgX12_takesFrom_2_ok : qsg cX12_takesFrom 12 4 false 2 sgX12_takesFrom_2 = true := by decide +kernel
def sgX12_takesFrom_25 : List qEl := [(.iconst 0, 1, 0, 0, 0, 0), (.istore_n 3, 1, 0, 0, 0, 0)]
theorem sgX12_takesFrom_25_ok : qsg cX12_takesFrom 12 4 false 25 sgX12_takesFrom_25 = true := by decide +kernel
def sgX12_takesFrom_27 : List qEl := [(.iload_n 3, 1, 0, 0, 0, 0), (.bipush 30, 2, 0, 0, 30, 0), (.if_icmp .ge 23, 3, 53, 0, 0, 0), (.aload_n 0, 1, 0, 0, 0, 0), (.getfield 59, 3, 12, 33, 0, 0), (.iload_n 3, 1, 0, 0, 0, 0), (.aload_n 1, 1, 0, 0, 0, 0), (.iload_n 2, 1, 0, 0, 0, 0), (.bipush 100, 2, 0, 0, 100, 0), (.iadd, 1, 0, 0, 0, 0), (.iload_n 3, 1, 0, 0, 0, 0), (.iadd, 1, 0, 0, 0, 0), (.iaload, 1, 0, 0, 0, 0), (.iastore, 1, 0, 0, 0, 0), (.iinc 3 1, 3, 0, 0, 1, 0), (.goto (-23), 3, 27, 0, 0, 0)]
theorem sgX12_takesFrom_27_ok : qsg cX12_takesFrom 12 4 false 27 sgX12_takesFrom_27 = true := by decide +kernel
def sgX12_takesFrom_53 : List qEl := [(.aload_n 0, 1, 0, 0, 0, 0), (.aload_n 1, 1, 0, 0, 0, 0), (.iload_n 2, 1, 0, 0, 0, 0), (.sipush 132, 3, 0, 0, 132, 0), (.iadd, 1, 0, 0, 0, 0), (.iconst 2, 1, 0, 0, 2, 0), (.isub, 1, 0, 0, 0, 0), (.iaload, 1, 0, 0, 0, 0), (.putfield 190, 3, 12, 36, 0, 0), (.aload_n 0, 1, 0, 0, 0, 0), (.aload_n 1, 1, 0, 0, 0, 0), (.iload_n 2, 1, 0, 0, 0, 0), (.sipush 132, 3, 0, 0, 132, 0), (.iadd, 1, 0, 0, 0, 0), (.iconst 1, 1, 0, 0, 1, 0), (.isub, 1, 0, 0, 0, 0), (.iaload, 1, 0, 0, 0, 0), (.putfield 183, 3, 12, 23, 0, 0), (.return_, 1, 0, 0, 0, 0)]
theorem sgX12_takesFrom_53_ok : qsg cX12_takesFrom 12 4 false 53 sgX12_takesFrom_53 = true := by decide +kernel
def sgX12_changes_0 : List qEl := [(.aload_n 0, 1, 0, 0, 0, 0), (.getfield 196, 3, 12, 62, 0, 0), (.bipush 20, 2, 0, 0, 20, 0), (.if_icmp .ne 5, 3, 11, 0, 0, 0), (.iconst 0, 1, 0, 0, 0, 0), (.ireturn, 1, 0, 0, 0, 0)]
theorem sgX12_changes_0_ok : qsg cX12_changes 12 1 false 0 sgX12_changes_0 = true := by decide +kernel
def sgX12_changes_11 : List qEl := [(.aload_n 0, 1, 0, 0, 0, 0), (.aload_n 0, 1, 0, 0, 0, 0), (.getfield 98, 3, 12, 61, 0, 0), (.sipush 132, 3, 0, 0, 132, 0), (.aload_n 0, 1, 0, 0, 0, 0), (.getfield 196, 3, 12, 62, 0, 0), (.imul, 1, 0, 0, 0, 0), (.invokevirtual 524, 3, 0, 2, 0, 0), (.aload_n 0, 1, 0, 0, 0, 0), (.dup, 1, 0, 0, 0, 0), (.getfield 196, 3, 12, 62, 0, 0), (.iconst 1, 1, 0, 0, 1, 0), (.iadd, 1, 0, 0, 0, 0), (.putfield 196, 3, 12, 62, 0, 0), (.iconst 1, 1, 0, 0, 1, 0), (.ireturn, 1, 0, 0, 0, 0)]
theorem sgX12_changes_11_ok : qsg cX12_changes 12 1 false 11 sgX12_changes_11 = true := by decide +kernel
def sgX12_mostOf_0 : List qEl := [(.iload_n 0, 1, 0, 0, 0, 0), (.iconst 1, 1, 0, 0, 1, 0), (.if_icmp .ne 9, 3, 11, 0, 0, 0), (.sipush 240, 3, 0, 0, 240, 0), (.goto 37, 3, 45, 0, 0, 0)]
theorem sgX12_mostOf_0_ok : qsg cX12_mostOf 12 1 false 0 sgX12_mostOf_0 = true := by decide +kernel
def sgX12_mostOf_11 : List qEl := [(.iload_n 0, 1, 0, 0, 0, 0), (.iconst 2, 1, 0, 0, 2, 0), (.if_icmp .ne 8, 3, 21, 0, 0, 0), (.bipush 99, 2, 0, 0, 99, 0), (.goto 27, 3, 45, 0, 0, 0)]
theorem sgX12_mostOf_11_ok : qsg cX12_mostOf 12 1 false 11 sgX12_mostOf_11 = true := by decide +kernel
def sgX12_mostOf_21 : List qEl := [(.iload_n 0, 1, 0, 0, 0, 0), (.bipush 8, 2, 0, 0, 8, 0), (.if_icmp .ge 8, 3, 32, 0, 0, 0), (.bipush 16, 2, 0, 0, 16, 0), (.goto 16, 3, 45, 0, 0, 0)]
theorem sgX12_mostOf_21_ok : qsg cX12_mostOf 12 1 false 21 sgX12_mostOf_21 = true := by decide +kernel
def sgX12_mostOf_32 : List qEl := [(.iload_n 0, 1, 0, 0, 0, 0), (.bipush 8, 2, 0, 0, 8, 0), (.if_icmp .ne 8, 3, 43, 0, 0, 0), (.bipush 20, 2, 0, 0, 20, 0), (.goto 5, 3, 45, 0, 0, 0)]
theorem sgX12_mostOf_32_ok : qsg cX12_mostOf 12 1 false 32 sgX12_mostOf_32 = true := by decide +kernel
def sgX12_mostOf_43 : List qEl := [(.bipush 30, 2, 0, 0, 30, 0)]
theorem sgX12_mostOf_43_ok : qsg cX12_mostOf 12 1 false 43 sgX12_mostOf_43 = true := by decide +kernel
def sgX12_mostOf_45 : List qEl := [(.ireturn, 1, 0, 0, 0, 0)]
theorem sgX12_mostOf_45_ok : qsg cX12_mostOf 12 1 false 45 sgX12_mostOf_45 = true := by decide +kernel
def sgX12_change_0 : List qEl := [(.aload_n 0, 1, 0, 0, 0, 0), (.iconst 0, 1, 0, 0, 0, 0), (.putfield 3, 3, 12, 0, 0, 0), (.aload_n 0, 1, 0, 0, 0, 0), (.iload_n 1, 1, 0, 0, 0, 0), (.iconst 1, 1, 0, 0, 1, 0), (.invokevirtual 343, 3, 0, 2, 0, 0), (.ifCond .eq 39, 3, 50, 0, 0, 0), (.aload_n 0, 1, 0, 0, 0, 0), (.iload_n 2, 1, 0, 0, 0, 0), (.iconst 1, 1, 0, 0, 1, 0), (.bipush 9, 2, 0, 0, 9, 0), (.invokestatic 324, 3, 0, 3, 0, 0), (.ifCond .eq 19, 3, 41, 0, 0, 0), (.iload_n 3, 1, 0, 0, 0, 0), (.ifCond .lt 15, 3, 41, 0, 0, 0), (.iload_n 3, 1, 0, 0, 0, 0), (.iload_n 2, 1, 0, 0, 0, 0), (.invokestatic 528, 3, 0, 1, 0, 0), (.if_icmp .gt 7, 3, 41, 0, 0, 0), (.iconst 1, 1, 0, 0, 1, 0), (.goto 4, 3, 42, 0, 0, 0)]
theorem sgX12_change_0_ok : qsg cX12_change 12 5 false 0 sgX12_change_0 = true := by decide +kernel
def sgX12_change_41 : List qEl := [(.iconst 0, 1, 0, 0, 0, 0)]
theorem sgX12_change_41_ok : qsg cX12_change 12 5 false 41 sgX12_change_41 = true := by decide +kernel
def sgX12_change_42 : List qEl := [(.iconst 2, 1, 0, 0, 2, 0), (.iconst 1, 1, 0, 0, 1, 0), (.invokevirtual 247, 3, 0, 3, 0, 0), (.ifCond .ne 5, 3, 52, 0, 0, 0)]
theorem sgX12_change_42_ok : qsg cX12_change 12 5 false 42 sgX12_change_42 = true := by decide +kernel
def sgX12_change_50 : List qEl := [(.iconst 0, 1, 0, 0, 0, 0), (.ireturn, 1, 0, 0, 0, 0)]
theorem sgX12_change_50_ok : qsg cX12_change 12 5 false 50 sgX12_change_50 = true := by decide +kernel
def sgX12_change_52 : List qEl := [(.aload_n 0, 1, 0, 0, 0, 0), (.invokevirtual 531, 3, 0, 0, 0, 0), (.ifCond .ne 5, 3, 61, 0, 0, 0), (.iconst (-1), 1, 0, 0, (-1), 0), (.ireturn, 1, 0, 0, 0, 0)]
theorem sgX12_change_52_ok : qsg cX12_change 12 5 false 52 sgX12_change_52 = true := by decide +kernel
def sgX12_change_61 : List qEl := [(.aload_n 0, 1, 0, 0, 0, 0), (.getfield 26, 3, 12, 11, 0, 0), (.bipush 10, 2, 0, 0, 10, 0), (.iload_n 1, 1, 0, 0, 0, 0), (.imul, 1, 0, 0, 0, 0), (.iload_n 2, 1, 0, 0, 0, 0), (.iadd, 1, 0, 0, 0, 0), (.iaload, 1, 0, 0, 0, 0), (.istore 4, 2, 0, 0, 0, 0), (.aload_n 0, 1, 0, 0, 0, 0), (.getfield 26, 3, 12, 11, 0, 0), (.bipush 10, 2, 0, 0, 10, 0), (.iload_n 1, 1, 0, 0, 0, 0), (.imul, 1, 0, 0, 0, 0), (.iload_n 2, 1, 0, 0, 0, 0), (.iadd, 1, 0, 0, 0, 0), (.iload_n 3, 1, 0, 0, 0, 0), (.iastore, 1, 0, 0, 0, 0), (.iload 4, 2, 0, 0, 0, 0), (.ireturn, 1, 0, 0, 0, 0)]
theorem sgX12_change_61_ok : qsg cX12_change 12 5 false 61 sgX12_change_61 = true := by decide +kernel
def sgX12_sing_0 : List qEl := [(.aload_n 0, 1, 0, 0, 0, 0), (.iconst 0, 1, 0, 0, 0, 0), (.putfield 3, 3, 12, 0, 0, 0), (.aload_n 0, 1, 0, 0, 0, 0), (.iload_n 1, 1, 0, 0, 0, 0), (.iconst 1, 1, 0, 0, 1, 0), (.invokevirtual 353, 3, 0, 2, 0, 0), (.ifCond .eq 35, 3, 46, 0, 0, 0), (.aload_n 0, 1, 0, 0, 0, 0), (.iload_n 2, 1, 0, 0, 0, 0), (.iconst 0, 1, 0, 0, 0, 0), (.iconst 5, 1, 0, 0, 5, 0), (.invokestatic 324, 3, 0, 3, 0, 0), (.ifCond .eq 16, 3, 37, 0, 0, 0), (.iload_n 3, 1, 0, 0, 0, 0), (.iconst 0, 1, 0, 0, 0, 0), (.iconst 2, 1, 0, 0, 2, 0), (.invokestatic 324, 3, 0, 3, 0, 0), (.ifCond .eq 7, 3, 37, 0, 0, 0), (.iconst 1, 1, 0, 0, 1, 0), (.goto 4, 3, 38, 0, 0, 0)]
theorem sgX12_sing_0_ok : qsg cX12_sing 12 4 false 0 sgX12_sing_0 = true := by decide +kernel
def sgX12_sing_37 : List qEl := [(.iconst 0, 1, 0, 0, 0, 0)]
theorem sgX12_sing_37_ok : qsg cX12_sing 12 4 false 37 sgX12_sing_37 = true := by decide +kernel
def sgX12_sing_38 : List qEl := [(.iconst 2, 1, 0, 0, 2, 0), (.iconst 1, 1, 0, 0, 1, 0), (.invokevirtual 247, 3, 0, 3, 0, 0), (.ifCond .ne 5, 3, 48, 0, 0, 0)]
theorem sgX12_sing_38_ok : qsg cX12_sing 12 4 false 38 sgX12_sing_38 = true := by decide +kernel
def sgX12_sing_46 : List qEl := [(.iconst 0, 1, 0, 0, 0, 0), (.ireturn, 1, 0, 0, 0, 0)]
theorem sgX12_sing_46_ok : qsg cX12_sing 12 4 false 46 sgX12_sing_46 = true := by decide +kernel
def sgX12_sing_48 : List qEl := [(.aload_n 0, 1, 0, 0, 0, 0), (.invokevirtual 531, 3, 0, 0, 0, 0), (.ifCond .ne 5, 3, 57, 0, 0, 0), (.iconst (-1), 1, 0, 0, (-1), 0), (.ireturn, 1, 0, 0, 0, 0)]
theorem sgX12_sing_48_ok : qsg cX12_sing 12 4 false 48 sgX12_sing_48 = true := by decide +kernel
def sgX12_sing_57 : List qEl := [(.aload_n 0, 1, 0, 0, 0, 0), (.getfield 59, 3, 12, 33, 0, 0), (.iconst 3, 1, 0, 0, 3, 0), (.iload_n 1, 1, 0, 0, 0, 0), (.imul, 1, 0, 0, 0, 0), (.iconst 1, 1, 0, 0, 1, 0), (.iadd, 1, 0, 0, 0, 0), (.iload_n 2, 1, 0, 0, 0, 0), (.iastore, 1, 0, 0, 0, 0), (.aload_n 0, 1, 0, 0, 0, 0), (.getfield 59, 3, 12, 33, 0, 0), (.iconst 3, 1, 0, 0, 3, 0), (.iload_n 1, 1, 0, 0, 0, 0), (.imul, 1, 0, 0, 0, 0), (.iconst 2, 1, 0, 0, 2, 0), (.iadd, 1, 0, 0, 0, 0), (.iload_n 3, 1, 0, 0, 0, 0), (.iastore, 1, 0, 0, 0, 0), (.iconst 1, 1, 0, 0, 1, 0), (.ireturn, 1, 0, 0, 0, 0)]
theorem sgX12_sing_57_ok : qsg cX12_sing 12 4 false 57 sgX12_sing_57 = true := by decide +kernel
def sgX12_swap_0 : List qEl := [(.aload_n 0, 1, 0, 0, 0, 0), (.iconst 0, 1, 0, 0, 0, 0), (.putfield 3, 3, 12, 0, 0, 0), (.aload_n 0, 1, 0, 0, 0, 0), (.iload_n 1, 1, 0, 0, 0, 0), (.iconst 1, 1, 0, 0, 1, 0), (.invokevirtual 353, 3, 0, 2, 0, 0), (.ifCond .eq 12, 3, 23, 0, 0, 0), (.aload_n 0, 1, 0, 0, 0, 0), (.iload_n 2, 1, 0, 0, 0, 0), (.iconst 1, 1, 0, 0, 1, 0), (.invokevirtual 353, 3, 0, 2, 0, 0), (.ifCond .ne 5, 3, 25, 0, 0, 0)]
theorem sgX12_swap_0_ok : qsg cX12_swap 12 5 false 0 sgX12_swap_0 = true := by decide +kernel
def sgX12_swap_23 : List qEl := [(.iconst 0, 1, 0, 0, 0, 0), (.ireturn, 1, 0, 0, 0, 0)]
theorem sgX12_swap_23_ok : qsg cX12_swap 12 5 false 23 sgX12_swap_23 = true := by decide +kernel
def sgX12_swap_25 : List qEl := [(.iload_n 1, 1, 0, 0, 0, 0), (.iload_n 2, 1, 0, 0, 0, 0), (.if_icmp .ne 5, 3, 32, 0, 0, 0), (.iconst 0, 1, 0, 0, 0, 0), (.ireturn, 1, 0, 0, 0, 0)]
theorem sgX12_swap_25_ok : qsg cX12_swap 12 5 false 25 sgX12_swap_25 = true := by decide +kernel
def sgX12_swap_32 : List qEl := [(.aload_n 0, 1, 0, 0, 0, 0), (.invokevirtual 531, 3, 0, 0, 0, 0), (.ifCond .ne 5, 3, 41, 0, 0, 0), (.iconst (-1), 1, 0, 0, (-1), 0), (.ireturn, 1, 0, 0, 0, 0)]
theorem sgX12_swap_32_ok : qsg cX12_swap 12 5 false 32 sgX12_swap_32 = true := by decide +kernel
def sgX12_swap_41 : List qEl := [(.iconst 0, 1, 0, 0, 0, 0), (.istore_n 3, 1, 0, 0, 0, 0)]
theorem sgX12_swap_41_ok : qsg cX12_swap 12 5 false 41 sgX12_swap_41 = true := by decide +kernel
def sgX12_swap_43 : List qEl := [(.iload_n 3, 1, 0, 0, 0, 0), (.iconst 3, 1, 0, 0, 3, 0), (.if_icmp .ge 53, 3, 98, 0, 0, 0), (.aload_n 0, 1, 0, 0, 0, 0), (.getfield 59, 3, 12, 33, 0, 0), (.iconst 3, 1, 0, 0, 3, 0), (.iload_n 1, 1, 0, 0, 0, 0), (.imul, 1, 0, 0, 0, 0), (.iload_n 3, 1, 0, 0, 0, 0), (.iadd, 1, 0, 0, 0, 0), (.iaload, 1, 0, 0, 0, 0), (.istore 4, 2, 0, 0, 0, 0), (.aload_n 0, 1, 0, 0, 0, 0), (.getfield 59, 3, 12, 33, 0, 0), (.iconst 3, 1, 0, 0, 3, 0), (.iload_n 1, 1, 0, 0, 0, 0), (.imul, 1, 0, 0, 0, 0), (.iload_n 3, 1, 0, 0, 0, 0), (.iadd, 1, 0, 0, 0, 0), (.aload_n 0, 1, 0, 0, 0, 0), (.getfield 59, 3, 12, 33, 0, 0), (.iconst 3, 1, 0, 0, 3, 0), (.iload_n 2, 1, 0, 0, 0, 0), (.imul, 1, 0, 0, 0, 0), (.iload_n 3, 1, 0, 0, 0, 0), (.iadd, 1, 0, 0, 0, 0), (.iaload, 1, 0, 0, 0, 0), (.iastore, 1, 0, 0, 0, 0), (.aload_n 0, 1, 0, 0, 0, 0), (.getfield 59, 3, 12, 33, 0, 0), (.iconst 3, 1, 0, 0, 3, 0), (.iload_n 2, 1, 0, 0, 0, 0), (.imul, 1, 0, 0, 0, 0), (.iload_n 3, 1, 0, 0, 0, 0), (.iadd, 1, 0, 0, 0, 0), (.iload 4, 2, 0, 0, 0, 0), (.iastore, 1, 0, 0, 0, 0), (.iinc 3 1, 3, 0, 0, 1, 0), (.goto (-52), 3, 43, 0, 0, 0)]
theorem sgX12_swap_43_ok : qsg cX12_swap 12 5 false 43 sgX12_swap_43 = true := by decide +kernel
def sgX12_swap_98 : List qEl := [(.iconst 1, 1, 0, 0, 1, 0), (.ireturn, 1, 0, 0, 0, 0)]
theorem sgX12_swap_98_ok : qsg cX12_swap 12 5 false 98 sgX12_swap_98 = true := by decide +kernel
def sgX12_skip_0 : List qEl := [(.aload_n 0, 1, 0, 0, 0, 0), (.iconst 0, 1, 0, 0, 0, 0), (.putfield 3, 3, 12, 0, 0, 0), (.aload_n 0, 1, 0, 0, 0, 0), (.iload_n 1, 1, 0, 0, 0, 0), (.iconst 1, 1, 0, 0, 1, 0), (.invokevirtual 353, 3, 0, 2, 0, 0), (.ifCond .ne 5, 3, 16, 0, 0, 0), (.iconst 0, 1, 0, 0, 0, 0), (.ireturn, 1, 0, 0, 0, 0)]
theorem sgX12_skip_0_ok : qsg cX12_skip 12 3 false 0 sgX12_skip_0 = true := by decide +kernel
def sgX12_skip_16 : List qEl := [(.aload_n 0, 1, 0, 0, 0, 0), (.invokevirtual 531, 3, 0, 0, 0, 0), (.ifCond .ne 5, 3, 25, 0, 0, 0), (.iconst (-1), 1, 0, 0, (-1), 0), (.ireturn, 1, 0, 0, 0, 0)]
theorem sgX12_skip_16_ok : qsg cX12_skip 12 3 false 16 sgX12_skip_16 = true := by decide +kernel
def sgX12_skip_25 : List qEl := [(.aload_n 0, 1, 0, 0, 0, 0), (.dup, 1, 0, 0, 0, 0), (.getfield 190, 3, 12, 36, 0, 0), (.iconst 1, 1, 0, 0, 1, 0), (.isub, 1, 0, 0, 0, 0), (.putfield 190, 3, 12, 36, 0, 0), (.iconst 3, 1, 0, 0, 3, 0), (.iload_n 1, 1, 0, 0, 0, 0), (.imul, 1, 0, 0, 0, 0), (.istore_n 2, 1, 0, 0, 0, 0)]
theorem sgX12_skip_25_ok : qsg cX12_skip 12 3 false 25 sgX12_skip_25 = true := by decide +kernel
def sgX12_skip_39 : List qEl := [(.iload_n 2, 1, 0, 0, 0, 0), (.iconst 3, 1, 0, 0, 3, 0), (.aload_n 0, 1, 0, 0, 0, 0), (.getfield 190, 3, 12, 36, 0, 0), (.imul, 1, 0, 0, 0, 0), (.if_icmp .ge 23, 3, 69, 0, 0, 0), (.aload_n 0, 1, 0, 0, 0, 0), (.getfield 59, 3, 12, 33, 0, 0), (.iload_n 2, 1, 0, 0, 0, 0), (.aload_n 0, 1, 0, 0, 0, 0), (.getfield 59, 3, 12, 33, 0, 0), (.iload_n 2, 1, 0, 0, 0, 0), (.iconst 3, 1, 0, 0, 3, 0), (.iadd, 1, 0, 0, 0, 0), (.iaload, 1, 0, 0, 0, 0), (.iastore, 1, 0, 0, 0, 0), (.iinc 2 1, 3, 0, 0, 1, 0), (.goto (-27), 3, 39, 0, 0, 0)]
theorem sgX12_skip_39_ok : qsg cX12_skip 12 3 false 39 sgX12_skip_39 = true := by decide +kernel
def sgX12_skip_69 : List qEl := [(.aload_n 0, 1, 0, 0, 0, 0), (.getfield 190, 3, 12, 36, 0, 0), (.ireturn, 1, 0, 0, 0, 0)]
theorem sgX12_skip_69_ok : qsg cX12_skip 12 3 false 69 sgX12_skip_69 = true := by decide +kernel
def sgX12_until_0 : List qEl := [(.aload_n 0, 1, 0, 0, 0, 0), (.iconst 0, 1, 0, 0, 0, 0), (.putfield 3, 3, 12, 0, 0, 0), (.aload_n 0, 1, 0, 0, 0, 0), (.iload_n 1, 1, 0, 0, 0, 0), (.invokestatic 463, 3, 0, 1, 0, 0), (.iconst 1, 1, 0, 0, 1, 0), (.iconst 1, 1, 0, 0, 1, 0), (.invokevirtual 247, 3, 0, 3, 0, 0), (.ifCond .ne 5, 3, 20, 0, 0, 0), (.iconst 0, 1, 0, 0, 0, 0), (.ireturn, 1, 0, 0, 0, 0)]
theorem sgX12_until_0_ok : qsg cX12_until 12 3 false 0 sgX12_until_0 = true := by decide +kernel
def sgX12_until_20 : List qEl := [(.aload_n 0, 1, 0, 0, 0, 0), (.invokevirtual 531, 3, 0, 0, 0, 0), (.ifCond .ne 5, 3, 29, 0, 0, 0), (.iconst (-1), 1, 0, 0, (-1), 0), (.ireturn, 1, 0, 0, 0, 0)]
theorem sgX12_until_20_ok : qsg cX12_until 12 3 false 20 sgX12_until_20 = true := by decide +kernel
def sgX12_until_29 : List qEl := [(.aload_n 0, 1, 0, 0, 0, 0), (.getfield 183, 3, 12, 23, 0, 0), (.istore_n 2, 1, 0, 0, 0, 0), (.aload_n 0, 1, 0, 0, 0, 0), (.iload_n 1, 1, 0, 0, 0, 0), (.putfield 183, 3, 12, 23, 0, 0), (.iload_n 2, 1, 0, 0, 0, 0), (.ireturn, 1, 0, 0, 0, 0)]
theorem sgX12_until_29_ok : qsg cX12_until 12 3 false 29 sgX12_until_29 = true := by decide +kernel
def sgX12_undo_0 : List qEl := [(.aload_n 0, 1, 0, 0, 0, 0), (.iconst 0, 1, 0, 0, 0, 0), (.putfield 3, 3, 12, 0, 0, 0), (.aload_n 0, 1, 0, 0, 0, 0), (.getfield 196, 3, 12, 62, 0, 0), (.ifCond .ne 5, 3, 14, 0, 0, 0), (.iconst (-1), 1, 0, 0, (-1), 0), (.ireturn, 1, 0, 0, 0, 0)]
theorem sgX12_undo_0_ok : qsg cX12_undo 12 1 false 0 sgX12_undo_0 = true := by decide +kernel
def sgX12_undo_14 : List qEl := [(.aload_n 0, 1, 0, 0, 0, 0), (.dup, 1, 0, 0, 0, 0), (.getfield 196, 3, 12, 62, 0, 0), (.iconst 1, 1, 0, 0, 1, 0), (.isub, 1, 0, 0, 0, 0), (.putfield 196, 3, 12, 62, 0, 0), (.aload_n 0, 1, 0, 0, 0, 0), (.aload_n 0, 1, 0, 0, 0, 0), (.getfield 98, 3, 12, 61, 0, 0), (.sipush 132, 3, 0, 0, 132, 0), (.aload_n 0, 1, 0, 0, 0, 0), (.getfield 196, 3, 12, 62, 0, 0), (.imul, 1, 0, 0, 0, 0), (.invokevirtual 533, 3, 0, 2, 0, 0), (.aload_n 0, 1, 0, 0, 0, 0), (.getfield 196, 3, 12, 62, 0, 0), (.ireturn, 1, 0, 0, 0, 0)]
theorem sgX12_undo_14_ok : qsg cX12_undo 12 1 false 14 sgX12_undo_14 = true := by decide +kernel
def sgX12_image_0 : List qEl := [(.aload_n 0, 1, 0, 0, 0, 0), (.iconst 0, 1, 0, 0, 0, 0), (.putfield 3, 3, 12, 0, 0, 0), (.aload_n 0, 1, 0, 0, 0, 0), (.getfield 199, 3, 12, 64, 0, 0), (.iconst 3, 1, 0, 0, 3, 0), (.if_icmp .ne 5, 3, 15, 0, 0, 0), (.iconst (-1), 1, 0, 0, (-1), 0), (.ireturn, 1, 0, 0, 0, 0)]
theorem sgX12_image_0_ok : qsg cX12_image 12 3 false 0 sgX12_image_0 = true := by decide +kernel
def sgX12_image_15 : List qEl := [(.sipush 2773, 3, 0, 0, 2773, 0), (.aload_n 0, 1, 0, 0, 0, 0), (.getfield 199, 3, 12, 64, 0, 0), (.imul, 1, 0, 0, 0, 0), (.istore_n 1, 1, 0, 0, 0, 0), (.aload_n 0, 1, 0, 0, 0, 0), (.aload_n 0, 1, 0, 0, 0, 0), (.getfield 101, 3, 12, 63, 0, 0), (.iload_n 1, 1, 0, 0, 0, 0), (.invokevirtual 524, 3, 0, 2, 0, 0), (.aload_n 0, 1, 0, 0, 0, 0), (.getfield 101, 3, 12, 63, 0, 0), (.iload_n 1, 1, 0, 0, 0, 0), (.sipush 132, 3, 0, 0, 132, 0), (.iadd, 1, 0, 0, 0, 0), (.aload_n 0, 1, 0, 0, 0, 0), (.getfield 196, 3, 12, 62, 0, 0), (.iastore, 1, 0, 0, 0, 0), (.iconst 0, 1, 0, 0, 0, 0), (.istore_n 2, 1, 0, 0, 0, 0)]
theorem sgX12_image_15_ok : qsg cX12_image 12 3 false 15 sgX12_image_15 = true := by decide +kernel
def sgX12_image_49 : List qEl := [(.iload_n 2, 1, 0, 0, 0, 0), (.sipush 132, 3, 0, 0, 132, 0), (.aload_n 0, 1, 0, 0, 0, 0), (.getfield 196, 3, 12, 62, 0, 0), (.imul, 1, 0, 0, 0, 0), (.if_icmp .ge 29, 3, 87, 0, 0, 0), (.aload_n 0, 1, 0, 0, 0, 0), (.getfield 101, 3, 12, 63, 0, 0), (.iload_n 1, 1, 0, 0, 0, 0), (.sipush 132, 3, 0, 0, 132, 0), (.iadd, 1, 0, 0, 0, 0), (.iconst 1, 1, 0, 0, 1, 0), (.iadd, 1, 0, 0, 0, 0), (.iload_n 2, 1, 0, 0, 0, 0), (.iadd, 1, 0, 0, 0, 0), (.aload_n 0, 1, 0, 0, 0, 0), (.getfield 98, 3, 12, 61, 0, 0), (.iload_n 2, 1, 0, 0, 0, 0), (.iaload, 1, 0, 0, 0, 0), (.iastore, 1, 0, 0, 0, 0), (.iinc 2 1, 3, 0, 0, 1, 0), (.goto (-35), 3, 49, 0, 0, 0)]
theorem sgX12_image_49_ok : qsg cX12_image 12 3 false 49 sgX12_image_49 = true := by decide +kernel
def sgX12_image_87 : List qEl := [(.aload_n 0, 1, 0, 0, 0, 0), (.dup, 1, 0, 0, 0, 0), (.getfield 199, 3, 12, 64, 0, 0), (.iconst 1, 1, 0, 0, 1, 0), (.iadd, 1, 0, 0, 0, 0), (.putfield 199, 3, 12, 64, 0, 0), (.aload_n 0, 1, 0, 0, 0, 0), (.getfield 199, 3, 12, 64, 0, 0), (.ireturn, 1, 0, 0, 0, 0)]
theorem sgX12_image_87_ok : qsg cX12_image 12 3 false 87 sgX12_image_87 = true := by decide +kernel
def sgX12_restore_0 : List qEl := [(.aload_n 0, 1, 0, 0, 0, 0), (.iconst 0, 1, 0, 0, 0, 0), (.putfield 3, 3, 12, 0, 0, 0), (.aload_n 0, 1, 0, 0, 0, 0), (.getfield 199, 3, 12, 64, 0, 0), (.ifCond .ne 5, 3, 14, 0, 0, 0), (.iconst (-1), 1, 0, 0, (-1), 0), (.ireturn, 1, 0, 0, 0, 0)]
theorem sgX12_restore_0_ok : qsg cX12_restore 12 3 false 0 sgX12_restore_0 = true := by decide +kernel
def sgX12_restore_14 : List qEl := [(.aload_n 0, 1, 0, 0, 0, 0), (.dup, 1, 0, 0, 0, 0), (.getfield 199, 3, 12, 64, 0, 0), (.iconst 1, 1, 0, 0, 1, 0), (.isub, 1, 0, 0, 0, 0), (.putfield 199, 3, 12, 64, 0, 0), (.sipush 2773, 3, 0, 0, 2773, 0), (.aload_n 0, 1, 0, 0, 0, 0), (.getfield 199, 3, 12, 64, 0, 0), (.imul, 1, 0, 0, 0, 0), (.istore_n 1, 1, 0, 0, 0, 0), (.aload_n 0, 1, 0, 0, 0, 0), (.aload_n 0, 1, 0, 0, 0, 0), (.getfield 101, 3, 12, 63, 0, 0), (.iload_n 1, 1, 0, 0, 0, 0), (.invokevirtual 533, 3, 0, 2, 0, 0), (.aload_n 0, 1, 0, 0, 0, 0), (.aload_n 0, 1, 0, 0, 0, 0), (.getfield 101, 3, 12, 63, 0, 0), (.iload_n 1, 1, 0, 0, 0, 0), (.sipush 132, 3, 0, 0, 132, 0), (.iadd, 1, 0, 0, 0, 0), (.iaload, 1, 0, 0, 0, 0), (.putfield 196, 3, 12, 62, 0, 0), (.iconst 0, 1, 0, 0, 0, 0), (.istore_n 2, 1, 0, 0, 0, 0)]
theorem sgX12_restore_14_ok : qsg cX12_restore 12 3 false 14 sgX12_restore_14 = true := by decide +kernel
def sgX12_restore_58 : List qEl := [(.iload_n 2, 1, 0, 0, 0, 0), (.sipush 132, 3, 0, 0, 132, 0), (.aload_n 0, 1, 0, 0, 0, 0), (.getfield 196, 3, 12, 62, 0, 0), (.imul, 1, 0, 0, 0, 0), (.if_icmp .ge 29, 3, 96, 0, 0, 0), (.aload_n 0, 1, 0, 0, 0, 0), (.getfield 98, 3, 12, 61, 0, 0), (.iload_n 2, 1, 0, 0, 0, 0), (.aload_n 0, 1, 0, 0, 0, 0), (.getfield 101, 3, 12, 63, 0, 0), (.iload_n 1, 1, 0, 0, 0, 0), (.sipush 132, 3, 0, 0, 132, 0), (.iadd, 1, 0, 0, 0, 0), (.iconst 1, 1, 0, 0, 1, 0), (.iadd, 1, 0, 0, 0, 0), (.iload_n 2, 1, 0, 0, 0, 0), (.iadd, 1, 0, 0, 0, 0), (.iaload, 1, 0, 0, 0, 0), (.iastore, 1, 0, 0, 0, 0), (.iinc 2 1, 3, 0, 0, 1, 0), (.goto (-35), 3, 58, 0, 0, 0)]
theorem sgX12_restore_58_ok : qsg cX12_restore 12 3 false 58 sgX12_restore_58 = true := by decide +kernel
def sgX12_restore_96 : List qEl := [(.aload_n 0, 1, 0, 0, 0, 0), (.getfield 199, 3, 12, 64, 0, 0), (.ireturn, 1, 0, 0, 0, 0)]
theorem sgX12_restore_96_ok : qsg cX12_restore 12 3 false 96 sgX12_restore_96 = true := by decide +kernel
def sgX12_status_0 : List qEl := [(.aload_n 0, 1, 0, 0, 0, 0), (.iconst 0, 1, 0, 0, 0, 0), (.putfield 3, 3, 12, 0, 0, 0), (.iload_n 1, 1, 0, 0, 0, 0), (.iconst 0, 1, 0, 0, 0, 0), (.iconst 2, 1, 0, 0, 2, 0), (.invokestatic 324, 3, 0, 3, 0, 0), (.ifCond .eq 12, 3, 23, 0, 0, 0), (.aload_n 0, 1, 0, 0, 0, 0), (.getfield 7, 3, 12, 1, 0, 0), (.iload_n 1, 1, 0, 0, 0, 0), (.iaload, 1, 0, 0, 0, 0), (.goto 4, 3, 24, 0, 0, 0)]
theorem sgX12_status_0_ok : qsg cX12_status 12 2 false 0 sgX12_status_0 = true := by decide +kernel
def sgX12_status_23 : List qEl := [(.iconst (-1), 1, 0, 0, (-1), 0)]
theorem sgX12_status_23_ok : qsg cX12_status 12 2 false 23 sgX12_status_23 = true := by decide +kernel
def sgX12_status_24 : List qEl := [(.ireturn, 1, 0, 0, 0, 0)]
theorem sgX12_status_24_ok : qsg cX12_status 12 2 false 24 sgX12_status_24 = true := by decide +kernel
def sgX12_count_0 : List qEl := [(.aload_n 0, 1, 0, 0, 0, 0), (.iconst 0, 1, 0, 0, 0, 0), (.putfield 3, 3, 12, 0, 0, 0), (.iload_n 1, 1, 0, 0, 0, 0), (.ifCond .ne 10, 3, 16, 0, 0, 0), (.aload_n 0, 1, 0, 0, 0, 0), (.getfield 199, 3, 12, 64, 0, 0), (.goto 28, 3, 41, 0, 0, 0)]
theorem sgX12_count_0_ok : qsg cX12_count 12 2 false 0 sgX12_count_0 = true := by decide +kernel
def sgX12_count_16 : List qEl := [(.iload_n 1, 1, 0, 0, 0, 0), (.iconst 1, 1, 0, 0, 1, 0), (.if_icmp .ne 10, 3, 28, 0, 0, 0), (.aload_n 0, 1, 0, 0, 0, 0), (.getfield 110, 3, 12, 2, 0, 0), (.goto 16, 3, 41, 0, 0, 0)]
theorem sgX12_count_16_ok : qsg cX12_count 12 2 false 16 sgX12_count_16 = true := by decide +kernel
def sgX12_count_28 : List qEl := [(.iload_n 1, 1, 0, 0, 0, 0), (.iconst 2, 1, 0, 0, 2, 0), (.if_icmp .ne 10, 3, 40, 0, 0, 0), (.aload_n 0, 1, 0, 0, 0, 0), (.getfield 196, 3, 12, 62, 0, 0), (.goto 4, 3, 41, 0, 0, 0)]
theorem sgX12_count_28_ok : qsg cX12_count 12 2 false 28 sgX12_count_28 = true := by decide +kernel
def sgX12_count_40 : List qEl := [(.iconst (-1), 1, 0, 0, (-1), 0)]
theorem sgX12_count_40_ok : qsg cX12_count 12 2 false 40 sgX12_count_40 = true := by decide +kernel
def sgX12_count_41 : List qEl := [(.ireturn, 1, 0, 0, 0, 0)]
theorem sgX12_count_41_ok : qsg cX12_count 12 2 false 41 sgX12_count_41 = true := by decide +kernel
end QSG
