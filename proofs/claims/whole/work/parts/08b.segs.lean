section QSGR
def srJ0_length_8abf5_0 : List qEl := [(.aload_n 0, 1, 0, 0, 0, 0), (.getfield 9, 3, 99, 0, 0, 0), (.arraylength, 1, 0, 0, 0, 0), (.aload_n 0, 1, 0, 0, 0, 0)]
theorem srJ0_length_8abf5_0_ok : qsg cJ0_length_8abf5 14 1 false 0 srJ0_length_8abf5_0 = true := by decide +kernel
def srJ0_length_8abf5_9 : List qEl := [(.ishr, 1, 0, 0, 0, 0), (.ireturn, 1, 0, 0, 0, 0)]
theorem srJ0_length_8abf5_9_ok : qsg cJ0_length_8abf5 14 1 false 9 srJ0_length_8abf5_9 = true := by decide +kernel
def srJ0_charAt_5068e_0 : List qEl := [(.aload_n 0, 1, 0, 0, 0, 0)]
theorem srJ0_charAt_5068e_0_ok : qsg cJ0_charAt_5068e 14 2 false 0 srJ0_charAt_5068e_0 = true := by decide +kernel
def srJ0_charAt_5068e_4 : List qEl := [(.ifCond .eq 12, 3, 16, 0, 0, 0), (.aload_n 0, 1, 0, 0, 0, 0), (.getfield 9, 3, 99, 0, 0, 0), (.iload_n 1, 1, 0, 0, 0, 0), (.invokestatic 495, 3, 0, 2, 0, 0), (.ireturn, 1, 0, 0, 0, 0)]
theorem srJ0_charAt_5068e_4_ok : qsg cJ0_charAt_5068e 14 2 false 4 srJ0_charAt_5068e_4 = true := by decide +kernel
def srJ0_charAt_5068e_16 : List qEl := [(.aload_n 0, 1, 0, 0, 0, 0), (.getfield 9, 3, 99, 0, 0, 0), (.iload_n 1, 1, 0, 0, 0, 0), (.invokestatic 498, 3, 0, 2, 0, 0), (.ireturn, 1, 0, 0, 0, 0)]
theorem srJ0_charAt_5068e_16_ok : qsg cJ0_charAt_5068e 14 2 false 16 srJ0_charAt_5068e_16 = true := by decide +kernel
def srX8_indexIn_0 : List qEl := [(.iconst 0, 1, 0, 0, 0, 0), (.istore_n 2, 1, 0, 0, 0, 0), (.iconst 0, 1, 0, 0, 0, 0), (.istore_n 3, 1, 0, 0, 0, 0), (.aload_n 1, 1, 0, 0, 0, 0)]
theorem srX8_indexIn_0_ok : qsg cX8_indexIn 8 6 false 0 srX8_indexIn_0 = true := by decide +kernel
def srX8_indexIn_8 : List qEl := [(.istore 4, 2, 0, 0, 0, 0), (.iconst 0, 1, 0, 0, 0, 0), (.istore 5, 2, 0, 0, 0, 0)]
theorem srX8_indexIn_8_ok : qsg cX8_indexIn 8 6 false 8 srX8_indexIn_8 = true := by decide +kernel
def srX8_indexIn_13 : List qEl := [(.iload 5, 2, 0, 0, 0, 0), (.iload 4, 2, 0, 0, 0, 0), (.if_icmp .gt 48, 3, 65, 0, 0, 0), (.iload 5, 2, 0, 0, 0, 0), (.iload 4, 2, 0, 0, 0, 0), (.if_icmp .eq 14, 3, 38, 0, 0, 0), (.aload_n 1, 1, 0, 0, 0, 0), (.iload 5, 2, 0, 0, 0, 0)]
theorem srX8_indexIn_13_ok : qsg cX8_indexIn 8 6 false 13 srX8_indexIn_13 = true := by decide +kernel
def srX8_indexIn_33 : List qEl := [(.bipush 32, 2, 0, 0, 32, 0), (.if_icmp .ne 24, 3, 59, 0, 0, 0)]
theorem srX8_indexIn_33_ok : qsg cX8_indexIn 8 6 false 33 srX8_indexIn_33 = true := by decide +kernel
def srX8_indexIn_38 : List qEl := [(.aload_n 0, 1, 0, 0, 0, 0), (.aload_n 1, 1, 0, 0, 0, 0), (.iload_n 3, 1, 0, 0, 0, 0), (.iload 5, 2, 0, 0, 0, 0), (.invokevirtual 60, 3, 0, 3, 0, 0), (.ifCond .eq 5, 3, 51, 0, 0, 0), (.iload_n 2, 1, 0, 0, 0, 0), (.ireturn, 1, 0, 0, 0, 0)]
theorem srX8_indexIn_38_ok : qsg cX8_indexIn 8 6 false 38 srX8_indexIn_38 = true := by decide +kernel
def srX8_indexIn_51 : List qEl := [(.iinc 2 1, 3, 0, 0, 1, 0), (.iload 5, 2, 0, 0, 0, 0), (.iconst 1, 1, 0, 0, 1, 0), (.iadd, 1, 0, 0, 0, 0), (.istore_n 3, 1, 0, 0, 0, 0)]
theorem srX8_indexIn_51_ok : qsg cX8_indexIn 8 6 false 51 srX8_indexIn_51 = true := by decide +kernel
def srX8_indexIn_59 : List qEl := [(.iinc 5 1, 3, 0, 0, 1, 0), (.goto (-49), 3, 13, 0, 0, 0)]
theorem srX8_indexIn_59_ok : qsg cX8_indexIn 8 6 false 59 srX8_indexIn_59 = true := by decide +kernel
def srX8_indexIn_65 : List qEl := [(.iconst (-1), 1, 0, 0, (-1), 0), (.ireturn, 1, 0, 0, 0, 0)]
theorem srX8_indexIn_65_ok : qsg cX8_indexIn 8 6 false 65 srX8_indexIn_65 = true := by decide +kernel
def srX8_isWord_0 : List qEl := [(.iload_n 3, 1, 0, 0, 0, 0), (.iload_n 2, 1, 0, 0, 0, 0), (.isub, 1, 0, 0, 0, 0), (.aload_n 0, 1, 0, 0, 0, 0), (.getfield 25, 3, 8, 3, 0, 0), (.aload_n 0, 1, 0, 0, 0, 0), (.getfield 43, 3, 8, 4, 0, 0), (.isub, 1, 0, 0, 0, 0), (.if_icmp .eq 5, 3, 17, 0, 0, 0), (.iconst 0, 1, 0, 0, 0, 0), (.ireturn, 1, 0, 0, 0, 0)]
theorem srX8_isWord_0_ok : qsg cX8_isWord 8 5 false 0 srX8_isWord_0 = true := by decide +kernel
def srX8_isWord_17 : List qEl := [(.iload_n 2, 1, 0, 0, 0, 0), (.istore 4, 2, 0, 0, 0, 0)]
theorem srX8_isWord_17_ok : qsg cX8_isWord 8 5 false 17 srX8_isWord_17 = true := by decide +kernel
def srX8_isWord_20 : List qEl := [(.iload 4, 2, 0, 0, 0, 0), (.iload_n 3, 1, 0, 0, 0, 0), (.if_icmp .ge 42, 3, 65, 0, 0, 0), (.iload 4, 2, 0, 0, 0, 0), (.aload_n 1, 1, 0, 0, 0, 0)]
theorem srX8_isWord_20_ok : qsg cX8_isWord 8 5 false 20 srX8_isWord_20 = true := by decide +kernel
def srX8_isWord_32 : List qEl := [(.if_icmp .ge 33, 3, 65, 0, 0, 0), (.aload_n 1, 1, 0, 0, 0, 0), (.iload 4, 2, 0, 0, 0, 0)]
theorem srX8_isWord_32_ok : qsg cX8_isWord 8 5 false 32 srX8_isWord_32 = true := by decide +kernel
def srX8_isWord_41 : List qEl := [(.aload_n 0, 1, 0, 0, 0, 0), (.aload_n 0, 1, 0, 0, 0, 0), (.getfield 43, 3, 8, 4, 0, 0), (.iload 4, 2, 0, 0, 0, 0), (.iadd, 1, 0, 0, 0, 0), (.iload_n 2, 1, 0, 0, 0, 0), (.isub, 1, 0, 0, 0, 0), (.invokevirtual 31, 3, 0, 1, 0, 0), (.if_icmp .eq 5, 3, 59, 0, 0, 0), (.iconst 0, 1, 0, 0, 0, 0), (.ireturn, 1, 0, 0, 0, 0)]
theorem srX8_isWord_41_ok : qsg cX8_isWord 8 5 false 41 srX8_isWord_41 = true := by decide +kernel
def srX8_isWord_59 : List qEl := [(.iinc 4 1, 3, 0, 0, 1, 0), (.goto (-42), 3, 20, 0, 0, 0)]
theorem srX8_isWord_59_ok : qsg cX8_isWord 8 5 false 59 srX8_isWord_59 = true := by decide +kernel
def srX8_isWord_65 : List qEl := [(.iconst 1, 1, 0, 0, 1, 0), (.ireturn, 1, 0, 0, 0, 0)]
theorem srX8_isWord_65_ok : qsg cX8_isWord 8 5 false 65 srX8_isWord_65 = true := by decide +kernel
def srX12_of_0 : List qEl := [(.iconst 0, 1, 0, 0, 0, 0), (.istore_n 1, 1, 0, 0, 0, 0), (.iconst 0, 1, 0, 0, 0, 0), (.istore_n 2, 1, 0, 0, 0, 0)]
theorem srX12_of_0_ok : qsg cX12_of 12 3 false 0 srX12_of_0 = true := by decide +kernel
def srX12_of_4 : List qEl := [(.iload_n 2, 1, 0, 0, 0, 0), (.aload_n 0, 1, 0, 0, 0, 0)]
theorem srX12_of_4_ok : qsg cX12_of 12 3 false 4 srX12_of_4 = true := by decide +kernel
def srX12_of_9 : List qEl := [(.if_icmp .ge 22, 3, 31, 0, 0, 0), (.iload_n 1, 1, 0, 0, 0, 0), (.iconst 5, 1, 0, 0, 5, 0), (.ishl, 1, 0, 0, 0, 0), (.aload_n 0, 1, 0, 0, 0, 0), (.iload_n 2, 1, 0, 0, 0, 0)]
theorem srX12_of_9_ok : qsg cX12_of 12 3 false 9 srX12_of_9 = true := by decide +kernel
def srX12_of_20 : List qEl := [(.bipush 96, 2, 0, 0, 96, 0), (.isub, 1, 0, 0, 0, 0), (.ior, 1, 0, 0, 0, 0), (.istore_n 1, 1, 0, 0, 0, 0), (.iinc 2 1, 3, 0, 0, 1, 0), (.goto (-24), 3, 4, 0, 0, 0)]
theorem srX12_of_20_ok : qsg cX12_of 12 3 false 20 srX12_of_20 = true := by decide +kernel
def srX12_of_31 : List qEl := [(.iload_n 1, 1, 0, 0, 0, 0), (.ireturn, 1, 0, 0, 0, 0)]
theorem srX12_of_31_ok : qsg cX12_of 12 3 false 31 srX12_of_31 = true := by decide +kernel
def srX12_standsHere_0 : List qEl := [(.aload_n 0, 1, 0, 0, 0, 0), (.invokevirtual 125, 3, 0, 0, 0, 0), (.pop, 1, 0, 0, 0, 0), (.iconst 0, 1, 0, 0, 0, 0), (.istore_n 2, 1, 0, 0, 0, 0)]
theorem srX12_standsHere_0_ok : qsg cX12_standsHere 12 3 false 0 srX12_standsHere_0 = true := by decide +kernel
def srX12_standsHere_7 : List qEl := [(.iload_n 2, 1, 0, 0, 0, 0), (.aload_n 1, 1, 0, 0, 0, 0)]
theorem srX12_standsHere_7_ok : qsg cX12_standsHere 12 3 false 7 srX12_standsHere_7 = true := by decide +kernel
def srX12_standsHere_12 : List qEl := [(.if_icmp .ge 43, 3, 55, 0, 0, 0), (.aload_n 0, 1, 0, 0, 0, 0), (.getfield 119, 3, 12, 4, 0, 0), (.iload_n 2, 1, 0, 0, 0, 0), (.iadd, 1, 0, 0, 0, 0), (.aload_n 0, 1, 0, 0, 0, 0), (.getfield 122, 3, 12, 3, 0, 0), (.if_icmp .ge 22, 3, 47, 0, 0, 0), (.aload_n 0, 1, 0, 0, 0, 0), (.getfield 20, 3, 12, 9, 0, 0), (.aload_n 0, 1, 0, 0, 0, 0), (.getfield 119, 3, 12, 4, 0, 0), (.iload_n 2, 1, 0, 0, 0, 0), (.iadd, 1, 0, 0, 0, 0), (.iaload, 1, 0, 0, 0, 0), (.aload_n 1, 1, 0, 0, 0, 0), (.iload_n 2, 1, 0, 0, 0, 0)]
theorem srX12_standsHere_12_ok : qsg cX12_standsHere 12 3 false 12 srX12_standsHere_12 = true := by decide +kernel
def srX12_standsHere_44 : List qEl := [(.if_icmp .eq 5, 3, 49, 0, 0, 0)]
theorem srX12_standsHere_44_ok : qsg cX12_standsHere 12 3 false 44 srX12_standsHere_44 = true := by decide +kernel
def srX12_standsHere_47 : List qEl := [(.iconst 0, 1, 0, 0, 0, 0), (.ireturn, 1, 0, 0, 0, 0)]
theorem srX12_standsHere_47_ok : qsg cX12_standsHere 12 3 false 47 srX12_standsHere_47 = true := by decide +kernel
def srX12_standsHere_49 : List qEl := [(.iinc 2 1, 3, 0, 0, 1, 0), (.goto (-45), 3, 7, 0, 0, 0)]
theorem srX12_standsHere_49_ok : qsg cX12_standsHere 12 3 false 49 srX12_standsHere_49 = true := by decide +kernel
def srX12_standsHere_55 : List qEl := [(.aload_n 0, 1, 0, 0, 0, 0), (.getfield 119, 3, 12, 4, 0, 0), (.aload_n 1, 1, 0, 0, 0, 0)]
theorem srX12_standsHere_55_ok : qsg cX12_standsHere 12 3 false 55 srX12_standsHere_55 = true := by decide +kernel
def srX12_standsHere_63 : List qEl := [(.iadd, 1, 0, 0, 0, 0), (.aload_n 0, 1, 0, 0, 0, 0), (.getfield 122, 3, 12, 3, 0, 0), (.if_icmp .ge 23, 3, 91, 0, 0, 0), (.aload_n 0, 1, 0, 0, 0, 0), (.getfield 20, 3, 12, 9, 0, 0), (.aload_n 0, 1, 0, 0, 0, 0), (.getfield 119, 3, 12, 4, 0, 0), (.aload_n 1, 1, 0, 0, 0, 0)]
theorem srX12_standsHere_63_ok : qsg cX12_standsHere 12 3 false 63 srX12_standsHere_63 = true := by decide +kernel
def srX12_standsHere_83 : List qEl := [(.iadd, 1, 0, 0, 0, 0), (.iaload, 1, 0, 0, 0, 0), (.invokestatic 129, 3, 0, 1, 0, 0), (.ifCond .ne 7, 3, 95, 0, 0, 0)]
theorem srX12_standsHere_83_ok : qsg cX12_standsHere 12 3 false 83 srX12_standsHere_83 = true := by decide +kernel
def srX12_standsHere_91 : List qEl := [(.iconst 1, 1, 0, 0, 1, 0), (.goto 4, 3, 96, 0, 0, 0)]
theorem srX12_standsHere_91_ok : qsg cX12_standsHere 12 3 false 91 srX12_standsHere_91 = true := by decide +kernel
def srX12_standsHere_95 : List qEl := [(.iconst 0, 1, 0, 0, 0, 0)]
theorem srX12_standsHere_95_ok : qsg cX12_standsHere 12 3 false 95 srX12_standsHere_95 = true := by decide +kernel
def srX12_standsHere_96 : List qEl := [(.ireturn, 1, 0, 0, 0, 0)]
theorem srX12_standsHere_96_ok : qsg cX12_standsHere 12 3 false 96 srX12_standsHere_96 = true := by decide +kernel
end QSGR
