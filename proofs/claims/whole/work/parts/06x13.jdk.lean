section QSG
def sgJ0_length_8abf5_0 : List qEl := [(.aload_n 0, 1, 0, 0, 0, 0), (.getfield 9, 3, 99, 0, 0, 0), (.arraylength, 1, 0, 0, 0, 0), (.aload_n 0, 1, 0, 0, 0, 0), (.invokevirtual 335, 3, 0, 0, 0, 0), (.ishr, 1, 0, 0, 0, 0), (.ireturn, 1, 0, 0, 0, 0)]
theorem sgJ0_length_8abf5_0_ok : qsg cJ0_length_8abf5 14 1 false 0 sgJ0_length_8abf5_0 = true := by decide +kernel
def sgJ0_charAt_5068e_0 : List qEl := [(.aload_n 0, 1, 0, 0, 0, 0), (.invokevirtual 492, 3, 0, 0, 0, 0), (.ifCond .eq 12, 3, 16, 0, 0, 0), (.aload_n 0, 1, 0, 0, 0, 0), (.getfield 9, 3, 99, 0, 0, 0), (.iload_n 1, 1, 0, 0, 0, 0), (.invokestatic 495, 3, 0, 2, 0, 0), (.ireturn, 1, 0, 0, 0, 0)]
theorem sgJ0_charAt_5068e_0_ok : qsg cJ0_charAt_5068e 14 2 false 0 sgJ0_charAt_5068e_0 = true := by decide +kernel
def sgJ0_charAt_5068e_16 : List qEl := [(.aload_n 0, 1, 0, 0, 0, 0), (.getfield 9, 3, 99, 0, 0, 0), (.iload_n 1, 1, 0, 0, 0, 0), (.invokestatic 498, 3, 0, 2, 0, 0), (.ireturn, 1, 0, 0, 0, 0)]
theorem sgJ0_charAt_5068e_16_ok : qsg cJ0_charAt_5068e 14 2 false 16 sgJ0_charAt_5068e_16 = true := by decide +kernel
def sgJ0_coder_7d493_0 : List qEl := [(.getstatic 38, 3, 0, 0, 0, 0), (.ifCond .eq 10, 3, 13, 0, 0, 0), (.aload_n 0, 1, 0, 0, 0, 0), (.getfield 15, 3, 99, 0, 0, 0), (.goto 4, 3, 14, 0, 0, 0)]
theorem sgJ0_coder_7d493_0_ok : qsg cJ0_coder_7d493 14 1 false 0 sgJ0_coder_7d493_0 = true := by decide +kernel
def sgJ0_coder_7d493_13 : List qEl := [(.iconst 1, 1, 0, 0, 1, 0)]
theorem sgJ0_coder_7d493_13_ok : qsg cJ0_coder_7d493 14 1 false 13 sgJ0_coder_7d493_13 = true := by decide +kernel
def sgJ0_coder_7d493_14 : List qEl := [(.ireturn, 1, 0, 0, 0, 0)]
theorem sgJ0_coder_7d493_14_ok : qsg cJ0_coder_7d493 14 1 false 14 sgJ0_coder_7d493_14 = true := by decide +kernel
def sgJ0_isLatin1_aae02_0 : List qEl := [(.getstatic 38, 3, 0, 0, 0, 0), (.ifCond .eq 14, 3, 17, 0, 0, 0), (.aload_n 0, 1, 0, 0, 0, 0), (.getfield 15, 3, 99, 0, 0, 0), (.ifCond .ne 7, 3, 17, 0, 0, 0), (.iconst 1, 1, 0, 0, 1, 0), (.goto 4, 3, 18, 0, 0, 0)]
theorem sgJ0_isLatin1_aae02_0_ok : qsg cJ0_isLatin1_aae02 14 1 false 0 sgJ0_isLatin1_aae02_0 = true := by decide +kernel
def sgJ0_isLatin1_aae02_17 : List qEl := [(.iconst 0, 1, 0, 0, 0, 0)]
theorem sgJ0_isLatin1_aae02_17_ok : qsg cJ0_isLatin1_aae02 14 1 false 17 sgJ0_isLatin1_aae02_17 = true := by decide +kernel
def sgJ0_isLatin1_aae02_18 : List qEl := [(.ireturn, 1, 0, 0, 0, 0)]
theorem sgJ0_isLatin1_aae02_18_ok : qsg cJ0_isLatin1_aae02 14 1 false 18 sgJ0_isLatin1_aae02_18 = true := by decide +kernel
def sgJ0_checkIndex_df160_0 : List qEl := [(.iload_n 0, 1, 0, 0, 0, 0), (.iload_n 1, 1, 0, 0, 0, 0), (.getstatic 1053, 3, 0, 0, 0, 0), (.invokestatic 1059, 3, 0, 3, 0, 0), (.pop, 1, 0, 0, 0, 0), (.return_, 1, 0, 0, 0, 0)]
theorem sgJ0_checkIndex_df160_0_ok : qsg cJ0_checkIndex_df160 14 2 false 0 sgJ0_checkIndex_df160_0 = true := by decide +kernel
def sgJ1_charAt_3b067_0 : List qEl := [(.iload_n 1, 1, 0, 0, 0, 0), (.aload_n 0, 1, 0, 0, 0, 0), (.arraylength, 1, 0, 0, 0, 0), (.invokestatic 9, 3, 0, 2, 0, 0), (.aload_n 0, 1, 0, 0, 0, 0), (.iload_n 1, 1, 0, 0, 0, 0), (.baload, 1, 0, 0, 0, 0), (.sipush 255, 3, 0, 0, 255, 0), (.iand, 1, 0, 0, 0, 0), (.i2c, 1, 0, 0, 0, 0), (.ireturn, 1, 0, 0, 0, 0)]
theorem sgJ1_charAt_3b067_0_ok : qsg cJ1_charAt_3b067 15 2 false 0 sgJ1_charAt_3b067_0 = true := by decide +kernel
def sgJ2_getChar_3b067_0 : List qEl := [(.getstatic 44, 3, 0, 0, 0, 0), (.ifCond .ne 25, 3, 28, 0, 0, 0), (.iload_n 1, 1, 0, 0, 0, 0), (.ifCond .lt 11, 3, 18, 0, 0, 0), (.iload_n 1, 1, 0, 0, 0, 0), (.aload_n 0, 1, 0, 0, 0, 0), (.invokestatic 48, 3, 0, 1, 0, 0), (.if_icmp .lt 13, 3, 28, 0, 0, 0)]
theorem sgJ2_getChar_3b067_0_ok : qsg cJ2_getChar_3b067 16 2 false 0 sgJ2_getChar_3b067_0 = true := by decide +kernel
def sgJ2_getChar_3b067_21 : List qEl := [(.dup, 1, 0, 0, 0, 0), (.ldc 54, 2, 1, 0, 0, 0)]
theorem sgJ2_getChar_3b067_21_ok : qsg cJ2_getChar_3b067 16 2 false 21 sgJ2_getChar_3b067_21 = true := by decide +kernel
def sgJ2_getChar_3b067_28 : List qEl := [(.iload_n 1, 1, 0, 0, 0, 0), (.iconst 1, 1, 0, 0, 1, 0), (.ishl, 1, 0, 0, 0, 0), (.istore_n 1, 1, 0, 0, 0, 0), (.aload_n 0, 1, 0, 0, 0, 0), (.iload_n 1, 1, 0, 0, 0, 0), (.iinc 1 1, 3, 0, 0, 1, 0), (.baload, 1, 0, 0, 0, 0), (.sipush 255, 3, 0, 0, 255, 0), (.iand, 1, 0, 0, 0, 0), (.getstatic 59, 3, 0, 0, 0, 0), (.ishl, 1, 0, 0, 0, 0), (.aload_n 0, 1, 0, 0, 0, 0), (.iload_n 1, 1, 0, 0, 0, 0), (.baload, 1, 0, 0, 0, 0), (.sipush 255, 3, 0, 0, 255, 0), (.iand, 1, 0, 0, 0, 0), (.getstatic 63, 3, 0, 0, 0, 0), (.ishl, 1, 0, 0, 0, 0), (.ior, 1, 0, 0, 0, 0), (.i2c, 1, 0, 0, 0, 0), (.ireturn, 1, 0, 0, 0, 0)]
theorem sgJ2_getChar_3b067_28_ok : qsg cJ2_getChar_3b067 16 2 false 28 sgJ2_getChar_3b067_28 = true := by decide +kernel
def sgJ2_length_9d52b_0 : List qEl := [(.aload_n 0, 1, 0, 0, 0, 0), (.arraylength, 1, 0, 0, 0, 0), (.iconst 1, 1, 0, 0, 1, 0), (.ishr, 1, 0, 0, 0, 0), (.ireturn, 1, 0, 0, 0, 0)]
theorem sgJ2_length_9d52b_0_ok : qsg cJ2_length_9d52b 16 1 false 0 sgJ2_length_9d52b_0 = true := by decide +kernel
def sgJ2_charAt_3b067_0 : List qEl := [(.iload_n 1, 1, 0, 0, 0, 0), (.aload_n 0, 1, 0, 0, 0, 0), (.invokestatic 67, 3, 0, 2, 0, 0), (.aload_n 0, 1, 0, 0, 0, 0), (.iload_n 1, 1, 0, 0, 0, 0), (.invokestatic 71, 3, 0, 2, 0, 0), (.ireturn, 1, 0, 0, 0, 0)]
theorem sgJ2_charAt_3b067_0_ok : qsg cJ2_charAt_3b067 16 2 false 0 sgJ2_charAt_3b067_0 = true := by decide +kernel
def sgJ2_checkIndex_2214a_0 : List qEl := [(.iload_n 0, 1, 0, 0, 0, 0), (.aload_n 1, 1, 0, 0, 0, 0), (.invokestatic 48, 3, 0, 1, 0, 0), (.invokestatic 414, 3, 0, 2, 0, 0), (.return_, 1, 0, 0, 0, 0)]
theorem sgJ2_checkIndex_2214a_0_ok : qsg cJ2_checkIndex_2214a 16 2 false 0 sgJ2_checkIndex_2214a_0 = true := by decide +kernel
def sgJ3_checkIndex_8e157_0 : List qEl := [(.iload_n 0, 1, 0, 0, 0, 0), (.ifCond .lt 8, 3, 9, 0, 0, 0), (.iload_n 0, 1, 0, 0, 0, 0), (.iload_n 1, 1, 0, 0, 0, 0), (.if_icmp .lt 10, 3, 16, 0, 0, 0)]
theorem sgJ3_checkIndex_8e157_0_ok : qsg cJ3_checkIndex_8e157 17 3 false 0 sgJ3_checkIndex_8e157_0 = true := by decide +kernel
def sgJ3_checkIndex_8e157_9 : List qEl := [(.aload_n 2, 1, 0, 0, 0, 0), (.iload_n 0, 1, 0, 0, 0, 0), (.iload_n 1, 1, 0, 0, 0, 0)]
theorem sgJ3_checkIndex_8e157_9_ok : qsg cJ3_checkIndex_8e157 17 3 false 9 sgJ3_checkIndex_8e157_9 = true := by decide +kernel
def sgJ3_checkIndex_8e157_16 : List qEl := [(.iload_n 0, 1, 0, 0, 0, 0), (.ireturn, 1, 0, 0, 0, 0)]
theorem sgJ3_checkIndex_8e157_16_ok : qsg cJ3_checkIndex_8e157 17 3 false 16 sgJ3_checkIndex_8e157_16 = true := by decide +kernel
end QSG
