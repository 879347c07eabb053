section QSG
def sgX8_init_0 : List qEl := [(.aload_n 0, 1, 0, 0, 0, 0), (.invokespecial 3, 3, 1, 0, 0, 0), (.aload_n 0, 1, 0, 0, 0, 0), (.sipush 600, 3, 0, 0, 600, 0), (.newarray .byte, 2, 0, 0, 0, 0), (.putfield 9, 3, 8, 0, 0, 0), (.aload_n 0, 1, 0, 0, 0, 0), (.iconst (-1), 1, 0, 0, (-1), 0), (.putfield 15, 3, 8, 6, 0, 0), (.return_, 1, 0, 0, 0, 0)]
theorem sgX8_init_0_ok : qsg cX8_init 8 1 true 0 sgX8_init_0 = true := by decide +kernel
def sgX8_hasRoom_0 : List qEl := [(.aload_n 0, 1, 0, 0, 0, 0), (.getfield 19, 3, 8, 1, 0, 0), (.bipush 20, 2, 0, 0, 20, 0), (.iadd, 1, 0, 0, 0, 0), (.aload_n 0, 1, 0, 0, 0, 0), (.getfield 9, 3, 8, 0, 0, 0), (.arraylength, 1, 0, 0, 0, 0), (.if_icmp .gt 7, 3, 19, 0, 0, 0), (.iconst 1, 1, 0, 0, 1, 0), (.goto 4, 3, 20, 0, 0, 0)]
theorem sgX8_hasRoom_0_ok : qsg cX8_hasRoom 8 1 false 0 sgX8_hasRoom_0 = true := by decide +kernel
def sgX8_hasRoom_19 : List qEl := [(.iconst 0, 1, 0, 0, 0, 0)]
theorem sgX8_hasRoom_19_ok : qsg cX8_hasRoom 8 1 false 19 sgX8_hasRoom_19 = true := by decide +kernel
def sgX8_hasRoom_20 : List qEl := [(.ireturn, 1, 0, 0, 0, 0)]
theorem sgX8_hasRoom_20_ok : qsg cX8_hasRoom 8 1 false 20 sgX8_hasRoom_20 = true := by decide +kernel
def sgX8_put_0 : List qEl := [(.bipush 24, 2, 0, 0, 24, 0), (.istore_n 2, 1, 0, 0, 0, 0)]
theorem sgX8_put_0_ok : qsg cX8_put 8 3 false 0 sgX8_put_0 = true := by decide +kernel
def sgX8_put_3 : List qEl := [(.iload_n 2, 1, 0, 0, 0, 0), (.ifCond .lt 51, 3, 55, 0, 0, 0), (.aload_n 0, 1, 0, 0, 0, 0), (.getfield 19, 3, 8, 1, 0, 0), (.ifCond .lt 38, 3, 49, 0, 0, 0), (.aload_n 0, 1, 0, 0, 0, 0), (.getfield 19, 3, 8, 1, 0, 0), (.aload_n 0, 1, 0, 0, 0, 0), (.getfield 9, 3, 8, 0, 0, 0), (.arraylength, 1, 0, 0, 0, 0), (.if_icmp .ge 26, 3, 49, 0, 0, 0), (.aload_n 0, 1, 0, 0, 0, 0), (.getfield 9, 3, 8, 0, 0, 0), (.aload_n 0, 1, 0, 0, 0, 0), (.getfield 19, 3, 8, 1, 0, 0), (.iload_n 1, 1, 0, 0, 0, 0), (.iload_n 2, 1, 0, 0, 0, 0), (.ishr, 1, 0, 0, 0, 0), (.i2b, 1, 0, 0, 0, 0), (.bastore, 1, 0, 0, 0, 0), (.aload_n 0, 1, 0, 0, 0, 0), (.dup, 1, 0, 0, 0, 0), (.getfield 19, 3, 8, 1, 0, 0), (.iconst 1, 1, 0, 0, 1, 0), (.iadd, 1, 0, 0, 0, 0), (.putfield 19, 3, 8, 1, 0, 0)]
theorem sgX8_put_3_ok : qsg cX8_put 8 3 false 3 sgX8_put_3 = true := by decide +kernel
def sgX8_put_49 : List qEl := [(.iinc 2 (-8), 3, 0, 0, (-8), 0), (.goto (-49), 3, 3, 0, 0, 0)]
theorem sgX8_put_49_ok : qsg cX8_put 8 3 false 49 sgX8_put_49 = true := by decide +kernel
def sgX8_put_55 : List qEl := [(.return_, 1, 0, 0, 0, 0)]
theorem sgX8_put_55_ok : qsg cX8_put 8 3 false 55 sgX8_put_55 = true := by decide +kernel
def sgX8_begin_0 : List qEl := [(.aload_n 0, 1, 0, 0, 0, 0), (.iload_n 1, 1, 0, 0, 0, 0), (.putfield 22, 3, 8, 2, 0, 0), (.aload_n 0, 1, 0, 0, 0, 0), (.iconst 0, 1, 0, 0, 0, 0), (.putfield 25, 3, 8, 3, 0, 0), (.aload_n 0, 1, 0, 0, 0, 0), (.iconst 0, 1, 0, 0, 0, 0), (.putfield 28, 3, 8, 5, 0, 0), (.aload_n 0, 1, 0, 0, 0, 0), (.iconst (-1), 1, 0, 0, (-1), 0), (.putfield 15, 3, 8, 6, 0, 0), (.aload_n 0, 1, 0, 0, 0, 0), (.iconst 0, 1, 0, 0, 0, 0), (.putfield 19, 3, 8, 1, 0, 0), (.return_, 1, 0, 0, 0, 0)]
theorem sgX8_begin_0_ok : qsg cX8_begin 8 2 false 0 sgX8_begin_0 = true := by decide +kernel
def sgX8_isFaulty_0 : List qEl := [(.aload_n 0, 1, 0, 0, 0, 0), (.getfield 28, 3, 8, 5, 0, 0), (.ifCond .eq 7, 3, 11, 0, 0, 0), (.iconst 1, 1, 0, 0, 1, 0), (.goto 4, 3, 12, 0, 0, 0)]
theorem sgX8_isFaulty_0_ok : qsg cX8_isFaulty 8 1 false 0 sgX8_isFaulty_0 = true := by decide +kernel
def sgX8_isFaulty_11 : List qEl := [(.iconst 0, 1, 0, 0, 0, 0)]
theorem sgX8_isFaulty_11_ok : qsg cX8_isFaulty 8 1 false 11 sgX8_isFaulty_11 = true := by decide +kernel
def sgX8_isFaulty_12 : List qEl := [(.ireturn, 1, 0, 0, 0, 0)]
theorem sgX8_isFaulty_12_ok : qsg cX8_isFaulty 8 1 false 12 sgX8_isFaulty_12 = true := by decide +kernel
def sgX8_fail_0 : List qEl := [(.aload_n 0, 1, 0, 0, 0, 0), (.getfield 28, 3, 8, 5, 0, 0), (.ifCond .ne 13, 3, 17, 0, 0, 0), (.aload_n 0, 1, 0, 0, 0, 0), (.iload_n 1, 1, 0, 0, 0, 0), (.putfield 28, 3, 8, 5, 0, 0), (.aload_n 0, 1, 0, 0, 0, 0), (.iload_n 2, 1, 0, 0, 0, 0), (.putfield 15, 3, 8, 6, 0, 0)]
theorem sgX8_fail_0_ok : qsg cX8_fail 8 3 false 0 sgX8_fail_0 = true := by decide +kernel
def sgX8_fail_17 : List qEl := [(.return_, 1, 0, 0, 0, 0)]
theorem sgX8_fail_17_ok : qsg cX8_fail 8 3 false 17 sgX8_fail_17 = true := by decide +kernel
def sgX8_byteAt_0 : List qEl := [(.iload_n 1, 1, 0, 0, 0, 0), (.ifCond .lt 33, 3, 34, 0, 0, 0), (.iload_n 1, 1, 0, 0, 0, 0), (.aload_n 0, 1, 0, 0, 0, 0), (.getfield 22, 3, 8, 2, 0, 0), (.if_icmp .ge 25, 3, 34, 0, 0, 0), (.iload_n 1, 1, 0, 0, 0, 0), (.aload_n 0, 1, 0, 0, 0, 0), (.getfield 9, 3, 8, 0, 0, 0), (.arraylength, 1, 0, 0, 0, 0), (.if_icmp .ge 16, 3, 34, 0, 0, 0), (.aload_n 0, 1, 0, 0, 0, 0), (.getfield 9, 3, 8, 0, 0, 0), (.iload_n 1, 1, 0, 0, 0, 0), (.baload, 1, 0, 0, 0, 0), (.sipush 255, 3, 0, 0, 255, 0), (.iand, 1, 0, 0, 0, 0), (.goto 4, 3, 35, 0, 0, 0)]
theorem sgX8_byteAt_0_ok : qsg cX8_byteAt 8 2 false 0 sgX8_byteAt_0 = true := by decide +kernel
def sgX8_byteAt_34 : List qEl := [(.iconst (-1), 1, 0, 0, (-1), 0)]
theorem sgX8_byteAt_34_ok : qsg cX8_byteAt 8 2 false 34 sgX8_byteAt_34 = true := by decide +kernel
def sgX8_byteAt_35 : List qEl := [(.ireturn, 1, 0, 0, 0, 0)]
theorem sgX8_byteAt_35_ok : qsg cX8_byteAt 8 2 false 35 sgX8_byteAt_35 = true := by decide +kernel
def sgX8_look_0 : List qEl := [(.iconst 0, 1, 0, 0, 0, 0), (.istore_n 1, 1, 0, 0, 0, 0)]
theorem sgX8_look_0_ok : qsg cX8_look 8 2 false 0 sgX8_look_0 = true := by decide +kernel
def sgX8_look_2 : List qEl := [(.iload_n 1, 1, 0, 0, 0, 0), (.sipush 600, 3, 0, 0, 600, 0), (.if_icmp .ge 32, 3, 38, 0, 0, 0), (.aload_n 0, 1, 0, 0, 0, 0), (.aload_n 0, 1, 0, 0, 0, 0), (.getfield 25, 3, 8, 3, 0, 0), (.invokevirtual 31, 3, 0, 1, 0, 0), (.bipush 32, 2, 0, 0, 32, 0), (.if_icmp .ne 19, 3, 38, 0, 0, 0), (.aload_n 0, 1, 0, 0, 0, 0), (.dup, 1, 0, 0, 0, 0), (.getfield 25, 3, 8, 3, 0, 0), (.iconst 1, 1, 0, 0, 1, 0), (.iadd, 1, 0, 0, 0, 0), (.putfield 25, 3, 8, 3, 0, 0), (.iinc 1 1, 3, 0, 0, 1, 0), (.goto (-33), 3, 2, 0, 0, 0)]
theorem sgX8_look_2_ok : qsg cX8_look 8 2 false 2 sgX8_look_2 = true := by decide +kernel
def sgX8_look_38 : List qEl := [(.aload_n 0, 1, 0, 0, 0, 0), (.aload_n 0, 1, 0, 0, 0, 0), (.getfield 25, 3, 8, 3, 0, 0), (.invokevirtual 31, 3, 0, 1, 0, 0), (.ireturn, 1, 0, 0, 0, 0)]
theorem sgX8_look_38_ok : qsg cX8_look 8 2 false 38 sgX8_look_38 = true := by decide +kernel
def sgX8_step_0 : List qEl := [(.aload_n 0, 1, 0, 0, 0, 0), (.getfield 25, 3, 8, 3, 0, 0), (.aload_n 0, 1, 0, 0, 0, 0), (.getfield 22, 3, 8, 2, 0, 0), (.if_icmp .ge 13, 3, 21, 0, 0, 0), (.aload_n 0, 1, 0, 0, 0, 0), (.dup, 1, 0, 0, 0, 0), (.getfield 25, 3, 8, 3, 0, 0), (.iconst 1, 1, 0, 0, 1, 0), (.iadd, 1, 0, 0, 0, 0), (.putfield 25, 3, 8, 3, 0, 0)]
theorem sgX8_step_0_ok : qsg cX8_step 8 1 false 0 sgX8_step_0 = true := by decide +kernel
def sgX8_step_21 : List qEl := [(.return_, 1, 0, 0, 0, 0)]
theorem sgX8_step_21_ok : qsg cX8_step 8 1 false 21 sgX8_step_21 = true := by decide +kernel
def sgX8_isOver_0 : List qEl := [(.aload_n 0, 1, 0, 0, 0, 0), (.invokevirtual 35, 3, 0, 0, 0, 0), (.iconst (-1), 1, 0, 0, (-1), 0), (.if_icmp .ne 7, 3, 12, 0, 0, 0), (.iconst 1, 1, 0, 0, 1, 0), (.goto 4, 3, 13, 0, 0, 0)]
theorem sgX8_isOver_0_ok : qsg cX8_isOver 8 1 false 0 sgX8_isOver_0 = true := by decide +kernel
def sgX8_isOver_12 : List qEl := [(.iconst 0, 1, 0, 0, 0, 0)]
theorem sgX8_isOver_12_ok : qsg cX8_isOver 8 1 false 12 sgX8_isOver_12 = true := by decide +kernel
def sgX8_isOver_13 : List qEl := [(.ireturn, 1, 0, 0, 0, 0)]
theorem sgX8_isOver_13_ok : qsg cX8_isOver 8 1 false 13 sgX8_isOver_13 = true := by decide +kernel
def sgX8_isDigit_0 : List qEl := [(.aload_n 0, 1, 0, 0, 0, 0), (.invokevirtual 35, 3, 0, 0, 0, 0), (.istore_n 1, 1, 0, 0, 0, 0), (.iload_n 1, 1, 0, 0, 0, 0), (.bipush 48, 2, 0, 0, 48, 0), (.if_icmp .lt 13, 3, 21, 0, 0, 0), (.iload_n 1, 1, 0, 0, 0, 0), (.bipush 57, 2, 0, 0, 57, 0), (.if_icmp .gt 7, 3, 21, 0, 0, 0), (.iconst 1, 1, 0, 0, 1, 0), (.goto 4, 3, 22, 0, 0, 0)]
theorem sgX8_isDigit_0_ok : qsg cX8_isDigit 8 2 false 0 sgX8_isDigit_0 = true := by decide +kernel
def sgX8_isDigit_21 : List qEl := [(.iconst 0, 1, 0, 0, 0, 0)]
theorem sgX8_isDigit_21_ok : qsg cX8_isDigit 8 2 false 21 sgX8_isDigit_21 = true := by decide +kernel
def sgX8_isDigit_22 : List qEl := [(.ireturn, 1, 0, 0, 0, 0)]
theorem sgX8_isDigit_22_ok : qsg cX8_isDigit 8 2 false 22 sgX8_isDigit_22 = true := by decide +kernel
def sgX8_isLetter_0 : List qEl := [(.aload_n 0, 1, 0, 0, 0, 0), (.invokevirtual 35, 3, 0, 0, 0, 0), (.istore_n 1, 1, 0, 0, 0, 0), (.iload_n 1, 1, 0, 0, 0, 0), (.bipush 97, 2, 0, 0, 97, 0), (.if_icmp .lt 13, 3, 21, 0, 0, 0), (.iload_n 1, 1, 0, 0, 0, 0), (.bipush 122, 2, 0, 0, 122, 0), (.if_icmp .gt 7, 3, 21, 0, 0, 0), (.iconst 1, 1, 0, 0, 1, 0), (.goto 4, 3, 22, 0, 0, 0)]
theorem sgX8_isLetter_0_ok : qsg cX8_isLetter 8 2 false 0 sgX8_isLetter_0 = true := by decide +kernel
def sgX8_isLetter_21 : List qEl := [(.iconst 0, 1, 0, 0, 0, 0)]
theorem sgX8_isLetter_21_ok : qsg cX8_isLetter 8 2 false 21 sgX8_isLetter_21 = true := by decide +kernel
def sgX8_isLetter_22 : List qEl := [(.ireturn, 1, 0, 0, 0, 0)]
theorem sgX8_isLetter_22_ok : qsg cX8_isLetter 8 2 false 22 sgX8_isLetter_22 = true := by decide +kernel
def sgX8_sign_0 : List qEl := [(.aload_n 0, 1, 0, 0, 0, 0), (.invokevirtual 35, 3, 0, 0, 0, 0), (.iload_n 1, 1, 0, 0, 0, 0), (.if_icmp .ne 16, 3, 21, 0, 0, 0), (.aload_n 0, 1, 0, 0, 0, 0), (.dup, 1, 0, 0, 0, 0), (.getfield 25, 3, 8, 3, 0, 0), (.iconst 1, 1, 0, 0, 1, 0), (.iadd, 1, 0, 0, 0, 0), (.putfield 25, 3, 8, 3, 0, 0), (.goto 12, 3, 30, 0, 0, 0)]
theorem sgX8_sign_0_ok : qsg cX8_sign 8 2 false 0 sgX8_sign_0 = true := by decide +kernel
def sgX8_sign_21 : List qEl := [(.aload_n 0, 1, 0, 0, 0, 0), (.iconst 1, 1, 0, 0, 1, 0), (.aload_n 0, 1, 0, 0, 0, 0), (.getfield 25, 3, 8, 3, 0, 0), (.invokevirtual 39, 3, 0, 2, 0, 0)]
theorem sgX8_sign_21_ok : qsg cX8_sign 8 2 false 21 sgX8_sign_21 = true := by decide +kernel
def sgX8_sign_30 : List qEl := [(.return_, 1, 0, 0, 0, 0)]
theorem sgX8_sign_30_ok : qsg cX8_sign 8 2 false 30 sgX8_sign_30 = true := by decide +kernel
def sgX8_number_0 : List qEl := [(.aload_n 0, 1, 0, 0, 0, 0), (.invokevirtual 35, 3, 0, 0, 0, 0), (.istore_n 3, 1, 0, 0, 0, 0), (.aload_n 0, 1, 0, 0, 0, 0), (.aload_n 0, 1, 0, 0, 0, 0), (.getfield 25, 3, 8, 3, 0, 0), (.putfield 43, 3, 8, 4, 0, 0), (.iconst 0, 1, 0, 0, 0, 0), (.istore 4, 2, 0, 0, 0, 0), (.iconst 0, 1, 0, 0, 0, 0), (.istore 5, 2, 0, 0, 0, 0)]
theorem sgX8_number_0_ok : qsg cX8_number 8 6 false 0 sgX8_number_0 = true := by decide +kernel
def sgX8_number_19 : List qEl := [(.iload 5, 2, 0, 0, 0, 0), (.sipush 600, 3, 0, 0, 600, 0), (.if_icmp .ge 68, 3, 92, 0, 0, 0), (.iload_n 3, 1, 0, 0, 0, 0), (.bipush 48, 2, 0, 0, 48, 0), (.if_icmp .lt 62, 3, 92, 0, 0, 0), (.iload_n 3, 1, 0, 0, 0, 0), (.bipush 57, 2, 0, 0, 57, 0), (.if_icmp .gt 56, 3, 92, 0, 0, 0), (.iload 4, 2, 0, 0, 0, 0), (.bipush 10, 2, 0, 0, 10, 0), (.imul, 1, 0, 0, 0, 0), (.iload_n 3, 1, 0, 0, 0, 0), (.iadd, 1, 0, 0, 0, 0), (.bipush 48, 2, 0, 0, 48, 0), (.isub, 1, 0, 0, 0, 0), (.istore 4, 2, 0, 0, 0, 0), (.iload 4, 2, 0, 0, 0, 0), (.ldc 46, 2, 0, 0, 100000, 0), (.if_icmp .le 8, 3, 63, 0, 0, 0), (.ldc 46, 2, 0, 0, 100000, 0), (.goto 5, 3, 65, 0, 0, 0)]
theorem sgX8_number_19_ok : qsg cX8_number 8 6 false 19 sgX8_number_19 = true := by decide +kernel
def sgX8_number_63 : List qEl := [(.iload 4, 2, 0, 0, 0, 0)]
theorem sgX8_number_63_ok : qsg cX8_number 8 6 false 63 sgX8_number_63 = true := by decide +kernel
def sgX8_number_65 : List qEl := [(.istore 4, 2, 0, 0, 0, 0), (.aload_n 0, 1, 0, 0, 0, 0), (.dup, 1, 0, 0, 0, 0), (.getfield 25, 3, 8, 3, 0, 0), (.iconst 1, 1, 0, 0, 1, 0), (.iadd, 1, 0, 0, 0, 0), (.putfield 25, 3, 8, 3, 0, 0), (.aload_n 0, 1, 0, 0, 0, 0), (.aload_n 0, 1, 0, 0, 0, 0), (.getfield 25, 3, 8, 3, 0, 0), (.invokevirtual 31, 3, 0, 1, 0, 0), (.istore_n 3, 1, 0, 0, 0, 0), (.iinc 5 1, 3, 0, 0, 1, 0), (.goto (-70), 3, 19, 0, 0, 0)]
theorem sgX8_number_65_ok : qsg cX8_number 8 6 false 65 sgX8_number_65 = true := by decide +kernel
def sgX8_number_92 : List qEl := [(.aload_n 0, 1, 0, 0, 0, 0), (.getfield 25, 3, 8, 3, 0, 0), (.aload_n 0, 1, 0, 0, 0, 0), (.getfield 43, 3, 8, 4, 0, 0), (.if_icmp .ne 12, 3, 112, 0, 0, 0), (.aload_n 0, 1, 0, 0, 0, 0), (.iconst 1, 1, 0, 0, 1, 0), (.aload_n 0, 1, 0, 0, 0, 0), (.getfield 43, 3, 8, 4, 0, 0), (.invokevirtual 39, 3, 0, 2, 0, 0)]
theorem sgX8_number_92_ok : qsg cX8_number 8 6 false 92 sgX8_number_92 = true := by decide +kernel
def sgX8_number_112 : List qEl := [(.iload 4, 2, 0, 0, 0, 0), (.iload_n 1, 1, 0, 0, 0, 0), (.if_icmp .lt 9, 3, 124, 0, 0, 0), (.iload 4, 2, 0, 0, 0, 0), (.iload_n 2, 1, 0, 0, 0, 0), (.if_icmp .le 12, 3, 133, 0, 0, 0)]
theorem sgX8_number_112_ok : qsg cX8_number 8 6 false 112 sgX8_number_112 = true := by decide +kernel
def sgX8_number_124 : List qEl := [(.aload_n 0, 1, 0, 0, 0, 0), (.iconst 2, 1, 0, 0, 2, 0), (.aload_n 0, 1, 0, 0, 0, 0), (.getfield 43, 3, 8, 4, 0, 0), (.invokevirtual 39, 3, 0, 2, 0, 0)]
theorem sgX8_number_124_ok : qsg cX8_number 8 6 false 124 sgX8_number_124 = true := by decide +kernel
def sgX8_number_133 : List qEl := [(.aload_n 0, 1, 0, 0, 0, 0), (.getfield 28, 3, 8, 5, 0, 0), (.ifCond .ne 8, 3, 145, 0, 0, 0), (.iload 4, 2, 0, 0, 0, 0), (.goto 4, 3, 146, 0, 0, 0)]
theorem sgX8_number_133_ok : qsg cX8_number 8 6 false 133 sgX8_number_133 = true := by decide +kernel
def sgX8_number_145 : List qEl := [(.iconst 0, 1, 0, 0, 0, 0)]
theorem sgX8_number_145_ok : qsg cX8_number 8 6 false 145 sgX8_number_145 = true := by decide +kernel
def sgX8_number_146 : List qEl := [(.ireturn, 1, 0, 0, 0, 0)]
theorem sgX8_number_146_ok : qsg cX8_number 8 6 false 146 sgX8_number_146 = true := by decide +kernel
def sgX8_word_0 : List qEl := [(.aload_n 0, 1, 0, 0, 0, 0), (.invokevirtual 35, 3, 0, 0, 0, 0), (.istore_n 2, 1, 0, 0, 0, 0), (.aload_n 0, 1, 0, 0, 0, 0), (.aload_n 0, 1, 0, 0, 0, 0), (.getfield 25, 3, 8, 3, 0, 0), (.putfield 43, 3, 8, 4, 0, 0), (.iconst 0, 1, 0, 0, 0, 0), (.istore_n 3, 1, 0, 0, 0, 0)]
theorem sgX8_word_0_ok : qsg cX8_word 8 4 false 0 sgX8_word_0 = true := by decide +kernel
def sgX8_word_15 : List qEl := [(.iload_n 3, 1, 0, 0, 0, 0), (.sipush 600, 3, 0, 0, 600, 0), (.if_icmp .ge 40, 3, 59, 0, 0, 0), (.iload_n 2, 1, 0, 0, 0, 0), (.bipush 97, 2, 0, 0, 97, 0), (.if_icmp .lt 34, 3, 59, 0, 0, 0), (.iload_n 2, 1, 0, 0, 0, 0), (.bipush 122, 2, 0, 0, 122, 0), (.if_icmp .gt 28, 3, 59, 0, 0, 0), (.aload_n 0, 1, 0, 0, 0, 0), (.dup, 1, 0, 0, 0, 0), (.getfield 25, 3, 8, 3, 0, 0), (.iconst 1, 1, 0, 0, 1, 0), (.iadd, 1, 0, 0, 0, 0), (.putfield 25, 3, 8, 3, 0, 0), (.aload_n 0, 1, 0, 0, 0, 0), (.aload_n 0, 1, 0, 0, 0, 0), (.getfield 25, 3, 8, 3, 0, 0), (.invokevirtual 31, 3, 0, 1, 0, 0), (.istore_n 2, 1, 0, 0, 0, 0), (.iinc 3 1, 3, 0, 0, 1, 0), (.goto (-41), 3, 15, 0, 0, 0)]
theorem sgX8_word_15_ok : qsg cX8_word 8 4 false 15 sgX8_word_15 = true := by decide +kernel
def sgX8_word_59 : List qEl := [(.aload_n 0, 1, 0, 0, 0, 0), (.getfield 25, 3, 8, 3, 0, 0), (.aload_n 0, 1, 0, 0, 0, 0), (.getfield 43, 3, 8, 4, 0, 0), (.if_icmp .ne 7, 3, 74, 0, 0, 0), (.iconst (-1), 1, 0, 0, (-1), 0), (.goto 8, 3, 79, 0, 0, 0)]
theorem sgX8_word_59_ok : qsg cX8_word 8 4 false 59 sgX8_word_59 = true := by decide +kernel
def sgX8_word_74 : List qEl := [(.aload_n 0, 1, 0, 0, 0, 0), (.aload_n 1, 1, 0, 0, 0, 0), (.invokevirtual 47, 3, 0, 1, 0, 0)]
theorem sgX8_word_74_ok : qsg cX8_word 8 4 false 74 sgX8_word_74 = true := by decide +kernel
def sgX8_word_79 : List qEl := [(.istore_n 3, 1, 0, 0, 0, 0), (.iload_n 3, 1, 0, 0, 0, 0), (.iconst (-1), 1, 0, 0, (-1), 0), (.if_icmp .ne 12, 3, 94, 0, 0, 0), (.aload_n 0, 1, 0, 0, 0, 0), (.iconst 1, 1, 0, 0, 1, 0), (.aload_n 0, 1, 0, 0, 0, 0), (.getfield 43, 3, 8, 4, 0, 0), (.invokevirtual 39, 3, 0, 2, 0, 0)]
theorem sgX8_word_79_ok : qsg cX8_word 8 4 false 79 sgX8_word_79 = true := by decide +kernel
def sgX8_word_94 : List qEl := [(.iload_n 3, 1, 0, 0, 0, 0), (.ireturn, 1, 0, 0, 0, 0)]
theorem sgX8_word_94_ok : qsg cX8_word 8 4 false 94 sgX8_word_94 = true := by decide +kernel
def sgX8_indexIn_0 : List qEl := [(.iconst 0, 1, 0, 0, 0, 0), (.istore_n 2, 1, 0, 0, 0, 0), (.iconst 0, 1, 0, 0, 0, 0), (.istore_n 3, 1, 0, 0, 0, 0), (.aload_n 1, 1, 0, 0, 0, 0), (.invokevirtual 51, 3, 0, 0, 0, 0), (.istore 4, 2, 0, 0, 0, 0), (.iconst 0, 1, 0, 0, 0, 0), (.istore 5, 2, 0, 0, 0, 0)]
theorem sgX8_indexIn_0_ok : qsg cX8_indexIn 8 6 false 0 sgX8_indexIn_0 = true := by decide +kernel
def sgX8_indexIn_13 : List qEl := [(.iload 5, 2, 0, 0, 0, 0), (.iload 4, 2, 0, 0, 0, 0), (.if_icmp .gt 48, 3, 65, 0, 0, 0), (.iload 5, 2, 0, 0, 0, 0), (.iload 4, 2, 0, 0, 0, 0), (.if_icmp .eq 14, 3, 38, 0, 0, 0), (.aload_n 1, 1, 0, 0, 0, 0), (.iload 5, 2, 0, 0, 0, 0), (.invokevirtual 56, 3, 0, 1, 0, 0), (.bipush 32, 2, 0, 0, 32, 0), (.if_icmp .ne 24, 3, 59, 0, 0, 0)]
theorem sgX8_indexIn_13_ok : qsg cX8_indexIn 8 6 false 13 sgX8_indexIn_13 = true := by decide +kernel
def sgX8_indexIn_38 : List qEl := [(.aload_n 0, 1, 0, 0, 0, 0), (.aload_n 1, 1, 0, 0, 0, 0), (.iload_n 3, 1, 0, 0, 0, 0), (.iload 5, 2, 0, 0, 0, 0), (.invokevirtual 60, 3, 0, 3, 0, 0), (.ifCond .eq 5, 3, 51, 0, 0, 0), (.iload_n 2, 1, 0, 0, 0, 0), (.ireturn, 1, 0, 0, 0, 0)]
theorem sgX8_indexIn_38_ok : qsg cX8_indexIn 8 6 false 38 sgX8_indexIn_38 = true := by decide +kernel
def sgX8_indexIn_51 : List qEl := [(.iinc 2 1, 3, 0, 0, 1, 0), (.iload 5, 2, 0, 0, 0, 0), (.iconst 1, 1, 0, 0, 1, 0), (.iadd, 1, 0, 0, 0, 0), (.istore_n 3, 1, 0, 0, 0, 0)]
theorem sgX8_indexIn_51_ok : qsg cX8_indexIn 8 6 false 51 sgX8_indexIn_51 = true := by decide +kernel
def sgX8_indexIn_59 : List qEl := [(.iinc 5 1, 3, 0, 0, 1, 0), (.goto (-49), 3, 13, 0, 0, 0)]
theorem sgX8_indexIn_59_ok : qsg cX8_indexIn 8 6 false 59 sgX8_indexIn_59 = true := by decide +kernel
def sgX8_indexIn_65 : List qEl := [(.iconst (-1), 1, 0, 0, (-1), 0), (.ireturn, 1, 0, 0, 0, 0)]
theorem sgX8_indexIn_65_ok : qsg cX8_indexIn 8 6 false 65 sgX8_indexIn_65 = true := by decide +kernel
def sgX8_isWord_0 : List qEl := [(.iload_n 3, 1, 0, 0, 0, 0), (.iload_n 2, 1, 0, 0, 0, 0), (.isub, 1, 0, 0, 0, 0), (.aload_n 0, 1, 0, 0, 0, 0), (.getfield 25, 3, 8, 3, 0, 0), (.aload_n 0, 1, 0, 0, 0, 0), (.getfield 43, 3, 8, 4, 0, 0), (.isub, 1, 0, 0, 0, 0), (.if_icmp .eq 5, 3, 17, 0, 0, 0), (.iconst 0, 1, 0, 0, 0, 0), (.ireturn, 1, 0, 0, 0, 0)]
theorem sgX8_isWord_0_ok : qsg cX8_isWord 8 5 false 0 sgX8_isWord_0 = true := by decide +kernel
def sgX8_isWord_17 : List qEl := [(.iload_n 2, 1, 0, 0, 0, 0), (.istore 4, 2, 0, 0, 0, 0)]
theorem sgX8_isWord_17_ok : qsg cX8_isWord 8 5 false 17 sgX8_isWord_17 = true := by decide +kernel
def sgX8_isWord_20 : List qEl := [(.iload 4, 2, 0, 0, 0, 0), (.iload_n 3, 1, 0, 0, 0, 0), (.if_icmp .ge 42, 3, 65, 0, 0, 0), (.iload 4, 2, 0, 0, 0, 0), (.aload_n 1, 1, 0, 0, 0, 0), (.invokevirtual 51, 3, 0, 0, 0, 0), (.if_icmp .ge 33, 3, 65, 0, 0, 0), (.aload_n 1, 1, 0, 0, 0, 0), (.iload 4, 2, 0, 0, 0, 0), (.invokevirtual 56, 3, 0, 1, 0, 0), (.aload_n 0, 1, 0, 0, 0, 0), (.aload_n 0, 1, 0, 0, 0, 0), (.getfield 43, 3, 8, 4, 0, 0), (.iload 4, 2, 0, 0, 0, 0), (.iadd, 1, 0, 0, 0, 0), (.iload_n 2, 1, 0, 0, 0, 0), (.isub, 1, 0, 0, 0, 0), (.invokevirtual 31, 3, 0, 1, 0, 0), (.if_icmp .eq 5, 3, 59, 0, 0, 0), (.iconst 0, 1, 0, 0, 0, 0), (.ireturn, 1, 0, 0, 0, 0)]
theorem sgX8_isWord_20_ok : qsg cX8_isWord 8 5 false 20 sgX8_isWord_20 = true := by decide +kernel
def sgX8_isWord_59 : List qEl := [(.iinc 4 1, 3, 0, 0, 1, 0), (.goto (-42), 3, 20, 0, 0, 0)]
theorem sgX8_isWord_59_ok : qsg cX8_isWord 8 5 false 59 sgX8_isWord_59 = true := by decide +kernel
def sgX8_isWord_65 : List qEl := [(.iconst 1, 1, 0, 0, 1, 0), (.ireturn, 1, 0, 0, 0, 0)]
theorem sgX8_isWord_65_ok : qsg cX8_isWord 8 5 false 65 sgX8_isWord_65 = true := by decide +kernel
end QSG
