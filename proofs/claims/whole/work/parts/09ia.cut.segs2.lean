section QCUT
def srX7_init_0 : List qEl := [(.aload_n 0, 1, 0, 0, 0, 0), (.invokespecial 3, 3, 1, 0, 0, 0), (.aload_n 0, 1, 0, 0, 0, 0), (.bipush 90, 2, 0, 0, 90, 0), (.newarray .long, 2, 0, 0, 0, 0), (.putfield 11, 3, 7, 2, 0, 0)]
theorem srX7_init_0_ok : qsg cX7_init 7 3 true 0 srX7_init_0 = true := by decide +kernel
def srX7_init_12 : List qEl := [(.aload_n 0, 1, 0, 0, 0, 0), (.bipush 90, 2, 0, 0, 90, 0), (.newarray .int, 2, 0, 0, 0, 0), (.putfield 15, 3, 7, 3, 0, 0)]
theorem srX7_init_12_ok : qsg cX7_init 7 3 true 12 srX7_init_12 = true := by decide +kernel
def srX7_init_20 : List qEl := [(.aload_n 0, 1, 0, 0, 0, 0), (.bipush 90, 2, 0, 0, 90, 0), (.newarray .int, 2, 0, 0, 0, 0), (.putfield 19, 3, 7, 4, 0, 0)]
theorem srX7_init_20_ok : qsg cX7_init 7 3 true 20 srX7_init_20 = true := by decide +kernel
def srX7_init_28 : List qEl := [(.aload_n 0, 1, 0, 0, 0, 0), (.iconst 5, 1, 0, 0, 5, 0), (.newarray .int, 2, 0, 0, 0, 0), (.putfield 22, 3, 7, 5, 0, 0)]
theorem srX7_init_28_ok : qsg cX7_init 7 3 true 28 srX7_init_28 = true := by decide +kernel
def srX7_init_35 : List qEl := [(.aload_n 0, 1, 0, 0, 0, 0), (.bipush 6, 2, 0, 0, 6, 0), (.newarray .long, 2, 0, 0, 0, 0), (.putfield 25, 3, 7, 6, 0, 0)]
theorem srX7_init_35_ok : qsg cX7_init 7 3 true 35 srX7_init_35 = true := by decide +kernel
def srX7_init_43 : List qEl := [(.aload_n 0, 1, 0, 0, 0, 0), (.iconst 5, 1, 0, 0, 5, 0), (.newarray .int, 2, 0, 0, 0, 0), (.putfield 28, 3, 7, 7, 0, 0)]
theorem srX7_init_43_ok : qsg cX7_init 7 3 true 43 srX7_init_43 = true := by decide +kernel
def srX7_init_50 : List qEl := [(.aload_n 0, 1, 0, 0, 0, 0), (.iconst 5, 1, 0, 0, 5, 0), (.newarray .int, 2, 0, 0, 0, 0), (.putfield 31, 3, 7, 8, 0, 0)]
theorem srX7_init_50_ok : qsg cX7_init 7 3 true 50 srX7_init_50 = true := by decide +kernel
def srX7_init_57 : List qEl := [(.aload_n 0, 1, 0, 0, 0, 0), (.aload_n 1, 1, 0, 0, 0, 0), (.putfield 34, 3, 7, 0, 0, 0)]
theorem srX7_init_57_ok : qsg cX7_init 7 3 true 57 srX7_init_57 = true := by decide +kernel
def srX7_init_62 : List qEl := [(.aload_n 0, 1, 0, 0, 0, 0), (.aload_n 2, 1, 0, 0, 0, 0), (.putfield 38, 3, 7, 1, 0, 0)]
theorem srX7_init_62_ok : qsg cX7_init 7 3 true 62 srX7_init_62 = true := by decide +kernel
def srX7_init_67 : List qEl := [(.return_, 1, 0, 0, 0, 0)]
theorem srX7_init_67_ok : qsg cX7_init 7 3 true 67 srX7_init_67 = true := by decide +kernel
def srX12_init_0 : List qEl := [(.aload_n 0, 1, 0, 0, 0, 0), (.invokespecial 11, 3, 1, 0, 0, 0), (.aload_n 0, 1, 0, 0, 0, 0), (.iconst 3, 1, 0, 0, 3, 0), (.newarray .int, 2, 0, 0, 0, 0), (.putfield 7, 3, 12, 1, 0, 0)]
theorem srX12_init_0_ok : qsg cX12_init 12 1 true 0 srX12_init_0 = true := by decide +kernel
def srX12_init_11 : List qEl := [(.aload_n 0, 1, 0, 0, 0, 0), (.iconst (-1), 1, 0, 0, (-1), 0), (.putfield 17, 3, 12, 8, 0, 0)]
theorem srX12_init_11_ok : qsg cX12_init 12 1 true 11 srX12_init_11 = true := by decide +kernel
def srX12_init_16 : List qEl := [(.aload_n 0, 1, 0, 0, 0, 0), (.sipush 600, 3, 0, 0, 600, 0), (.newarray .int, 2, 0, 0, 0, 0), (.putfield 20, 3, 12, 9, 0, 0)]
theorem srX12_init_16_ok : qsg cX12_init 12 1 true 16 srX12_init_16 = true := by decide +kernel
def srX12_init_25 : List qEl := [(.aload_n 0, 1, 0, 0, 0, 0), (.bipush 100, 2, 0, 0, 100, 0), (.newarray .int, 2, 0, 0, 0, 0), (.putfield 23, 3, 12, 10, 0, 0)]
theorem srX12_init_25_ok : qsg cX12_init 12 1 true 25 srX12_init_25 = true := by decide +kernel
def srX12_init_33 : List qEl := [(.aload_n 0, 1, 0, 0, 0, 0), (.bipush 100, 2, 0, 0, 100, 0), (.newarray .int, 2, 0, 0, 0, 0), (.putfield 26, 3, 12, 11, 0, 0)]
theorem srX12_init_33_ok : qsg cX12_init 12 1 true 33 srX12_init_33 = true := by decide +kernel
def srX12_init_41 : List qEl := [(.aload_n 0, 1, 0, 0, 0, 0), (.bipush 32, 2, 0, 0, 32, 0), (.newarray .int, 2, 0, 0, 0, 0), (.putfield 29, 3, 12, 12, 0, 0)]
theorem srX12_init_41_ok : qsg cX12_init 12 1 true 41 srX12_init_41 = true := by decide +kernel
def srX12_init_49 : List qEl := [(.aload_n 0, 1, 0, 0, 0, 0), (.bipush 32, 2, 0, 0, 32, 0), (.newarray .int, 2, 0, 0, 0, 0), (.putfield 32, 3, 12, 13, 0, 0)]
theorem srX12_init_49_ok : qsg cX12_init 12 1 true 49 srX12_init_49 = true := by decide +kernel
def srX12_init_57 : List qEl := [(.aload_n 0, 1, 0, 0, 0, 0), (.sipush 150, 3, 0, 0, 150, 0), (.newarray .int, 2, 0, 0, 0, 0), (.putfield 35, 3, 12, 24, 0, 0)]
theorem srX12_init_57_ok : qsg cX12_init 12 1 true 57 srX12_init_57 = true := by decide +kernel
def srX12_init_66 : List qEl := [(.aload_n 0, 1, 0, 0, 0, 0), (.sipush 150, 3, 0, 0, 150, 0), (.newarray .int, 2, 0, 0, 0, 0), (.putfield 38, 3, 12, 25, 0, 0)]
theorem srX12_init_66_ok : qsg cX12_init 12 1 true 66 srX12_init_66 = true := by decide +kernel
def srX12_init_75 : List qEl := [(.aload_n 0, 1, 0, 0, 0, 0), (.sipush 300, 3, 0, 0, 300, 0), (.newarray .int, 2, 0, 0, 0, 0), (.putfield 41, 3, 12, 26, 0, 0)]
theorem srX12_init_75_ok : qsg cX12_init 12 1 true 75 srX12_init_75 = true := by decide +kernel
def srX12_init_84 : List qEl := [(.aload_n 0, 1, 0, 0, 0, 0), (.sipush 300, 3, 0, 0, 300, 0), (.newarray .int, 2, 0, 0, 0, 0), (.putfield 44, 3, 12, 27, 0, 0)]
theorem srX12_init_84_ok : qsg cX12_init 12 1 true 84 srX12_init_84 = true := by decide +kernel
def srX12_init_93 : List qEl := [(.aload_n 0, 1, 0, 0, 0, 0), (.iconst 2, 1, 0, 0, 2, 0), (.newarray .int, 2, 0, 0, 0, 0), (.putfield 47, 3, 12, 28, 0, 0)]
theorem srX12_init_93_ok : qsg cX12_init 12 1 true 93 srX12_init_93 = true := by decide +kernel
def srX12_init_100 : List qEl := [(.aload_n 0, 1, 0, 0, 0, 0), (.sipush 150, 3, 0, 0, 150, 0), (.newarray .int, 2, 0, 0, 0, 0), (.putfield 50, 3, 12, 29, 0, 0)]
theorem srX12_init_100_ok : qsg cX12_init 12 1 true 100 srX12_init_100 = true := by decide +kernel
def srX12_init_109 : List qEl := [(.aload_n 0, 1, 0, 0, 0, 0), (.bipush 10, 2, 0, 0, 10, 0), (.newarray .int, 2, 0, 0, 0, 0), (.putfield 53, 3, 12, 31, 0, 0)]
theorem srX12_init_109_ok : qsg cX12_init 12 1 true 109 srX12_init_109 = true := by decide +kernel
def srX12_init_117 : List qEl := [(.aload_n 0, 1, 0, 0, 0, 0), (.bipush 30, 2, 0, 0, 30, 0), (.newarray .int, 2, 0, 0, 0, 0), (.putfield 56, 3, 12, 32, 0, 0)]
theorem srX12_init_117_ok : qsg cX12_init 12 1 true 117 srX12_init_117 = true := by decide +kernel
def srX12_init_125 : List qEl := [(.aload_n 0, 1, 0, 0, 0, 0), (.bipush 30, 2, 0, 0, 30, 0), (.newarray .int, 2, 0, 0, 0, 0), (.putfield 59, 3, 12, 33, 0, 0)]
theorem srX12_init_125_ok : qsg cX12_init 12 1 true 125 srX12_init_125 = true := by decide +kernel
def srX12_init_133 : List qEl := [(.aload_n 0, 1, 0, 0, 0, 0), (.bipush 16, 2, 0, 0, 16, 0), (.newarray .int, 2, 0, 0, 0, 0), (.putfield 62, 3, 12, 34, 0, 0)]
theorem srX12_init_133_ok : qsg cX12_init 12 1 true 133 srX12_init_133 = true := by decide +kernel
def srX12_init_141 : List qEl := [(.aload_n 0, 1, 0, 0, 0, 0), (.bipush 16, 2, 0, 0, 16, 0), (.newarray .int, 2, 0, 0, 0, 0), (.putfield 65, 3, 12, 35, 0, 0)]
theorem srX12_init_141_ok : qsg cX12_init 12 1 true 141 srX12_init_141 = true := by decide +kernel
def srX12_init_149 : List qEl := [(.aload_n 0, 1, 0, 0, 0, 0), (.ldc 68, 2, 0, 0, 92352, 0), (.newarray .long, 2, 0, 0, 0, 0), (.putfield 69, 3, 12, 43, 0, 0)]
theorem srX12_init_149_ok : qsg cX12_init 12 1 true 149 srX12_init_149 = true := by decide +kernel
def srX12_init_157 : List qEl := [(.aload_n 0, 1, 0, 0, 0, 0), (.bipush 95, 2, 0, 0, 95, 0), (.newarray .long, 2, 0, 0, 0, 0), (.putfield 73, 3, 12, 44, 0, 0)]
theorem srX12_init_157_ok : qsg cX12_init 12 1 true 157 srX12_init_157 = true := by decide +kernel
def srX12_init_165 : List qEl := [(.aload_n 0, 1, 0, 0, 0, 0), (.bipush 95, 2, 0, 0, 95, 0), (.newarray .int, 2, 0, 0, 0, 0), (.putfield 76, 3, 12, 45, 0, 0)]
theorem srX12_init_165_ok : qsg cX12_init 12 1 true 165 srX12_init_165 = true := by decide +kernel
def srX12_init_173 : List qEl := [(.aload_n 0, 1, 0, 0, 0, 0), (.iconst 5, 1, 0, 0, 5, 0), (.newarray .int, 2, 0, 0, 0, 0), (.putfield 79, 3, 12, 46, 0, 0)]
theorem srX12_init_173_ok : qsg cX12_init 12 1 true 173 srX12_init_173 = true := by decide +kernel
def srX12_init_180 : List qEl := [(.aload_n 0, 1, 0, 0, 0, 0), (.bipush 32, 2, 0, 0, 32, 0), (.newarray .int, 2, 0, 0, 0, 0), (.putfield 82, 3, 12, 47, 0, 0)]
theorem srX12_init_180_ok : qsg cX12_init 12 1 true 180 srX12_init_180 = true := by decide +kernel
def srX12_init_188 : List qEl := [(.aload_n 0, 1, 0, 0, 0, 0), (.bipush 32, 2, 0, 0, 32, 0), (.newarray .boolean, 2, 0, 0, 0, 0), (.putfield 85, 3, 12, 48, 0, 0)]
theorem srX12_init_188_ok : qsg cX12_init 12 1 true 188 srX12_init_188 = true := by decide +kernel
def srX12_init_196 : List qEl := [(.aload_n 0, 1, 0, 0, 0, 0), (.bipush 10, 2, 0, 0, 10, 0), (.newarray .int, 2, 0, 0, 0, 0), (.putfield 89, 3, 12, 55, 0, 0)]
theorem srX12_init_196_ok : qsg cX12_init 12 1 true 196 srX12_init_196 = true := by decide +kernel
def srX12_init_204 : List qEl := [(.aload_n 0, 1, 0, 0, 0, 0), (.bipush 121, 2, 0, 0, 121, 0), (.newarray .int, 2, 0, 0, 0, 0), (.putfield 92, 3, 12, 56, 0, 0)]
theorem srX12_init_204_ok : qsg cX12_init 12 1 true 204 srX12_init_204 = true := by decide +kernel
def srX12_init_212 : List qEl := [(.aload_n 0, 1, 0, 0, 0, 0), (.bipush 7, 2, 0, 0, 7, 0), (.newarray .int, 2, 0, 0, 0, 0), (.putfield 95, 3, 12, 58, 0, 0)]
theorem srX12_init_212_ok : qsg cX12_init 12 1 true 212 srX12_init_212 = true := by decide +kernel
def srX12_init_220 : List qEl := [(.aload_n 0, 1, 0, 0, 0, 0), (.sipush 2640, 3, 0, 0, 2640, 0), (.newarray .int, 2, 0, 0, 0, 0), (.putfield 98, 3, 12, 61, 0, 0)]
theorem srX12_init_220_ok : qsg cX12_init 12 1 true 220 srX12_init_220 = true := by decide +kernel
def srX12_init_229 : List qEl := [(.aload_n 0, 1, 0, 0, 0, 0), (.sipush 8319, 3, 0, 0, 8319, 0), (.newarray .int, 2, 0, 0, 0, 0), (.putfield 101, 3, 12, 63, 0, 0)]
theorem srX12_init_229_ok : qsg cX12_init 12 1 true 229 srX12_init_229 = true := by decide +kernel
def srX12_init_238 : List qEl := [(.aload_n 0, 1, 0, 0, 0, 0), (.invokevirtual 104, 3, 0, 0, 0, 0), (.aload_n 0, 1, 0, 0, 0, 0), (.invokevirtual 107, 3, 0, 0, 0, 0), (.return_, 1, 0, 0, 0, 0)]
theorem srX12_init_238_ok : qsg cX12_init 12 1 true 238 srX12_init_238 = true := by decide +kernel
end QCUT
