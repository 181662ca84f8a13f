theorem inJ6 : ∀ w ∈ wsJ60, w ∈ lw_tbl := by decide +kernel
theorem inJ9 : ∀ w ∈ wsJ90, w ∈ lw_tbl := by decide +kernel
theorem inJ10 : ∀ w ∈ wsJ100, w ∈ lw_tbl := by decide +kernel
theorem dX0_init_0 : decode cX0_init 0 = .ok (.aload_n 0, 1) := by decide +kernel
theorem dX0_init_1 : decode cX0_init 1 = .ok (.invokespecial 3, 3) := by decide +kernel
theorem dX0_init_4 : decode cX0_init 4 = .ok (.aload_n 0, 1) := by decide +kernel
theorem dX0_init_5 : decode cX0_init 5 = .ok (.aload_n 1, 1) := by decide +kernel
theorem dX0_init_6 : decode cX0_init 6 = .ok (.putfield 9, 3) := by decide +kernel
theorem dX0_init_9 : decode cX0_init 9 = .ok (.return_, 1) := by decide +kernel
set_option maxRecDepth 20000 in
theorem ggX0_isFound_X4_copyFrom : GoodIn wsX0_isFound wsX4_copyFrom := goodIn_r _ [15, 16, 17, 18, 19, 20, 21, 22, 23, 24, 25, 26, 27, 28, 29, 30, 31, 32, 33, 34, 35, 36, 37, 38, 39, 40, 41, 42, 43, 44, 45, 46, 47, 48, 49, 50, 51, 52, 53, 54, 55, 56, 57, 58, 59, 60, 61, 62, 63, 64, 65, 66, 67, 230, 231, 232, 233, 234, 235, 236, 237, 238, 239, 240, 241, 242, 243, 244, 245, 246, 247, 248, 249, 250, 251, 252, 253, 254, 255, 256, 257, 258, 259, 260, 261] (by decide +kernel) (by decide +kernel)
set_option maxRecDepth 20000 in
theorem gX0_isFound_X4_copyFrom : GoodIn wsX0_isFound (wsV RX0 15 RX4 yX4_copyFrom wsX4_copyFrom) := goodIn_app (goodIn_of _ (by decide +kernel)) ggX0_isFound_X4_copyFrom
set_option maxRecDepth 20000 in
theorem ggX0_isFound_X4_isLost : GoodIn wsX0_isFound wsX4_isLost := goodIn_r _ [71, 21, 230, 231, 232, 233, 234, 235, 236, 237, 238, 239, 240, 241, 242, 243] (by decide +kernel) (by decide +kernel)
set_option maxRecDepth 20000 in
theorem gX0_isFound_X4_isLost : GoodIn wsX0_isFound (wsV RX0 25 RX4 yX4_isLost wsX4_isLost) := goodIn_app (goodIn_of _ (by decide +kernel)) ggX0_isFound_X4_isLost
set_option maxRecDepth 20000 in
theorem ggX0_isFound_X3_bitsOf : GoodIn wsX0_isFound wsX3_bitsOf := goodIn_r _ [75, 67, 65, 253, 254, 255, 256, 257, 258, 259, 260, 261] (by decide +kernel) (by decide +kernel)
set_option maxRecDepth 20000 in
theorem gX0_isFound_X3_bitsOf : GoodIn wsX0_isFound (wsV RX0 33 RX3 yX3_bitsOf wsX3_bitsOf) := goodIn_app (goodIn_of _ (by decide +kernel)) ggX0_isFound_X3_bitsOf
set_option maxRecDepth 20000 in
theorem ggX0_isFound_X4_passHour : GoodIn wsX0_isFound wsX4_passHour := goodIn_r _ [79, 80, 19, 23, 24, 81, 82, 83, 84, 85, 86, 87, 88, 8, 89, 90, 91, 92, 93, 94, 95, 14, 96, 97, 18, 98, 99, 26, 100, 101, 102, 103, 104, 105, 106, 20, 107, 108, 109, 110, 111, 112, 113, 114, 56, 115, 58, 60, 116, 117, 118, 119, 120, 22, 25, 121, 122, 123, 124, 125, 66, 63, 126, 127, 128, 129, 65, 62, 130, 131, 132, 133, 21, 134, 135, 136, 137, 138, 17, 139, 27, 140, 141, 142, 143, 144, 7, 9, 145, 146, 147, 148, 16, 149, 150, 151, 152, 32, 153, 41, 34, 154, 155, 156, 45, 157, 158, 159, 160, 161, 51, 162, 163, 164, 165, 166, 167, 168, 169, 170, 171, 172, 173, 174, 52, 175, 176, 177, 178, 49, 179, 180, 181, 182, 50, 183, 184, 185, 186, 47, 187, 188, 189, 190, 230, 231, 232, 233, 234, 235, 236, 237, 238, 239, 240, 241, 242, 243, 262, 263, 264, 253, 254, 255, 256, 257, 258, 259, 260, 261, 248, 249, 250, 251, 252, 244, 245, 246, 247] (by decide +kernel) (by decide +kernel)
set_option maxRecDepth 20000 in
theorem gX0_isFound_X4_passHour : GoodIn wsX0_isFound (wsV RX0 39 RX4 yX4_passHour wsX4_passHour) := goodIn_app (goodIn_of _ (by decide +kernel)) ggX0_isFound_X4_passHour
set_option maxRecDepth 20000 in
theorem ggX0_isFound_X0_findLeast : GoodIn wsX0_isFound wsX0_findLeast := goodIn_r _ [195, 196, 197, 198, 88, 8, 89, 10, 2, 199, 91, 92, 200, 201, 146, 147, 14, 148, 80, 97, 16, 149, 150, 151, 152, 32, 153, 41, 34, 100, 101, 102, 202, 163, 164, 165, 166, 167, 168, 203, 204, 205, 206, 40, 39, 207, 208, 209, 210, 194, 211, 212, 213, 214, 215, 84, 216, 217, 218, 219, 220, 108, 109, 110, 111, 87, 90, 221, 222, 223, 224, 225, 230, 231, 232, 233, 234, 235, 236, 237, 238, 239, 240, 241, 242, 243, 244, 245, 246, 247, 226, 227, 228, 229, 262, 263, 264] (by decide +kernel) (by decide +kernel)
set_option maxRecDepth 20000 in
theorem gX0_isFound_X0_findLeast : GoodIn wsX0_isFound (wsV RX0 54 RX0 yX0_findLeast wsX0_findLeast) := goodIn_app (goodIn_of _ (by decide +kernel)) ggX0_isFound_X0_findLeast
theorem dX0_isFound_0 : decode cX0_isFound 0 = .ok (.aload_n 0, 1) := by decide +kernel
theorem dX0_isFound_1 : decode cX0_isFound 1 = .ok (.getfield 9, 3) := by decide +kernel
theorem dX0_isFound_4 : decode cX0_isFound 4 = .ok (.aload_n 1, 1) := by decide +kernel
theorem dX0_isFound_5 : decode cX0_isFound 5 = .ok (.invokevirtual 15, 3) := by decide +kernel
theorem dX0_isFound_8 : decode cX0_isFound 8 = .ok (.aload_n 1, 1) := by decide +kernel
theorem dX0_isFound_9 : decode cX0_isFound 9 = .ok (.getfield 21, 3) := by decide +kernel
theorem dX0_isFound_12 : decode cX0_isFound 12 = .ok (.istore_n 2, 1) := by decide +kernel
theorem dX0_isFound_13 : decode cX0_isFound 13 = .ok (.iload_n 2, 1) := by decide +kernel
theorem dX0_isFound_14 : decode cX0_isFound 14 = .ok (.bipush 96, 2) := by decide +kernel
theorem dX0_isFound_16 : decode cX0_isFound 16 = .ok (.if_icmp .ge 51, 3) := by decide +kernel
theorem dX0_isFound_19 : decode cX0_isFound 19 = .ok (.aload_n 0, 1) := by decide +kernel
theorem dX0_isFound_20 : decode cX0_isFound 20 = .ok (.getfield 9, 3) := by decide +kernel
theorem dX0_isFound_23 : decode cX0_isFound 23 = .ok (.invokevirtual 25, 3) := by decide +kernel
theorem dX0_isFound_26 : decode cX0_isFound 26 = .ok (.ifCond .ne 41, 3) := by decide +kernel
theorem dX0_isFound_29 : decode cX0_isFound 29 = .ok (.aload_n 0, 1) := by decide +kernel
theorem dX0_isFound_30 : decode cX0_isFound 30 = .ok (.getfield 9, 3) := by decide +kernel
theorem dX0_isFound_33 : decode cX0_isFound 33 = .ok (.getfield 29, 3) := by decide +kernel
theorem dX0_isFound_36 : decode cX0_isFound 36 = .ok (.iconst 1, 1) := by decide +kernel
theorem dX0_isFound_37 : decode cX0_isFound 37 = .ok (.invokevirtual 33, 3) := by decide +kernel
theorem dX0_isFound_40 : decode cX0_isFound 40 = .ok (.ifCond .eq 27, 3) := by decide +kernel
theorem dX0_isFound_43 : decode cX0_isFound 43 = .ok (.aload_n 0, 1) := by decide +kernel
theorem dX0_isFound_44 : decode cX0_isFound 44 = .ok (.getfield 9, 3) := by decide +kernel
theorem dX0_isFound_47 : decode cX0_isFound 47 = .ok (.aload_n 0, 1) := by decide +kernel
theorem dX0_isFound_48 : decode cX0_isFound 48 = .ok (.getfield 9, 3) := by decide +kernel
theorem dX0_isFound_51 : decode cX0_isFound 51 = .ok (.getfield 29, 3) := by decide +kernel
theorem dX0_isFound_54 : decode cX0_isFound 54 = .ok (.iconst 1, 1) := by decide +kernel
theorem dX0_isFound_55 : decode cX0_isFound 55 = .ok (.invokevirtual 33, 3) := by decide +kernel
theorem dX0_isFound_58 : decode cX0_isFound 58 = .ok (.invokevirtual 39, 3) := by decide +kernel
theorem dX0_isFound_61 : decode cX0_isFound 61 = .ok (.iinc 2 1, 3) := by decide +kernel
theorem dX0_isFound_64 : decode cX0_isFound 64 = .ok (.goto (-51), 3) := by decide +kernel
theorem dX0_isFound_67 : decode cX0_isFound 67 = .ok (.aload_n 0, 1) := by decide +kernel
theorem dX0_isFound_68 : decode cX0_isFound 68 = .ok (.getfield 9, 3) := by decide +kernel
theorem dX0_isFound_71 : decode cX0_isFound 71 = .ok (.invokevirtual 25, 3) := by decide +kernel
theorem dX0_isFound_74 : decode cX0_isFound 74 = .ok (.ifCond .ne 17, 3) := by decide +kernel
theorem dX0_isFound_77 : decode cX0_isFound 77 = .ok (.aload_n 0, 1) := by decide +kernel
theorem dX0_isFound_78 : decode cX0_isFound 78 = .ok (.getfield 9, 3) := by decide +kernel
theorem dX0_isFound_81 : decode cX0_isFound 81 = .ok (.getfield 29, 3) := by decide +kernel
theorem dX0_isFound_84 : decode cX0_isFound 84 = .ok (.iconst 1, 1) := by decide +kernel
theorem dX0_isFound_85 : decode cX0_isFound 85 = .ok (.invokevirtual 33, 3) := by decide +kernel
theorem dX0_isFound_88 : decode cX0_isFound 88 = .ok (.ifCond .eq 5, 3) := by decide +kernel
theorem dX0_isFound_91 : decode cX0_isFound 91 = .ok (.iconst 0, 1) := by decide +kernel
theorem dX0_isFound_92 : decode cX0_isFound 92 = .ok (.ireturn, 1) := by decide +kernel
theorem dX0_isFound_93 : decode cX0_isFound 93 = .ok (.aload_n 0, 1) := by decide +kernel
theorem dX0_isFound_94 : decode cX0_isFound 94 = .ok (.aload_n 0, 1) := by decide +kernel
theorem dX0_isFound_95 : decode cX0_isFound 95 = .ok (.getfield 9, 3) := by decide +kernel
theorem dX0_isFound_98 : decode cX0_isFound 98 = .ok (.getfield 21, 3) := by decide +kernel
theorem dX0_isFound_101 : decode cX0_isFound 101 = .ok (.putfield 43, 3) := by decide +kernel
theorem dX0_isFound_104 : decode cX0_isFound 104 = .ok (.aload_n 0, 1) := by decide +kernel
theorem dX0_isFound_105 : decode cX0_isFound 105 = .ok (.aload_n 1, 1) := by decide +kernel
theorem dX0_isFound_106 : decode cX0_isFound 106 = .ok (.aload_n 0, 1) := by decide +kernel
theorem dX0_isFound_107 : decode cX0_isFound 107 = .ok (.getfield 43, 3) := by decide +kernel
theorem dX0_isFound_110 : decode cX0_isFound 110 = .ok (.aload_n 0, 1) := by decide +kernel
theorem dX0_isFound_111 : decode cX0_isFound 111 = .ok (.getfield 9, 3) := by decide +kernel
theorem dX0_isFound_114 : decode cX0_isFound 114 = .ok (.getfield 46, 3) := by decide +kernel
theorem dX0_isFound_117 : decode cX0_isFound 117 = .ok (.invokestatic 49, 3) := by decide +kernel
theorem dX0_isFound_120 : decode cX0_isFound 120 = .ok (.iadd, 1) := by decide +kernel
theorem dX0_isFound_121 : decode cX0_isFound 121 = .ok (.invokevirtual 54, 3) := by decide +kernel
theorem dX0_isFound_124 : decode cX0_isFound 124 = .ok (.aload_n 0, 1) := by decide +kernel
theorem dX0_isFound_125 : decode cX0_isFound 125 = .ok (.getfield 58, 3) := by decide +kernel
theorem dX0_isFound_128 : decode cX0_isFound 128 = .ok (.bipush 96, 2) := by decide +kernel
theorem dX0_isFound_130 : decode cX0_isFound 130 = .ok (.if_icmp .ge 7, 3) := by decide +kernel
theorem dX0_isFound_133 : decode cX0_isFound 133 = .ok (.iconst 1, 1) := by decide +kernel
theorem dX0_isFound_134 : decode cX0_isFound 134 = .ok (.goto 4, 3) := by decide +kernel
theorem dX0_isFound_137 : decode cX0_isFound 137 = .ok (.iconst 0, 1) := by decide +kernel
theorem dX0_isFound_138 : decode cX0_isFound 138 = .ok (.ireturn, 1) := by decide +kernel
set_option maxRecDepth 20000 in
theorem ggX0_findLeast_X4_total : GoodIn wsX0_findLeast wsX4_total := goodIn_r _ [17, 18, 19, 20, 21, 22, 23, 24, 25, 26, 27, 28, 29, 30, 31, 72, 73, 74, 75, 76, 77, 78, 79, 80, 81, 82, 83, 84, 85, 94, 95, 96, 86, 87, 88, 89] (by decide +kernel) (by decide +kernel)
set_option maxRecDepth 20000 in
theorem gX0_findLeast_X4_total : GoodIn wsX0_findLeast (wsV RX0 59 RX4 yX4_total wsX4_total) := goodIn_app (goodIn_of _ (by decide +kernel)) ggX0_findLeast_X4_total
set_option maxRecDepth 20000 in
theorem ggX0_findLeast_J6_bitCount_0f7a4 : GoodIn wsX0_findLeast wsJ6_bitCount_0f7a4 := goodIn_r _ [35, 36, 37, 38] (by decide +kernel) (by decide +kernel)
set_option maxRecDepth 20000 in
theorem gX0_findLeast_J6_bitCount_0f7a4 : GoodIn wsX0_findLeast (va_wsS RX0 72 yJ6_bitCount_0f7a4 wsJ6_bitCount_0f7a4) := goodIn_app (goodIn_of _ (by decide +kernel)) ggX0_findLeast_J6_bitCount_0f7a4
set_option maxRecDepth 20000 in
theorem ggX0_findLeast_X7_mayComeIn : GoodIn wsX0_findLeast wsX7_mayComeIn := goodIn_r _ [42, 43, 27, 44, 29, 30, 31, 86, 87, 88, 89] (by decide +kernel) (by decide +kernel)
set_option maxRecDepth 20000 in
theorem gX0_findLeast_X7_mayComeIn : GoodIn wsX0_findLeast (wsV RX0 81 RX7 yX7_mayComeIn wsX7_mayComeIn) := goodIn_app (goodIn_of _ (by decide +kernel)) ggX0_findLeast_X7_mayComeIn
set_option maxRecDepth 20000 in
theorem ggX0_findLeast_X7_weightOf : GoodIn wsX0_findLeast wsX7_weightOf := goodIn_r _ [26, 27, 28, 29, 30, 31, 86, 87, 88, 89] (by decide +kernel) (by decide +kernel)
set_option maxRecDepth 20000 in
theorem gX0_findLeast_X7_weightOf : GoodIn wsX0_findLeast (wsV RX0 92 RX7 yX7_weightOf wsX7_weightOf) := goodIn_app (goodIn_of _ (by decide +kernel)) ggX0_findLeast_X7_weightOf
set_option maxRecDepth 20000 in
theorem ggX0_findLeast_X0_firstHour : GoodIn wsX0_findLeast wsX0_firstHour := goodIn_r _ [50, 51, 7, 52, 53, 54, 55, 56, 57, 58, 30, 59, 60, 61, 62, 63, 64, 65, 4, 5, 6, 66, 10, 11, 94, 95, 96, 90, 91, 92, 93] (by decide +kernel) (by decide +kernel)
set_option maxRecDepth 20000 in
theorem gX0_findLeast_X0_firstHour : GoodIn wsX0_findLeast (wsV RX0 95 RX0 yX0_firstHour wsX0_firstHour) := goodIn_app (goodIn_of _ (by decide +kernel)) ggX0_findLeast_X0_firstHour
set_option maxRecDepth 20000 in
theorem ggX0_findLeast_X0_takeIfSooner : GoodIn wsX0_findLeast wsX0_takeIfSooner := goodIn_r _ [70, 7, 71, 90, 91, 92, 93] (by decide +kernel) (by decide +kernel)
set_option maxRecDepth 20000 in
theorem gX0_findLeast_X0_takeIfSooner : GoodIn wsX0_findLeast (wsV RX0 99 RX0 yX0_takeIfSooner wsX0_takeIfSooner) := goodIn_app (goodIn_of _ (by decide +kernel)) ggX0_findLeast_X0_takeIfSooner
theorem dX0_findLeast_0 : decode cX0_findLeast 0 = .ok (.aload_n 1, 1) := by decide +kernel
theorem dX0_findLeast_1 : decode cX0_findLeast 1 = .ok (.invokevirtual 59, 3) := by decide +kernel
theorem dX0_findLeast_4 : decode cX0_findLeast 4 = .ok (.istore_n 3, 1) := by decide +kernel
theorem dX0_findLeast_5 : decode cX0_findLeast 5 = .ok (.aload_n 1, 1) := by decide +kernel
theorem dX0_findLeast_6 : decode cX0_findLeast 6 = .ok (.getfield 63, 3) := by decide +kernel
theorem dX0_findLeast_9 : decode cX0_findLeast 9 = .ok (.getfield 67, 3) := by decide +kernel
theorem dX0_findLeast_12 : decode cX0_findLeast 12 = .ok (.istore 4, 2) := by decide +kernel
theorem dX0_findLeast_14 : decode cX0_findLeast 14 = .ok (.iconst 1, 1) := by decide +kernel
theorem dX0_findLeast_15 : decode cX0_findLeast 15 = .ok (.iload 4, 2) := by decide +kernel
theorem dX0_findLeast_17 : decode cX0_findLeast 17 = .ok (.invokestatic 72, 3) := by decide +kernel
theorem dX0_findLeast_20 : decode cX0_findLeast 20 = .ok (.bipush 8, 2) := by decide +kernel
theorem dX0_findLeast_22 : decode cX0_findLeast 22 = .ok (.invokestatic 77, 3) := by decide +kernel
theorem dX0_findLeast_25 : decode cX0_findLeast 25 = .ok (.ishl, 1) := by decide +kernel
theorem dX0_findLeast_26 : decode cX0_findLeast 26 = .ok (.istore 5, 2) := by decide +kernel
theorem dX0_findLeast_28 : decode cX0_findLeast 28 = .ok (.iconst 0, 1) := by decide +kernel
theorem dX0_findLeast_29 : decode cX0_findLeast 29 = .ok (.istore 6, 2) := by decide +kernel
theorem dX0_findLeast_31 : decode cX0_findLeast 31 = .ok (.aload_n 0, 1) := by decide +kernel
theorem dX0_findLeast_32 : decode cX0_findLeast 32 = .ok (.bipush 96, 2) := by decide +kernel
theorem dX0_findLeast_34 : decode cX0_findLeast 34 = .ok (.putfield 58, 3) := by decide +kernel
theorem dX0_findLeast_37 : decode cX0_findLeast 37 = .ok (.iconst 0, 1) := by decide +kernel
theorem dX0_findLeast_38 : decode cX0_findLeast 38 = .ok (.istore 7, 2) := by decide +kernel
theorem dX0_findLeast_40 : decode cX0_findLeast 40 = .ok (.iload 7, 2) := by decide +kernel
theorem dX0_findLeast_42 : decode cX0_findLeast 42 = .ok (.iload 5, 2) := by decide +kernel
theorem dX0_findLeast_44 : decode cX0_findLeast 44 = .ok (.if_icmp .ge 74, 3) := by decide +kernel
theorem dX0_findLeast_47 : decode cX0_findLeast 47 = .ok (.aload_n 1, 1) := by decide +kernel
theorem dX0_findLeast_48 : decode cX0_findLeast 48 = .ok (.getfield 63, 3) := by decide +kernel
theorem dX0_findLeast_51 : decode cX0_findLeast 51 = .ok (.iload 6, 2) := by decide +kernel
theorem dX0_findLeast_53 : decode cX0_findLeast 53 = .ok (.invokevirtual 81, 3) := by decide +kernel
theorem dX0_findLeast_56 : decode cX0_findLeast 56 = .ok (.ifCond .eq 46, 3) := by decide +kernel
theorem dX0_findLeast_59 : decode cX0_findLeast 59 = .ok (.iload_n 2, 1) := by decide +kernel
theorem dX0_findLeast_60 : decode cX0_findLeast 60 = .ok (.aload_n 1, 1) := by decide +kernel
theorem dX0_findLeast_61 : decode cX0_findLeast 61 = .ok (.getfield 21, 3) := by decide +kernel
theorem dX0_findLeast_64 : decode cX0_findLeast 64 = .ok (.iload 6, 2) := by decide +kernel
theorem dX0_findLeast_66 : decode cX0_findLeast 66 = .ok (.invokestatic 72, 3) := by decide +kernel
theorem dX0_findLeast_69 : decode cX0_findLeast 69 = .ok (.iadd, 1) := by decide +kernel
theorem dX0_findLeast_70 : decode cX0_findLeast 70 = .ok (.invokestatic 85, 3) := by decide +kernel
theorem dX0_findLeast_73 : decode cX0_findLeast 73 = .ok (.istore 8, 2) := by decide +kernel
theorem dX0_findLeast_75 : decode cX0_findLeast 75 = .ok (.aload_n 0, 1) := by decide +kernel
theorem dX0_findLeast_76 : decode cX0_findLeast 76 = .ok (.iload 6, 2) := by decide +kernel
theorem dX0_findLeast_78 : decode cX0_findLeast 78 = .ok (.aload_n 0, 1) := by decide +kernel
theorem dX0_findLeast_79 : decode cX0_findLeast 79 = .ok (.aload_n 1, 1) := by decide +kernel
theorem dX0_findLeast_80 : decode cX0_findLeast 80 = .ok (.getfield 88, 3) := by decide +kernel
theorem dX0_findLeast_83 : decode cX0_findLeast 83 = .ok (.iload_n 3, 1) := by decide +kernel
theorem dX0_findLeast_84 : decode cX0_findLeast 84 = .ok (.aload_n 1, 1) := by decide +kernel
theorem dX0_findLeast_85 : decode cX0_findLeast 85 = .ok (.getfield 63, 3) := by decide +kernel
theorem dX0_findLeast_88 : decode cX0_findLeast 88 = .ok (.iload 6, 2) := by decide +kernel
theorem dX0_findLeast_90 : decode cX0_findLeast 90 = .ok (.invokevirtual 92, 3) := by decide +kernel
theorem dX0_findLeast_93 : decode cX0_findLeast 93 = .ok (.iadd, 1) := by decide +kernel
theorem dX0_findLeast_94 : decode cX0_findLeast 94 = .ok (.iload 8, 2) := by decide +kernel
theorem dX0_findLeast_96 : decode cX0_findLeast 96 = .ok (.invokevirtual 95, 3) := by decide +kernel
theorem dX0_findLeast_99 : decode cX0_findLeast 99 = .ok (.invokevirtual 99, 3) := by decide +kernel
theorem dX0_findLeast_102 : decode cX0_findLeast 102 = .ok (.iload 6, 2) := by decide +kernel
theorem dX0_findLeast_104 : decode cX0_findLeast 104 = .ok (.iload 4, 2) := by decide +kernel
theorem dX0_findLeast_106 : decode cX0_findLeast 106 = .ok (.isub, 1) := by decide +kernel
theorem dX0_findLeast_107 : decode cX0_findLeast 107 = .ok (.iload 4, 2) := by decide +kernel
theorem dX0_findLeast_109 : decode cX0_findLeast 109 = .ok (.iand, 1) := by decide +kernel
theorem dX0_findLeast_110 : decode cX0_findLeast 110 = .ok (.istore 6, 2) := by decide +kernel
theorem dX0_findLeast_112 : decode cX0_findLeast 112 = .ok (.iinc 7 1, 3) := by decide +kernel
theorem dX0_findLeast_115 : decode cX0_findLeast 115 = .ok (.goto (-75), 3) := by decide +kernel
theorem dX0_findLeast_118 : decode cX0_findLeast 118 = .ok (.return_, 1) := by decide +kernel
theorem dX0_takeIfSooner_0 : decode cX0_takeIfSooner 0 = .ok (.iload_n 2, 1) := by decide +kernel
theorem dX0_takeIfSooner_1 : decode cX0_takeIfSooner 1 = .ok (.aload_n 0, 1) := by decide +kernel
theorem dX0_takeIfSooner_2 : decode cX0_takeIfSooner 2 = .ok (.getfield 58, 3) := by decide +kernel
theorem dX0_takeIfSooner_5 : decode cX0_takeIfSooner 5 = .ok (.if_icmp .ge 13, 3) := by decide +kernel
theorem dX0_takeIfSooner_8 : decode cX0_takeIfSooner 8 = .ok (.aload_n 0, 1) := by decide +kernel
theorem dX0_takeIfSooner_9 : decode cX0_takeIfSooner 9 = .ok (.iload_n 2, 1) := by decide +kernel
theorem dX0_takeIfSooner_10 : decode cX0_takeIfSooner 10 = .ok (.putfield 58, 3) := by decide +kernel
theorem dX0_takeIfSooner_13 : decode cX0_takeIfSooner 13 = .ok (.aload_n 0, 1) := by decide +kernel
theorem dX0_takeIfSooner_14 : decode cX0_takeIfSooner 14 = .ok (.iload_n 1, 1) := by decide +kernel
theorem dX0_takeIfSooner_15 : decode cX0_takeIfSooner 15 = .ok (.putfield 103, 3) := by decide +kernel
theorem dX0_takeIfSooner_18 : decode cX0_takeIfSooner 18 = .ok (.return_, 1) := by decide +kernel
set_option maxRecDepth 20000 in
theorem ggX0_firstHour_X5_tideNeeded : GoodIn wsX0_firstHour wsX5_tideNeeded := goodIn_r _ [7, 8, 9, 10, 11, 24, 25, 26] (by decide +kernel) (by decide +kernel)
set_option maxRecDepth 20000 in
theorem gX0_firstHour_X5_tideNeeded : GoodIn wsX0_firstHour (wsV RX0 111 RX5 yX5_tideNeeded wsX5_tideNeeded) := goodIn_app (goodIn_of _ (by decide +kernel)) ggX0_firstHour_X5_tideNeeded
set_option maxRecDepth 20000 in
theorem ggX0_firstHour_X5_tideIn : GoodIn wsX0_firstHour wsX5_tideIn := goodIn_r _ [15, 16, 17, 18, 19, 20, 21, 22, 23, 24, 25, 26] (by decide +kernel) (by decide +kernel)
set_option maxRecDepth 20000 in
theorem gX0_firstHour_X5_tideIn : GoodIn wsX0_firstHour (wsV RX0 114 RX5 yX5_tideIn wsX5_tideIn) := goodIn_app (goodIn_of _ (by decide +kernel)) ggX0_firstHour_X5_tideIn
theorem dX0_firstHour_0 : decode cX0_firstHour 0 = .ok (.iload_n 2, 1) := by decide +kernel
theorem dX0_firstHour_1 : decode cX0_firstHour 1 = .ok (.aload_n 1, 1) := by decide +kernel
theorem dX0_firstHour_2 : decode cX0_firstHour 2 = .ok (.getfield 105, 3) := by decide +kernel
theorem dX0_firstHour_5 : decode cX0_firstHour 5 = .ok (.iconst 2, 1) := by decide +kernel
theorem dX0_firstHour_6 : decode cX0_firstHour 6 = .ok (.iaload, 1) := by decide +kernel
theorem dX0_firstHour_7 : decode cX0_firstHour 7 = .ok (.if_icmp .ge 6, 3) := by decide +kernel
theorem dX0_firstHour_10 : decode cX0_firstHour 10 = .ok (.bipush 96, 2) := by decide +kernel
theorem dX0_firstHour_12 : decode cX0_firstHour 12 = .ok (.ireturn, 1) := by decide +kernel
theorem dX0_firstHour_13 : decode cX0_firstHour 13 = .ok (.aload_n 1, 1) := by decide +kernel
theorem dX0_firstHour_14 : decode cX0_firstHour 14 = .ok (.iload_n 2, 1) := by decide +kernel
theorem dX0_firstHour_15 : decode cX0_firstHour 15 = .ok (.invokevirtual 111, 3) := by decide +kernel
theorem dX0_firstHour_18 : decode cX0_firstHour 18 = .ok (.istore 4, 2) := by decide +kernel
theorem dX0_firstHour_20 : decode cX0_firstHour 20 = .ok (.iload_n 3, 1) := by decide +kernel
theorem dX0_firstHour_21 : decode cX0_firstHour 21 = .ok (.istore 5, 2) := by decide +kernel
theorem dX0_firstHour_23 : decode cX0_firstHour 23 = .ok (.iload 5, 2) := by decide +kernel
theorem dX0_firstHour_25 : decode cX0_firstHour 25 = .ok (.aload_n 0, 1) := by decide +kernel
theorem dX0_firstHour_26 : decode cX0_firstHour 26 = .ok (.getfield 58, 3) := by decide +kernel
theorem dX0_firstHour_29 : decode cX0_firstHour 29 = .ok (.if_icmp .ge 20, 3) := by decide +kernel
theorem dX0_firstHour_32 : decode cX0_firstHour 32 = .ok (.aload_n 1, 1) := by decide +kernel
theorem dX0_firstHour_33 : decode cX0_firstHour 33 = .ok (.iload 5, 2) := by decide +kernel
theorem dX0_firstHour_35 : decode cX0_firstHour 35 = .ok (.invokevirtual 114, 3) := by decide +kernel
theorem dX0_firstHour_38 : decode cX0_firstHour 38 = .ok (.iload 4, 2) := by decide +kernel
theorem dX0_firstHour_40 : decode cX0_firstHour 40 = .ok (.if_icmp .ge 9, 3) := by decide +kernel
theorem dX0_firstHour_43 : decode cX0_firstHour 43 = .ok (.iinc 5 1, 3) := by decide +kernel
theorem dX0_firstHour_46 : decode cX0_firstHour 46 = .ok (.goto (-23), 3) := by decide +kernel
theorem dX0_firstHour_49 : decode cX0_firstHour 49 = .ok (.iload 5, 2) := by decide +kernel
theorem dX0_firstHour_51 : decode cX0_firstHour 51 = .ok (.ireturn, 1) := by decide +kernel
theorem dX1_init_0 : decode cX1_init 0 = .ok (.aload_n 0, 1) := by decide +kernel
theorem dX1_init_1 : decode cX1_init 1 = .ok (.invokespecial 3, 3) := by decide +kernel
theorem dX1_init_4 : decode cX1_init 4 = .ok (.aload_n 0, 1) := by decide +kernel
theorem dX1_init_5 : decode cX1_init 5 = .ok (.bipush 30, 2) := by decide +kernel
theorem dX1_init_7 : decode cX1_init 7 = .ok (.newarray .int, 2) := by decide +kernel
theorem dX1_init_9 : decode cX1_init 9 = .ok (.putfield 9, 3) := by decide +kernel
theorem dX1_init_12 : decode cX1_init 12 = .ok (.iconst 0, 1) := by decide +kernel
theorem dX1_init_13 : decode cX1_init 13 = .ok (.istore_n 1, 1) := by decide +kernel
theorem dX1_init_14 : decode cX1_init 14 = .ok (.iload_n 1, 1) := by decide +kernel
theorem dX1_init_15 : decode cX1_init 15 = .ok (.bipush 30, 2) := by decide +kernel
theorem dX1_init_17 : decode cX1_init 17 = .ok (.if_icmp .ge 16, 3) := by decide +kernel
theorem dX1_init_20 : decode cX1_init 20 = .ok (.aload_n 0, 1) := by decide +kernel
theorem dX1_init_21 : decode cX1_init 21 = .ok (.getfield 9, 3) := by decide +kernel
theorem dX1_init_24 : decode cX1_init 24 = .ok (.iload_n 1, 1) := by decide +kernel
theorem dX1_init_25 : decode cX1_init 25 = .ok (.iconst (-1), 1) := by decide +kernel
theorem dX1_init_26 : decode cX1_init 26 = .ok (.iastore, 1) := by decide +kernel
theorem dX1_init_27 : decode cX1_init 27 = .ok (.iinc 1 1, 3) := by decide +kernel
theorem dX1_init_30 : decode cX1_init 30 = .ok (.goto (-16), 3) := by decide +kernel
theorem dX1_init_33 : decode cX1_init 33 = .ok (.return_, 1) := by decide +kernel
theorem dX1_least_0 : decode cX1_least 0 = .ok (.iconst 0, 1) := by decide +kernel
theorem dX1_least_1 : decode cX1_least 1 = .ok (.istore_n 2, 1) := by decide +kernel
theorem dX1_least_2 : decode cX1_least 2 = .ok (.iconst 0, 1) := by decide +kernel
theorem dX1_least_3 : decode cX1_least 3 = .ok (.istore_n 3, 1) := by decide +kernel
theorem dX1_least_4 : decode cX1_least 4 = .ok (.iload_n 3, 1) := by decide +kernel
theorem dX1_least_5 : decode cX1_least 5 = .ok (.iload_n 1, 1) := by decide +kernel
theorem dX1_least_6 : decode cX1_least 6 = .ok (.if_icmp .ge 27, 3) := by decide +kernel
theorem dX1_least_9 : decode cX1_least 9 = .ok (.iload_n 2, 1) := by decide +kernel
theorem dX1_least_10 : decode cX1_least 10 = .ok (.aload_n 0, 1) := by decide +kernel
theorem dX1_least_11 : decode cX1_least 11 = .ok (.getfield 9, 3) := by decide +kernel
theorem dX1_least_14 : decode cX1_least 14 = .ok (.iload_n 3, 1) := by decide +kernel
theorem dX1_least_15 : decode cX1_least 15 = .ok (.iaload, 1) := by decide +kernel
theorem dX1_least_16 : decode cX1_least 16 = .ok (.iconst 1, 1) := by decide +kernel
theorem dX1_least_17 : decode cX1_least 17 = .ok (.if_icmp .ne 7, 3) := by decide +kernel
theorem dX1_least_20 : decode cX1_least 20 = .ok (.iconst 1, 1) := by decide +kernel
theorem dX1_least_21 : decode cX1_least 21 = .ok (.goto 4, 3) := by decide +kernel
theorem dX1_least_24 : decode cX1_least 24 = .ok (.iconst 0, 1) := by decide +kernel
theorem dX1_least_25 : decode cX1_least 25 = .ok (.iadd, 1) := by decide +kernel
theorem dX1_least_26 : decode cX1_least 26 = .ok (.istore_n 2, 1) := by decide +kernel
theorem dX1_least_27 : decode cX1_least 27 = .ok (.iinc 3 1, 3) := by decide +kernel
theorem dX1_least_30 : decode cX1_least 30 = .ok (.goto (-26), 3) := by decide +kernel
theorem dX1_least_33 : decode cX1_least 33 = .ok (.iload_n 2, 1) := by decide +kernel
theorem dX1_least_34 : decode cX1_least 34 = .ok (.ireturn, 1) := by decide +kernel
theorem dX1_most_0 : decode cX1_most 0 = .ok (.iconst 0, 1) := by decide +kernel
theorem dX1_most_1 : decode cX1_most 1 = .ok (.istore_n 2, 1) := by decide +kernel
theorem dX1_most_2 : decode cX1_most 2 = .ok (.iconst 0, 1) := by decide +kernel
theorem dX1_most_3 : decode cX1_most 3 = .ok (.istore_n 3, 1) := by decide +kernel
theorem dX1_most_4 : decode cX1_most 4 = .ok (.iload_n 3, 1) := by decide +kernel
theorem dX1_most_5 : decode cX1_most 5 = .ok (.iload_n 1, 1) := by decide +kernel
theorem dX1_most_6 : decode cX1_most 6 = .ok (.if_icmp .ge 26, 3) := by decide +kernel
theorem dX1_most_9 : decode cX1_most 9 = .ok (.iload_n 2, 1) := by decide +kernel
theorem dX1_most_10 : decode cX1_most 10 = .ok (.aload_n 0, 1) := by decide +kernel
theorem dX1_most_11 : decode cX1_most 11 = .ok (.getfield 9, 3) := by decide +kernel
theorem dX1_most_14 : decode cX1_most 14 = .ok (.iload_n 3, 1) := by decide +kernel
theorem dX1_most_15 : decode cX1_most 15 = .ok (.iaload, 1) := by decide +kernel
theorem dX1_most_16 : decode cX1_most 16 = .ok (.ifCond .ne 7, 3) := by decide +kernel
theorem dX1_most_19 : decode cX1_most 19 = .ok (.iconst 0, 1) := by decide +kernel
theorem dX1_most_20 : decode cX1_most 20 = .ok (.goto 4, 3) := by decide +kernel
theorem dX1_most_23 : decode cX1_most 23 = .ok (.iconst 1, 1) := by decide +kernel
theorem dX1_most_24 : decode cX1_most 24 = .ok (.iadd, 1) := by decide +kernel
theorem dX1_most_25 : decode cX1_most 25 = .ok (.istore_n 2, 1) := by decide +kernel
theorem dX1_most_26 : decode cX1_most 26 = .ok (.iinc 3 1, 3) := by decide +kernel
theorem dX1_most_29 : decode cX1_most 29 = .ok (.goto (-25), 3) := by decide +kernel
theorem dX1_most_32 : decode cX1_most 32 = .ok (.iload_n 2, 1) := by decide +kernel
theorem dX1_most_33 : decode cX1_most 33 = .ok (.ireturn, 1) := by decide +kernel
theorem dX1_leastRuns_0 : decode cX1_leastRuns 0 = .ok (.iconst 0, 1) := by decide +kernel
theorem dX1_leastRuns_1 : decode cX1_leastRuns 1 = .ok (.istore_n 2, 1) := by decide +kernel
theorem dX1_leastRuns_2 : decode cX1_leastRuns 2 = .ok (.iconst 0, 1) := by decide +kernel
theorem dX1_leastRuns_3 : decode cX1_leastRuns 3 = .ok (.istore_n 3, 1) := by decide +kernel
theorem dX1_leastRuns_4 : decode cX1_leastRuns 4 = .ok (.iconst 0, 1) := by decide +kernel
theorem dX1_leastRuns_5 : decode cX1_leastRuns 5 = .ok (.istore 4, 2) := by decide +kernel
theorem dX1_leastRuns_7 : decode cX1_leastRuns 7 = .ok (.iload 4, 2) := by decide +kernel
theorem dX1_leastRuns_9 : decode cX1_leastRuns 9 = .ok (.iload_n 1, 1) := by decide +kernel
theorem dX1_leastRuns_10 : decode cX1_leastRuns 10 = .ok (.if_icmp .ge 58, 3) := by decide +kernel
theorem dX1_leastRuns_13 : decode cX1_leastRuns 13 = .ok (.aload_n 0, 1) := by decide +kernel
theorem dX1_leastRuns_14 : decode cX1_leastRuns 14 = .ok (.getfield 9, 3) := by decide +kernel
theorem dX1_leastRuns_17 : decode cX1_leastRuns 17 = .ok (.iload 4, 2) := by decide +kernel
theorem dX1_leastRuns_19 : decode cX1_leastRuns 19 = .ok (.iaload, 1) := by decide +kernel
theorem dX1_leastRuns_20 : decode cX1_leastRuns 20 = .ok (.iconst 1, 1) := by decide +kernel
theorem dX1_leastRuns_21 : decode cX1_leastRuns 21 = .ok (.if_icmp .ne 10, 3) := by decide +kernel
theorem dX1_leastRuns_24 : decode cX1_leastRuns 24 = .ok (.iload_n 3, 1) := by decide +kernel
theorem dX1_leastRuns_25 : decode cX1_leastRuns 25 = .ok (.ifCond .ne 6, 3) := by decide +kernel
theorem dX1_leastRuns_28 : decode cX1_leastRuns 28 = .ok (.iinc 2 1, 3) := by decide +kernel
theorem dX1_leastRuns_31 : decode cX1_leastRuns 31 = .ok (.aload_n 0, 1) := by decide +kernel
theorem dX1_leastRuns_32 : decode cX1_leastRuns 32 = .ok (.getfield 9, 3) := by decide +kernel
theorem dX1_leastRuns_35 : decode cX1_leastRuns 35 = .ok (.iload 4, 2) := by decide +kernel
theorem dX1_leastRuns_37 : decode cX1_leastRuns 37 = .ok (.iaload, 1) := by decide +kernel
theorem dX1_leastRuns_38 : decode cX1_leastRuns 38 = .ok (.iconst 1, 1) := by decide +kernel
theorem dX1_leastRuns_39 : decode cX1_leastRuns 39 = .ok (.if_icmp .eq 17, 3) := by decide +kernel
theorem dX1_leastRuns_42 : decode cX1_leastRuns 42 = .ok (.aload_n 0, 1) := by decide +kernel
theorem dX1_leastRuns_43 : decode cX1_leastRuns 43 = .ok (.getfield 9, 3) := by decide +kernel
theorem dX1_leastRuns_46 : decode cX1_leastRuns 46 = .ok (.iload 4, 2) := by decide +kernel
theorem dX1_leastRuns_48 : decode cX1_leastRuns 48 = .ok (.iaload, 1) := by decide +kernel
theorem dX1_leastRuns_49 : decode cX1_leastRuns 49 = .ok (.ifCond .eq 11, 3) := by decide +kernel
theorem dX1_leastRuns_52 : decode cX1_leastRuns 52 = .ok (.iload_n 3, 1) := by decide +kernel
theorem dX1_leastRuns_53 : decode cX1_leastRuns 53 = .ok (.ifCond .eq 7, 3) := by decide +kernel
theorem dX1_leastRuns_56 : decode cX1_leastRuns 56 = .ok (.iconst 1, 1) := by decide +kernel
theorem dX1_leastRuns_57 : decode cX1_leastRuns 57 = .ok (.goto 4, 3) := by decide +kernel
theorem dX1_leastRuns_60 : decode cX1_leastRuns 60 = .ok (.iconst 0, 1) := by decide +kernel
theorem dX1_leastRuns_61 : decode cX1_leastRuns 61 = .ok (.istore_n 3, 1) := by decide +kernel
theorem dX1_leastRuns_62 : decode cX1_leastRuns 62 = .ok (.iinc 4 1, 3) := by decide +kernel
theorem dX1_leastRuns_65 : decode cX1_leastRuns 65 = .ok (.goto (-58), 3) := by decide +kernel
theorem dX1_leastRuns_68 : decode cX1_leastRuns 68 = .ok (.iload_n 2, 1) := by decide +kernel
theorem dX1_leastRuns_69 : decode cX1_leastRuns 69 = .ok (.ireturn, 1) := by decide +kernel
theorem dX1_mostRuns_0 : decode cX1_mostRuns 0 = .ok (.bipush (-31), 2) := by decide +kernel
theorem dX1_mostRuns_2 : decode cX1_mostRuns 2 = .ok (.istore_n 2, 1) := by decide +kernel
theorem dX1_mostRuns_3 : decode cX1_mostRuns 3 = .ok (.iload_n 2, 1) := by decide +kernel
theorem dX1_mostRuns_4 : decode cX1_mostRuns 4 = .ok (.istore_n 3, 1) := by decide +kernel
theorem dX1_mostRuns_5 : decode cX1_mostRuns 5 = .ok (.iconst 0, 1) := by decide +kernel
theorem dX1_mostRuns_6 : decode cX1_mostRuns 6 = .ok (.istore 4, 2) := by decide +kernel
theorem dX1_mostRuns_8 : decode cX1_mostRuns 8 = .ok (.iconst 0, 1) := by decide +kernel
theorem dX1_mostRuns_9 : decode cX1_mostRuns 9 = .ok (.istore 5, 2) := by decide +kernel
theorem dX1_mostRuns_11 : decode cX1_mostRuns 11 = .ok (.iload 5, 2) := by decide +kernel
theorem dX1_mostRuns_13 : decode cX1_mostRuns 13 = .ok (.iload_n 1, 1) := by decide +kernel
theorem dX1_mostRuns_14 : decode cX1_mostRuns 14 = .ok (.if_icmp .ge 63, 3) := by decide +kernel
theorem dX1_mostRuns_17 : decode cX1_mostRuns 17 = .ok (.iload_n 3, 1) := by decide +kernel
theorem dX1_mostRuns_18 : decode cX1_mostRuns 18 = .ok (.iload 4, 2) := by decide +kernel
theorem dX1_mostRuns_20 : decode cX1_mostRuns 20 = .ok (.iconst 1, 1) := by decide +kernel
theorem dX1_mostRuns_21 : decode cX1_mostRuns 21 = .ok (.iadd, 1) := by decide +kernel
theorem dX1_mostRuns_22 : decode cX1_mostRuns 22 = .ok (.invokestatic 15, 3) := by decide +kernel
theorem dX1_mostRuns_25 : decode cX1_mostRuns 25 = .ok (.istore 6, 2) := by decide +kernel
theorem dX1_mostRuns_27 : decode cX1_mostRuns 27 = .ok (.iload_n 3, 1) := by decide +kernel
theorem dX1_mostRuns_28 : decode cX1_mostRuns 28 = .ok (.iload 4, 2) := by decide +kernel
theorem dX1_mostRuns_30 : decode cX1_mostRuns 30 = .ok (.invokestatic 15, 3) := by decide +kernel
theorem dX1_mostRuns_33 : decode cX1_mostRuns 33 = .ok (.istore 7, 2) := by decide +kernel
theorem dX1_mostRuns_35 : decode cX1_mostRuns 35 = .ok (.aload_n 0, 1) := by decide +kernel
theorem dX1_mostRuns_36 : decode cX1_mostRuns 36 = .ok (.getfield 9, 3) := by decide +kernel
theorem dX1_mostRuns_39 : decode cX1_mostRuns 39 = .ok (.iload 5, 2) := by decide +kernel
theorem dX1_mostRuns_41 : decode cX1_mostRuns 41 = .ok (.iaload, 1) := by decide +kernel
theorem dX1_mostRuns_42 : decode cX1_mostRuns 42 = .ok (.ifCond .ne 7, 3) := by decide +kernel
theorem dX1_mostRuns_45 : decode cX1_mostRuns 45 = .ok (.iload_n 2, 1) := by decide +kernel
theorem dX1_mostRuns_46 : decode cX1_mostRuns 46 = .ok (.goto 5, 3) := by decide +kernel
theorem dX1_mostRuns_49 : decode cX1_mostRuns 49 = .ok (.iload 6, 2) := by decide +kernel
theorem dX1_mostRuns_51 : decode cX1_mostRuns 51 = .ok (.istore_n 3, 1) := by decide +kernel
theorem dX1_mostRuns_52 : decode cX1_mostRuns 52 = .ok (.aload_n 0, 1) := by decide +kernel
theorem dX1_mostRuns_53 : decode cX1_mostRuns 53 = .ok (.getfield 9, 3) := by decide +kernel
theorem dX1_mostRuns_56 : decode cX1_mostRuns 56 = .ok (.iload 5, 2) := by decide +kernel
theorem dX1_mostRuns_58 : decode cX1_mostRuns 58 = .ok (.iaload, 1) := by decide +kernel
theorem dX1_mostRuns_59 : decode cX1_mostRuns 59 = .ok (.iconst 1, 1) := by decide +kernel
theorem dX1_mostRuns_60 : decode cX1_mostRuns 60 = .ok (.if_icmp .ne 7, 3) := by decide +kernel
theorem dX1_mostRuns_63 : decode cX1_mostRuns 63 = .ok (.iload_n 2, 1) := by decide +kernel
theorem dX1_mostRuns_64 : decode cX1_mostRuns 64 = .ok (.goto 5, 3) := by decide +kernel
theorem dX1_mostRuns_67 : decode cX1_mostRuns 67 = .ok (.iload 7, 2) := by decide +kernel
theorem dX1_mostRuns_69 : decode cX1_mostRuns 69 = .ok (.istore 4, 2) := by decide +kernel
theorem dX1_mostRuns_71 : decode cX1_mostRuns 71 = .ok (.iinc 5 1, 3) := by decide +kernel
theorem dX1_mostRuns_74 : decode cX1_mostRuns 74 = .ok (.goto (-63), 3) := by decide +kernel
theorem dX1_mostRuns_77 : decode cX1_mostRuns 77 = .ok (.iload_n 3, 1) := by decide +kernel
theorem dX1_mostRuns_78 : decode cX1_mostRuns 78 = .ok (.iload 4, 2) := by decide +kernel
theorem dX1_mostRuns_80 : decode cX1_mostRuns 80 = .ok (.invokestatic 15, 3) := by decide +kernel
theorem dX1_mostRuns_83 : decode cX1_mostRuns 83 = .ok (.ireturn, 1) := by decide +kernel
theorem dX2_init_0 : decode cX2_init 0 = .ok (.aload_n 0, 1) := by decide +kernel
theorem dX2_init_1 : decode cX2_init 1 = .ok (.invokespecial 3, 3) := by decide +kernel
theorem dX2_init_4 : decode cX2_init 4 = .ok (.aload_n 0, 1) := by decide +kernel
theorem dX2_init_5 : decode cX2_init 5 = .ok (.iconst 5, 1) := by decide +kernel
theorem dX2_init_6 : decode cX2_init 6 = .ok (.newarray .int, 2) := by decide +kernel
theorem dX2_init_8 : decode cX2_init 8 = .ok (.putfield 9, 3) := by decide +kernel
theorem dX2_init_11 : decode cX2_init 11 = .ok (.aload_n 0, 1) := by decide +kernel
theorem dX2_init_12 : decode cX2_init 12 = .ok (.iconst 5, 1) := by decide +kernel
theorem dX2_init_13 : decode cX2_init 13 = .ok (.newarray .int, 2) := by decide +kernel
theorem dX2_init_15 : decode cX2_init 15 = .ok (.putfield 15, 3) := by decide +kernel
theorem dX2_init_18 : decode cX2_init 18 = .ok (.aload_n 0, 1) := by decide +kernel
theorem dX2_init_19 : decode cX2_init 19 = .ok (.iconst 5, 1) := by decide +kernel
theorem dX2_init_20 : decode cX2_init 20 = .ok (.newarray .int, 2) := by decide +kernel
theorem dX2_init_22 : decode cX2_init 22 = .ok (.putfield 18, 3) := by decide +kernel
theorem dX2_init_25 : decode cX2_init 25 = .ok (.aload_n 0, 1) := by decide +kernel
theorem dX2_init_26 : decode cX2_init 26 = .ok (.iconst 5, 1) := by decide +kernel
theorem dX2_init_27 : decode cX2_init 27 = .ok (.newarray .int, 2) := by decide +kernel
theorem dX2_init_29 : decode cX2_init 29 = .ok (.putfield 21, 3) := by decide +kernel
theorem dX2_init_32 : decode cX2_init 32 = .ok (.aload_n 0, 1) := by decide +kernel
theorem dX2_init_33 : decode cX2_init 33 = .ok (.iconst 5, 1) := by decide +kernel
theorem dX2_init_34 : decode cX2_init 34 = .ok (.newarray .int, 2) := by decide +kernel
theorem dX2_init_36 : decode cX2_init 36 = .ok (.putfield 24, 3) := by decide +kernel
theorem dX2_init_39 : decode cX2_init 39 = .ok (.aload_n 0, 1) := by decide +kernel
theorem dX2_init_40 : decode cX2_init 40 = .ok (.iconst 5, 1) := by decide +kernel
theorem dX2_init_41 : decode cX2_init 41 = .ok (.newarray .long, 2) := by decide +kernel
theorem dX2_init_43 : decode cX2_init 43 = .ok (.putfield 27, 3) := by decide +kernel
theorem dX2_init_46 : decode cX2_init 46 = .ok (.return_, 1) := by decide +kernel
set_option maxRecDepth 20000 in
theorem ggX2_make_X2_gather : GoodIn wsX2_make wsX2_gather := goodIn_r _ [13, 8, 14, 15, 16, 17, 18, 19, 20, 21, 22, 23, 24, 25, 26, 27, 28, 29, 30, 31, 12, 32, 1, 33, 34, 35, 36, 37, 38, 39, 40, 41, 42, 43, 44, 45, 46, 47, 48, 49, 50, 51, 52, 53, 54, 55, 56, 57, 58, 59, 60, 61, 62, 63, 64, 65, 111, 112, 113, 114, 115, 116, 117, 118, 119, 120, 121, 94, 95, 96, 97, 98, 99, 100, 101, 102, 103, 104, 105, 106, 107, 122, 123, 124, 125, 126, 127, 128, 129, 130, 108, 109, 110] (by decide +kernel) (by decide +kernel)
set_option maxRecDepth 20000 in
theorem gX2_make_X2_gather : GoodIn wsX2_make (wsV RX2 31 RX2 yX2_gather wsX2_gather) := goodIn_app (goodIn_of _ (by decide +kernel)) ggX2_make_X2_gather
set_option maxRecDepth 20000 in
theorem ggX2_make_X2_tryOut : GoodIn wsX2_make wsX2_tryOut := goodIn_r _ [69, 8, 14, 70, 17, 6, 7, 71, 5, 72, 73, 74, 75, 76, 77, 78, 79, 80, 81, 82, 83, 25, 84, 29, 85, 86, 87, 12, 88, 20, 19, 89, 90, 91, 92, 4, 93, 111, 112, 113, 114, 115, 116, 117, 118, 119, 120, 121, 94, 95, 96, 97, 98, 99, 100, 101, 102, 103, 104, 105, 106, 107, 122, 123, 124, 125, 126, 127, 128, 129, 130] (by decide +kernel) (by decide +kernel)
set_option maxRecDepth 20000 in
theorem gX2_make_X2_tryOut : GoodIn wsX2_make (wsV RX2 65 RX2 yX2_tryOut wsX2_tryOut) := goodIn_app (goodIn_of _ (by decide +kernel)) ggX2_make_X2_tryOut
theorem dX2_make_0 : decode cX2_make 0 = .ok (.aload_n 0, 1) := by decide +kernel
theorem dX2_make_1 : decode cX2_make 1 = .ok (.aload_n 1, 1) := by decide +kernel
theorem dX2_make_2 : decode cX2_make 2 = .ok (.iload_n 2, 1) := by decide +kernel
theorem dX2_make_3 : decode cX2_make 3 = .ok (.invokevirtual 31, 3) := by decide +kernel
theorem dX2_make_6 : decode cX2_make 6 = .ok (.aload_n 0, 1) := by decide +kernel
theorem dX2_make_7 : decode cX2_make 7 = .ok (.bipush 127, 2) := by decide +kernel
theorem dX2_make_9 : decode cX2_make 9 = .ok (.aload_n 1, 1) := by decide +kernel
theorem dX2_make_10 : decode cX2_make 10 = .ok (.getfield 35, 3) := by decide +kernel
theorem dX2_make_13 : decode cX2_make 13 = .ok (.getfield 41, 3) := by decide +kernel
theorem dX2_make_16 : decode cX2_make 16 = .ok (.iconst 3, 1) := by decide +kernel
theorem dX2_make_17 : decode cX2_make 17 = .ok (.iaload, 1) := by decide +kernel
theorem dX2_make_18 : decode cX2_make 18 = .ok (.isub, 1) := by decide +kernel
theorem dX2_make_19 : decode cX2_make 19 = .ok (.i2l, 1) := by decide +kernel
theorem dX2_make_20 : decode cX2_make 20 = .ok (.ldc2_w 46, 3) := by decide +kernel
theorem dX2_make_23 : decode cX2_make 23 = .ok (.lmul, 1) := by decide +kernel
theorem dX2_make_24 : decode cX2_make 24 = .ok (.putfield 48, 3) := by decide +kernel
theorem dX2_make_27 : decode cX2_make 27 = .ok (.aload_n 0, 1) := by decide +kernel
theorem dX2_make_28 : decode cX2_make 28 = .ok (.iconst 0, 1) := by decide +kernel
theorem dX2_make_29 : decode cX2_make 29 = .ok (.putfield 52, 3) := by decide +kernel
theorem dX2_make_32 : decode cX2_make 32 = .ok (.aload_n 0, 1) := by decide +kernel
theorem dX2_make_33 : decode cX2_make 33 = .ok (.iconst 0, 1) := by decide +kernel
theorem dX2_make_34 : decode cX2_make 34 = .ok (.putfield 56, 3) := by decide +kernel
theorem dX2_make_37 : decode cX2_make 37 = .ok (.aload_n 0, 1) := by decide +kernel
theorem dX2_make_38 : decode cX2_make 38 = .ok (.iconst 0, 1) := by decide +kernel
theorem dX2_make_39 : decode cX2_make 39 = .ok (.putfield 59, 3) := by decide +kernel
theorem dX2_make_42 : decode cX2_make 42 = .ok (.iconst 1, 1) := by decide +kernel
theorem dX2_make_43 : decode cX2_make 43 = .ok (.istore_n 3, 1) := by decide +kernel
theorem dX2_make_44 : decode cX2_make 44 = .ok (.iload_n 3, 1) := by decide +kernel
theorem dX2_make_45 : decode cX2_make 45 = .ok (.iconst 1, 1) := by decide +kernel
theorem dX2_make_46 : decode cX2_make 46 = .ok (.aload_n 0, 1) := by decide +kernel
theorem dX2_make_47 : decode cX2_make 47 = .ok (.getfield 62, 3) := by decide +kernel
theorem dX2_make_50 : decode cX2_make 50 = .ok (.ishl, 1) := by decide +kernel
theorem dX2_make_51 : decode cX2_make 51 = .ok (.if_icmp .ge 15, 3) := by decide +kernel
theorem dX2_make_54 : decode cX2_make 54 = .ok (.aload_n 0, 1) := by decide +kernel
theorem dX2_make_55 : decode cX2_make 55 = .ok (.iload_n 3, 1) := by decide +kernel
theorem dX2_make_56 : decode cX2_make 56 = .ok (.aload_n 1, 1) := by decide +kernel
theorem dX2_make_57 : decode cX2_make 57 = .ok (.invokevirtual 65, 3) := by decide +kernel
theorem dX2_make_60 : decode cX2_make 60 = .ok (.iinc 3 1, 3) := by decide +kernel
theorem dX2_make_63 : decode cX2_make 63 = .ok (.goto (-19), 3) := by decide +kernel
theorem dX2_make_66 : decode cX2_make 66 = .ok (.return_, 1) := by decide +kernel
set_option maxRecDepth 20000 in
theorem ggX2_gather_X3_hoursLacking : GoodIn wsX2_gather wsX3_hoursLacking := goodIn_r _ [14, 15, 16, 17, 81, 82, 83, 84, 85, 86, 87, 88, 89] (by decide +kernel) (by decide +kernel)
set_option maxRecDepth 20000 in
theorem gX2_gather_X3_hoursLacking : GoodIn wsX2_gather (wsV RX2 79 RX3 yX3_hoursLacking wsX3_hoursLacking) := goodIn_app (goodIn_of _ (by decide +kernel)) ggX2_gather_X3_hoursLacking
set_option maxRecDepth 20000 in
theorem ggX2_gather_X2_beginnings : GoodIn wsX2_gather wsX2_beginnings := goodIn_r _ [21, 2, 22, 23, 10, 11, 12, 13, 14, 15, 16, 17, 24, 25, 26, 27, 28, 29, 30, 31, 32, 33, 34, 35, 36, 37, 38, 39, 40, 41, 42, 43, 44, 45, 46, 47, 48, 49, 50, 51, 52, 53, 54, 55, 67, 68, 69, 70, 71, 72, 73, 74, 75, 76, 77, 78, 79, 80, 81, 82, 83, 84, 85, 86, 87, 88, 89, 90, 91, 92] (by decide +kernel) (by decide +kernel)
set_option maxRecDepth 20000 in
theorem gX2_gather_X2_beginnings : GoodIn wsX2_gather (va_wsS RX2 83 yX2_beginnings wsX2_beginnings) := goodIn_app (goodIn_of _ (by decide +kernel)) ggX2_gather_X2_beginnings
theorem dX2_gather_0 : decode cX2_gather 0 = .ok (.aload_n 0, 1) := by decide +kernel
theorem dX2_gather_1 : decode cX2_gather 1 = .ok (.iconst 0, 1) := by decide +kernel
theorem dX2_gather_2 : decode cX2_gather 2 = .ok (.putfield 62, 3) := by decide +kernel
theorem dX2_gather_5 : decode cX2_gather 5 = .ok (.iconst 0, 1) := by decide +kernel
theorem dX2_gather_6 : decode cX2_gather 6 = .ok (.istore_n 3, 1) := by decide +kernel
theorem dX2_gather_7 : decode cX2_gather 7 = .ok (.iload_n 3, 1) := by decide +kernel
theorem dX2_gather_8 : decode cX2_gather 8 = .ok (.aload_n 1, 1) := by decide +kernel
theorem dX2_gather_9 : decode cX2_gather 9 = .ok (.getfield 69, 3) := by decide +kernel
theorem dX2_gather_12 : decode cX2_gather 12 = .ok (.getfield 73, 3) := by decide +kernel
theorem dX2_gather_15 : decode cX2_gather 15 = .ok (.if_icmp .ge 143, 3) := by decide +kernel
theorem dX2_gather_18 : decode cX2_gather 18 = .ok (.aload_n 0, 1) := by decide +kernel
theorem dX2_gather_19 : decode cX2_gather 19 = .ok (.getfield 62, 3) := by decide +kernel
theorem dX2_gather_22 : decode cX2_gather 22 = .ok (.iconst 5, 1) := by decide +kernel
theorem dX2_gather_23 : decode cX2_gather 23 = .ok (.if_icmp .ge 135, 3) := by decide +kernel
theorem dX2_gather_26 : decode cX2_gather 26 = .ok (.aload_n 1, 1) := by decide +kernel
theorem dX2_gather_27 : decode cX2_gather 27 = .ok (.getfield 69, 3) := by decide +kernel
theorem dX2_gather_30 : decode cX2_gather 30 = .ok (.getfield 76, 3) := by decide +kernel
theorem dX2_gather_33 : decode cX2_gather 33 = .ok (.iload_n 3, 1) := by decide +kernel
theorem dX2_gather_34 : decode cX2_gather 34 = .ok (.iaload, 1) := by decide +kernel
theorem dX2_gather_35 : decode cX2_gather 35 = .ok (.iconst 2, 1) := by decide +kernel
theorem dX2_gather_36 : decode cX2_gather 36 = .ok (.if_icmp .eq 116, 3) := by decide +kernel
theorem dX2_gather_39 : decode cX2_gather 39 = .ok (.aload_n 0, 1) := by decide +kernel
theorem dX2_gather_40 : decode cX2_gather 40 = .ok (.getfield 9, 3) := by decide +kernel
theorem dX2_gather_43 : decode cX2_gather 43 = .ok (.aload_n 0, 1) := by decide +kernel
theorem dX2_gather_44 : decode cX2_gather 44 = .ok (.getfield 62, 3) := by decide +kernel
theorem dX2_gather_47 : decode cX2_gather 47 = .ok (.iload_n 3, 1) := by decide +kernel
theorem dX2_gather_48 : decode cX2_gather 48 = .ok (.iastore, 1) := by decide +kernel
theorem dX2_gather_49 : decode cX2_gather 49 = .ok (.aload_n 0, 1) := by decide +kernel
theorem dX2_gather_50 : decode cX2_gather 50 = .ok (.getfield 15, 3) := by decide +kernel
theorem dX2_gather_53 : decode cX2_gather 53 = .ok (.aload_n 0, 1) := by decide +kernel
theorem dX2_gather_54 : decode cX2_gather 54 = .ok (.getfield 62, 3) := by decide +kernel
theorem dX2_gather_57 : decode cX2_gather 57 = .ok (.aload_n 1, 1) := by decide +kernel
theorem dX2_gather_58 : decode cX2_gather 58 = .ok (.getfield 69, 3) := by decide +kernel
theorem dX2_gather_61 : decode cX2_gather 61 = .ok (.iload_n 3, 1) := by decide +kernel
theorem dX2_gather_62 : decode cX2_gather 62 = .ok (.invokevirtual 79, 3) := by decide +kernel
theorem dX2_gather_65 : decode cX2_gather 65 = .ok (.iastore, 1) := by decide +kernel
theorem dX2_gather_66 : decode cX2_gather 66 = .ok (.aload_n 0, 1) := by decide +kernel
theorem dX2_gather_67 : decode cX2_gather 67 = .ok (.getfield 18, 3) := by decide +kernel
theorem dX2_gather_70 : decode cX2_gather 70 = .ok (.aload_n 0, 1) := by decide +kernel
theorem dX2_gather_71 : decode cX2_gather 71 = .ok (.getfield 62, 3) := by decide +kernel
theorem dX2_gather_74 : decode cX2_gather 74 = .ok (.aload_n 1, 1) := by decide +kernel
theorem dX2_gather_75 : decode cX2_gather 75 = .ok (.iload_n 3, 1) := by decide +kernel
theorem dX2_gather_76 : decode cX2_gather 76 = .ok (.iload_n 2, 1) := by decide +kernel
theorem dX2_gather_77 : decode cX2_gather 77 = .ok (.invokestatic 83, 3) := by decide +kernel
theorem dX2_gather_80 : decode cX2_gather 80 = .ok (.iastore, 1) := by decide +kernel
theorem dX2_gather_81 : decode cX2_gather 81 = .ok (.aload_n 0, 1) := by decide +kernel
theorem dX2_gather_82 : decode cX2_gather 82 = .ok (.getfield 27, 3) := by decide +kernel
theorem dX2_gather_85 : decode cX2_gather 85 = .ok (.aload_n 0, 1) := by decide +kernel
theorem dX2_gather_86 : decode cX2_gather 86 = .ok (.getfield 62, 3) := by decide +kernel
theorem dX2_gather_89 : decode cX2_gather 89 = .ok (.lconst 0, 1) := by decide +kernel
theorem dX2_gather_90 : decode cX2_gather 90 = .ok (.lastore, 1) := by decide +kernel
theorem dX2_gather_91 : decode cX2_gather 91 = .ok (.iconst 0, 1) := by decide +kernel
theorem dX2_gather_92 : decode cX2_gather 92 = .ok (.istore 4, 2) := by decide +kernel
theorem dX2_gather_94 : decode cX2_gather 94 = .ok (.iload 4, 2) := by decide +kernel
theorem dX2_gather_96 : decode cX2_gather 96 = .ok (.aload_n 0, 1) := by decide +kernel
theorem dX2_gather_97 : decode cX2_gather 97 = .ok (.getfield 15, 3) := by decide +kernel
theorem dX2_gather_100 : decode cX2_gather 100 = .ok (.aload_n 0, 1) := by decide +kernel
theorem dX2_gather_101 : decode cX2_gather 101 = .ok (.getfield 62, 3) := by decide +kernel
theorem dX2_gather_104 : decode cX2_gather 104 = .ok (.iaload, 1) := by decide +kernel
theorem dX2_gather_105 : decode cX2_gather 105 = .ok (.if_icmp .ge 37, 3) := by decide +kernel
theorem dX2_gather_108 : decode cX2_gather 108 = .ok (.aload_n 0, 1) := by decide +kernel
theorem dX2_gather_109 : decode cX2_gather 109 = .ok (.getfield 27, 3) := by decide +kernel
theorem dX2_gather_112 : decode cX2_gather 112 = .ok (.aload_n 0, 1) := by decide +kernel
theorem dX2_gather_113 : decode cX2_gather 113 = .ok (.getfield 62, 3) := by decide +kernel
theorem dX2_gather_116 : decode cX2_gather 116 = .ok (.dup2, 1) := by decide +kernel
theorem dX2_gather_117 : decode cX2_gather 117 = .ok (.laload, 1) := by decide +kernel
theorem dX2_gather_118 : decode cX2_gather 118 = .ok (.aload_n 1, 1) := by decide +kernel
theorem dX2_gather_119 : decode cX2_gather 119 = .ok (.getfield 69, 3) := by decide +kernel
theorem dX2_gather_122 : decode cX2_gather 122 = .ok (.getfield 87, 3) := by decide +kernel
theorem dX2_gather_125 : decode cX2_gather 125 = .ok (.iload_n 3, 1) := by decide +kernel
theorem dX2_gather_126 : decode cX2_gather 126 = .ok (.iaload, 1) := by decide +kernel
theorem dX2_gather_127 : decode cX2_gather 127 = .ok (.i2l, 1) := by decide +kernel
theorem dX2_gather_128 : decode cX2_gather 128 = .ok (.bipush 8, 2) := by decide +kernel
theorem dX2_gather_130 : decode cX2_gather 130 = .ok (.iload 4, 2) := by decide +kernel
theorem dX2_gather_132 : decode cX2_gather 132 = .ok (.imul, 1) := by decide +kernel
theorem dX2_gather_133 : decode cX2_gather 133 = .ok (.lshl, 1) := by decide +kernel
theorem dX2_gather_134 : decode cX2_gather 134 = .ok (.lor, 1) := by decide +kernel
theorem dX2_gather_135 : decode cX2_gather 135 = .ok (.lastore, 1) := by decide +kernel
theorem dX2_gather_136 : decode cX2_gather 136 = .ok (.iinc 4 1, 3) := by decide +kernel
theorem dX2_gather_139 : decode cX2_gather 139 = .ok (.goto (-45), 3) := by decide +kernel
theorem dX2_gather_142 : decode cX2_gather 142 = .ok (.aload_n 0, 1) := by decide +kernel
theorem dX2_gather_143 : decode cX2_gather 143 = .ok (.dup, 1) := by decide +kernel
theorem dX2_gather_144 : decode cX2_gather 144 = .ok (.getfield 62, 3) := by decide +kernel
theorem dX2_gather_147 : decode cX2_gather 147 = .ok (.iconst 1, 1) := by decide +kernel
theorem dX2_gather_148 : decode cX2_gather 148 = .ok (.iadd, 1) := by decide +kernel
theorem dX2_gather_149 : decode cX2_gather 149 = .ok (.putfield 62, 3) := by decide +kernel
theorem dX2_gather_152 : decode cX2_gather 152 = .ok (.iinc 3 1, 3) := by decide +kernel
theorem dX2_gather_155 : decode cX2_gather 155 = .ok (.goto (-148), 3) := by decide +kernel
theorem dX2_gather_158 : decode cX2_gather 158 = .ok (.return_, 1) := by decide +kernel
set_option maxRecDepth 20000 in
theorem ggX2_beginnings_X3_hoursLacking : GoodIn wsX2_beginnings wsX3_hoursLacking := goodIn_r _ [8, 9, 10, 11, 58, 59, 60, 61, 62, 63, 64, 65, 66] (by decide +kernel) (by decide +kernel)
set_option maxRecDepth 20000 in
theorem gX2_beginnings_X3_hoursLacking : GoodIn wsX2_beginnings (wsV RX2 79 RX3 yX3_hoursLacking wsX3_hoursLacking) := goodIn_app (goodIn_of _ (by decide +kernel)) ggX2_beginnings_X3_hoursLacking
set_option maxRecDepth 20000 in
theorem ggX2_beginnings_X5_rainsIn : GoodIn wsX2_beginnings wsX5_rainsIn := goodIn_r _ [16, 17, 18, 19, 20, 21, 22, 23, 24, 67, 68, 69] (by decide +kernel) (by decide +kernel)
set_option maxRecDepth 20000 in
theorem gX2_beginnings_X5_rainsIn : GoodIn wsX2_beginnings (wsV RX2 92 RX5 yX5_rainsIn wsX5_rainsIn) := goodIn_app (goodIn_of _ (by decide +kernel)) ggX2_beginnings_X5_rainsIn
set_option maxRecDepth 20000 in
theorem ggX2_beginnings_X4_isBare : GoodIn wsX2_beginnings wsX4_isBare := goodIn_r _ [29, 30, 31, 32, 33, 34, 35, 15, 36, 37, 18, 19, 20, 21, 22, 23, 24, 38, 39, 40, 7, 41, 42, 43, 44, 45, 46, 47, 48, 49, 50, 51, 52, 53, 54, 55, 56, 57, 67, 68, 69, 58, 59, 60, 61, 62, 63, 64, 65, 66] (by decide +kernel) (by decide +kernel)
set_option maxRecDepth 20000 in
theorem gX2_beginnings_X4_isBare : GoodIn wsX2_beginnings (wsV RX2 96 RX4 yX4_isBare wsX4_isBare) := goodIn_app (goodIn_of _ (by decide +kernel)) ggX2_beginnings_X4_isBare
theorem dX2_beginnings_0 : decode cX2_beginnings 0 = .ok (.aload_n 0, 1) := by decide +kernel
theorem dX2_beginnings_1 : decode cX2_beginnings 1 = .ok (.getfield 69, 3) := by decide +kernel
theorem dX2_beginnings_4 : decode cX2_beginnings 4 = .ok (.iload_n 1, 1) := by decide +kernel
theorem dX2_beginnings_5 : decode cX2_beginnings 5 = .ok (.invokevirtual 79, 3) := by decide +kernel
theorem dX2_beginnings_8 : decode cX2_beginnings 8 = .ok (.istore_n 3, 1) := by decide +kernel
theorem dX2_beginnings_9 : decode cX2_beginnings 9 = .ok (.iconst 0, 1) := by decide +kernel
theorem dX2_beginnings_10 : decode cX2_beginnings 10 = .ok (.istore 4, 2) := by decide +kernel
theorem dX2_beginnings_12 : decode cX2_beginnings 12 = .ok (.iconst 0, 1) := by decide +kernel
theorem dX2_beginnings_13 : decode cX2_beginnings 13 = .ok (.istore 5, 2) := by decide +kernel
theorem dX2_beginnings_15 : decode cX2_beginnings 15 = .ok (.iconst 0, 1) := by decide +kernel
theorem dX2_beginnings_16 : decode cX2_beginnings 16 = .ok (.istore 6, 2) := by decide +kernel
theorem dX2_beginnings_18 : decode cX2_beginnings 18 = .ok (.iload 6, 2) := by decide +kernel
theorem dX2_beginnings_20 : decode cX2_beginnings 20 = .ok (.iload_n 2, 1) := by decide +kernel
theorem dX2_beginnings_21 : decode cX2_beginnings 21 = .ok (.if_icmp .ge 82, 3) := by decide +kernel
theorem dX2_beginnings_24 : decode cX2_beginnings 24 = .ok (.aload_n 0, 1) := by decide +kernel
theorem dX2_beginnings_25 : decode cX2_beginnings 25 = .ok (.getfield 35, 3) := by decide +kernel
theorem dX2_beginnings_28 : decode cX2_beginnings 28 = .ok (.aload_n 0, 1) := by decide +kernel
theorem dX2_beginnings_29 : decode cX2_beginnings 29 = .ok (.getfield 89, 3) := by decide +kernel
theorem dX2_beginnings_32 : decode cX2_beginnings 32 = .ok (.iload 6, 2) := by decide +kernel
theorem dX2_beginnings_34 : decode cX2_beginnings 34 = .ok (.iadd, 1) := by decide +kernel
theorem dX2_beginnings_35 : decode cX2_beginnings 35 = .ok (.invokevirtual 92, 3) := by decide +kernel
theorem dX2_beginnings_38 : decode cX2_beginnings 38 = .ok (.ifCond .ne 22, 3) := by decide +kernel
theorem dX2_beginnings_41 : decode cX2_beginnings 41 = .ok (.aload_n 0, 1) := by decide +kernel
theorem dX2_beginnings_42 : decode cX2_beginnings 42 = .ok (.iload_n 1, 1) := by decide +kernel
theorem dX2_beginnings_43 : decode cX2_beginnings 43 = .ok (.aload_n 0, 1) := by decide +kernel
theorem dX2_beginnings_44 : decode cX2_beginnings 44 = .ok (.getfield 89, 3) := by decide +kernel
theorem dX2_beginnings_47 : decode cX2_beginnings 47 = .ok (.iload 6, 2) := by decide +kernel
theorem dX2_beginnings_49 : decode cX2_beginnings 49 = .ok (.iadd, 1) := by decide +kernel
theorem dX2_beginnings_50 : decode cX2_beginnings 50 = .ok (.invokevirtual 96, 3) := by decide +kernel
theorem dX2_beginnings_53 : decode cX2_beginnings 53 = .ok (.ifCond .eq 7, 3) := by decide +kernel
theorem dX2_beginnings_56 : decode cX2_beginnings 56 = .ok (.iconst 1, 1) := by decide +kernel
theorem dX2_beginnings_57 : decode cX2_beginnings 57 = .ok (.goto 4, 3) := by decide +kernel
theorem dX2_beginnings_60 : decode cX2_beginnings 60 = .ok (.iconst 0, 1) := by decide +kernel
theorem dX2_beginnings_61 : decode cX2_beginnings 61 = .ok (.istore 7, 2) := by decide +kernel
theorem dX2_beginnings_63 : decode cX2_beginnings 63 = .ok (.iload 7, 2) := by decide +kernel
theorem dX2_beginnings_65 : decode cX2_beginnings 65 = .ok (.ifCond .eq 10, 3) := by decide +kernel
theorem dX2_beginnings_68 : decode cX2_beginnings 68 = .ok (.iload 5, 2) := by decide +kernel
theorem dX2_beginnings_70 : decode cX2_beginnings 70 = .ok (.iconst 1, 1) := by decide +kernel
theorem dX2_beginnings_71 : decode cX2_beginnings 71 = .ok (.iadd, 1) := by decide +kernel
theorem dX2_beginnings_72 : decode cX2_beginnings 72 = .ok (.goto 4, 3) := by decide +kernel
theorem dX2_beginnings_75 : decode cX2_beginnings 75 = .ok (.iconst 0, 1) := by decide +kernel
theorem dX2_beginnings_76 : decode cX2_beginnings 76 = .ok (.istore 5, 2) := by decide +kernel
theorem dX2_beginnings_78 : decode cX2_beginnings 78 = .ok (.iload 5, 2) := by decide +kernel
theorem dX2_beginnings_80 : decode cX2_beginnings 80 = .ok (.iload_n 3, 1) := by decide +kernel
theorem dX2_beginnings_81 : decode cX2_beginnings 81 = .ok (.if_icmp .lt 16, 3) := by decide +kernel
theorem dX2_beginnings_84 : decode cX2_beginnings 84 = .ok (.iload 4, 2) := by decide +kernel
theorem dX2_beginnings_86 : decode cX2_beginnings 86 = .ok (.iconst 1, 1) := by decide +kernel
theorem dX2_beginnings_87 : decode cX2_beginnings 87 = .ok (.iload 6, 2) := by decide +kernel
theorem dX2_beginnings_89 : decode cX2_beginnings 89 = .ok (.iload_n 3, 1) := by decide +kernel
theorem dX2_beginnings_90 : decode cX2_beginnings 90 = .ok (.isub, 1) := by decide +kernel
theorem dX2_beginnings_91 : decode cX2_beginnings 91 = .ok (.iconst 1, 1) := by decide +kernel
theorem dX2_beginnings_92 : decode cX2_beginnings 92 = .ok (.iadd, 1) := by decide +kernel
theorem dX2_beginnings_93 : decode cX2_beginnings 93 = .ok (.ishl, 1) := by decide +kernel
theorem dX2_beginnings_94 : decode cX2_beginnings 94 = .ok (.ior, 1) := by decide +kernel
theorem dX2_beginnings_95 : decode cX2_beginnings 95 = .ok (.istore 4, 2) := by decide +kernel
theorem dX2_beginnings_97 : decode cX2_beginnings 97 = .ok (.iinc 6 1, 3) := by decide +kernel
theorem dX2_beginnings_100 : decode cX2_beginnings 100 = .ok (.goto (-82), 3) := by decide +kernel
theorem dX2_beginnings_103 : decode cX2_beginnings 103 = .ok (.iload 4, 2) := by decide +kernel
theorem dX2_beginnings_105 : decode cX2_beginnings 105 = .ok (.ireturn, 1) := by decide +kernel
set_option maxRecDepth 20000 in
theorem ggX2_tryOut_X8_hasBit : GoodIn wsX2_tryOut wsX8_hasBit := goodIn_r _ [17] (by decide +kernel) (by decide +kernel)
set_option maxRecDepth 20000 in
theorem gX2_tryOut_X8_hasBit_n100 : GoodIn wsX2_tryOut (wsX8_hasBit) := ggX2_tryOut_X8_hasBit
set_option maxRecDepth 20000 in
theorem ggX2_tryOut_X3_pitchLacking : GoodIn wsX2_tryOut wsX3_pitchLacking := goodIn_r _ [22, 23, 24, 62, 63, 64, 65, 66, 67, 68, 69, 70] (by decide +kernel) (by decide +kernel)
set_option maxRecDepth 20000 in
theorem gX2_tryOut_X3_pitchLacking : GoodIn wsX2_tryOut (wsV RX2 105 RX3 yX3_pitchLacking wsX3_pitchLacking) := goodIn_app (goodIn_of _ (by decide +kernel)) ggX2_tryOut_X3_pitchLacking
set_option maxRecDepth 20000 in
theorem ggX2_tryOut_X2_isPlaced : GoodIn wsX2_tryOut wsX2_isPlaced := goodIn_r _ [28, 1, 29, 30, 9, 15, 16, 17, 25, 26, 27, 31, 32, 33, 34, 35, 36, 37, 38, 39, 40, 41, 42, 43, 44, 45, 46, 47] (by decide +kernel) (by decide +kernel)
set_option maxRecDepth 20000 in
theorem gX2_tryOut_X2_isPlaced : GoodIn wsX2_tryOut (va_wsS RX2 109 yX2_isPlaced wsX2_isPlaced) := goodIn_app (goodIn_of _ (by decide +kernel)) ggX2_tryOut_X2_isPlaced
theorem dX2_tryOut_0 : decode cX2_tryOut 0 = .ok (.iconst 0, 1) := by decide +kernel
theorem dX2_tryOut_1 : decode cX2_tryOut 1 = .ok (.istore_n 3, 1) := by decide +kernel
theorem dX2_tryOut_2 : decode cX2_tryOut 2 = .ok (.iconst 0, 1) := by decide +kernel
theorem dX2_tryOut_3 : decode cX2_tryOut 3 = .ok (.istore 4, 2) := by decide +kernel
theorem dX2_tryOut_5 : decode cX2_tryOut 5 = .ok (.iconst 0, 1) := by decide +kernel
theorem dX2_tryOut_6 : decode cX2_tryOut 6 = .ok (.istore 5, 2) := by decide +kernel
theorem dX2_tryOut_8 : decode cX2_tryOut 8 = .ok (.iload 5, 2) := by decide +kernel
theorem dX2_tryOut_10 : decode cX2_tryOut 10 = .ok (.aload_n 0, 1) := by decide +kernel
theorem dX2_tryOut_11 : decode cX2_tryOut 11 = .ok (.getfield 62, 3) := by decide +kernel
theorem dX2_tryOut_14 : decode cX2_tryOut 14 = .ok (.if_icmp .ge 72, 3) := by decide +kernel
theorem dX2_tryOut_17 : decode cX2_tryOut 17 = .ok (.iload_n 3, 1) := by decide +kernel
theorem dX2_tryOut_18 : decode cX2_tryOut 18 = .ok (.iload_n 1, 1) := by decide +kernel
theorem dX2_tryOut_19 : decode cX2_tryOut 19 = .ok (.iload 5, 2) := by decide +kernel
theorem dX2_tryOut_21 : decode cX2_tryOut 21 = .ok (.invokestatic 100, 3) := by decide +kernel
theorem dX2_tryOut_24 : decode cX2_tryOut 24 = .ok (.ifCond .eq 21, 3) := by decide +kernel
theorem dX2_tryOut_27 : decode cX2_tryOut 27 = .ok (.aload_n 2, 1) := by decide +kernel
theorem dX2_tryOut_28 : decode cX2_tryOut 28 = .ok (.getfield 69, 3) := by decide +kernel
theorem dX2_tryOut_31 : decode cX2_tryOut 31 = .ok (.getfield 103, 3) := by decide +kernel
theorem dX2_tryOut_34 : decode cX2_tryOut 34 = .ok (.aload_n 0, 1) := by decide +kernel
theorem dX2_tryOut_35 : decode cX2_tryOut 35 = .ok (.getfield 9, 3) := by decide +kernel
theorem dX2_tryOut_38 : decode cX2_tryOut 38 = .ok (.iload 5, 2) := by decide +kernel
theorem dX2_tryOut_40 : decode cX2_tryOut 40 = .ok (.iaload, 1) := by decide +kernel
theorem dX2_tryOut_41 : decode cX2_tryOut 41 = .ok (.iaload, 1) := by decide +kernel
theorem dX2_tryOut_42 : decode cX2_tryOut 42 = .ok (.goto 4, 3) := by decide +kernel
theorem dX2_tryOut_45 : decode cX2_tryOut 45 = .ok (.iconst 0, 1) := by decide +kernel
theorem dX2_tryOut_46 : decode cX2_tryOut 46 = .ok (.iadd, 1) := by decide +kernel
theorem dX2_tryOut_47 : decode cX2_tryOut 47 = .ok (.istore_n 3, 1) := by decide +kernel
theorem dX2_tryOut_48 : decode cX2_tryOut 48 = .ok (.iload 4, 2) := by decide +kernel
theorem dX2_tryOut_50 : decode cX2_tryOut 50 = .ok (.iload_n 1, 1) := by decide +kernel
theorem dX2_tryOut_51 : decode cX2_tryOut 51 = .ok (.iload 5, 2) := by decide +kernel
theorem dX2_tryOut_53 : decode cX2_tryOut 53 = .ok (.invokestatic 100, 3) := by decide +kernel
theorem dX2_tryOut_56 : decode cX2_tryOut 56 = .ok (.ifCond .eq 20, 3) := by decide +kernel
theorem dX2_tryOut_59 : decode cX2_tryOut 59 = .ok (.aload_n 2, 1) := by decide +kernel
theorem dX2_tryOut_60 : decode cX2_tryOut 60 = .ok (.getfield 69, 3) := by decide +kernel
theorem dX2_tryOut_63 : decode cX2_tryOut 63 = .ok (.aload_n 0, 1) := by decide +kernel
theorem dX2_tryOut_64 : decode cX2_tryOut 64 = .ok (.getfield 9, 3) := by decide +kernel
theorem dX2_tryOut_67 : decode cX2_tryOut 67 = .ok (.iload 5, 2) := by decide +kernel
theorem dX2_tryOut_69 : decode cX2_tryOut 69 = .ok (.iaload, 1) := by decide +kernel
theorem dX2_tryOut_70 : decode cX2_tryOut 70 = .ok (.invokevirtual 105, 3) := by decide +kernel
theorem dX2_tryOut_73 : decode cX2_tryOut 73 = .ok (.goto 4, 3) := by decide +kernel
theorem dX2_tryOut_76 : decode cX2_tryOut 76 = .ok (.iconst 0, 1) := by decide +kernel
theorem dX2_tryOut_77 : decode cX2_tryOut 77 = .ok (.iadd, 1) := by decide +kernel
theorem dX2_tryOut_78 : decode cX2_tryOut 78 = .ok (.istore 4, 2) := by decide +kernel
theorem dX2_tryOut_80 : decode cX2_tryOut 80 = .ok (.iinc 5 1, 3) := by decide +kernel
theorem dX2_tryOut_83 : decode cX2_tryOut 83 = .ok (.goto (-75), 3) := by decide +kernel
theorem dX2_tryOut_86 : decode cX2_tryOut 86 = .ok (.iload_n 3, 1) := by decide +kernel
theorem dX2_tryOut_87 : decode cX2_tryOut 87 = .ok (.aload_n 0, 1) := by decide +kernel
theorem dX2_tryOut_88 : decode cX2_tryOut 88 = .ok (.getfield 56, 3) := by decide +kernel
theorem dX2_tryOut_91 : decode cX2_tryOut 91 = .ok (.if_icmp .gt 20, 3) := by decide +kernel
theorem dX2_tryOut_94 : decode cX2_tryOut 94 = .ok (.iload_n 3, 1) := by decide +kernel
theorem dX2_tryOut_95 : decode cX2_tryOut 95 = .ok (.aload_n 0, 1) := by decide +kernel
theorem dX2_tryOut_96 : decode cX2_tryOut 96 = .ok (.getfield 56, 3) := by decide +kernel
theorem dX2_tryOut_99 : decode cX2_tryOut 99 = .ok (.if_icmp .ne 16, 3) := by decide +kernel
theorem dX2_tryOut_102 : decode cX2_tryOut 102 = .ok (.iload 4, 2) := by decide +kernel
theorem dX2_tryOut_104 : decode cX2_tryOut 104 = .ok (.aload_n 0, 1) := by decide +kernel
theorem dX2_tryOut_105 : decode cX2_tryOut 105 = .ok (.getfield 59, 3) := by decide +kernel
theorem dX2_tryOut_108 : decode cX2_tryOut 108 = .ok (.if_icmp .ge 7, 3) := by decide +kernel
theorem dX2_tryOut_111 : decode cX2_tryOut 111 = .ok (.iconst 1, 1) := by decide +kernel
theorem dX2_tryOut_112 : decode cX2_tryOut 112 = .ok (.goto 4, 3) := by decide +kernel
theorem dX2_tryOut_115 : decode cX2_tryOut 115 = .ok (.iconst 0, 1) := by decide +kernel
theorem dX2_tryOut_116 : decode cX2_tryOut 116 = .ok (.istore 5, 2) := by decide +kernel
theorem dX2_tryOut_118 : decode cX2_tryOut 118 = .ok (.iload 5, 2) := by decide +kernel
theorem dX2_tryOut_120 : decode cX2_tryOut 120 = .ok (.ifCond .eq 52, 3) := by decide +kernel
theorem dX2_tryOut_123 : decode cX2_tryOut 123 = .ok (.iload 4, 2) := by decide +kernel
theorem dX2_tryOut_125 : decode cX2_tryOut 125 = .ok (.aload_n 2, 1) := by decide +kernel
theorem dX2_tryOut_126 : decode cX2_tryOut 126 = .ok (.getfield 108, 3) := by decide +kernel
theorem dX2_tryOut_129 : decode cX2_tryOut 129 = .ok (.if_icmp .gt 43, 3) := by decide +kernel
theorem dX2_tryOut_132 : decode cX2_tryOut 132 = .ok (.aload_n 0, 1) := by decide +kernel
theorem dX2_tryOut_133 : decode cX2_tryOut 133 = .ok (.iload_n 1, 1) := by decide +kernel
theorem dX2_tryOut_134 : decode cX2_tryOut 134 = .ok (.iconst 0, 1) := by decide +kernel
theorem dX2_tryOut_135 : decode cX2_tryOut 135 = .ok (.lconst 0, 1) := by decide +kernel
theorem dX2_tryOut_136 : decode cX2_tryOut 136 = .ok (.invokestatic 109, 3) := by decide +kernel
theorem dX2_tryOut_139 : decode cX2_tryOut 139 = .ok (.ifCond .eq 33, 3) := by decide +kernel
theorem dX2_tryOut_142 : decode cX2_tryOut 142 = .ok (.aload_n 0, 1) := by decide +kernel
theorem dX2_tryOut_143 : decode cX2_tryOut 143 = .ok (.iload_n 1, 1) := by decide +kernel
theorem dX2_tryOut_144 : decode cX2_tryOut 144 = .ok (.putfield 52, 3) := by decide +kernel
theorem dX2_tryOut_147 : decode cX2_tryOut 147 = .ok (.aload_n 0, 1) := by decide +kernel
theorem dX2_tryOut_148 : decode cX2_tryOut 148 = .ok (.iload_n 3, 1) := by decide +kernel
theorem dX2_tryOut_149 : decode cX2_tryOut 149 = .ok (.putfield 56, 3) := by decide +kernel
theorem dX2_tryOut_152 : decode cX2_tryOut 152 = .ok (.aload_n 0, 1) := by decide +kernel
theorem dX2_tryOut_153 : decode cX2_tryOut 153 = .ok (.iload 4, 2) := by decide +kernel
theorem dX2_tryOut_155 : decode cX2_tryOut 155 = .ok (.putfield 59, 3) := by decide +kernel
theorem dX2_tryOut_158 : decode cX2_tryOut 158 = .ok (.aload_n 0, 1) := by decide +kernel
theorem dX2_tryOut_159 : decode cX2_tryOut 159 = .ok (.getfield 21, 3) := by decide +kernel
theorem dX2_tryOut_162 : decode cX2_tryOut 162 = .ok (.iconst 0, 1) := by decide +kernel
theorem dX2_tryOut_163 : decode cX2_tryOut 163 = .ok (.aload_n 0, 1) := by decide +kernel
theorem dX2_tryOut_164 : decode cX2_tryOut 164 = .ok (.getfield 24, 3) := by decide +kernel
theorem dX2_tryOut_167 : decode cX2_tryOut 167 = .ok (.iconst 0, 1) := by decide +kernel
theorem dX2_tryOut_168 : decode cX2_tryOut 168 = .ok (.iconst 5, 1) := by decide +kernel
theorem dX2_tryOut_169 : decode cX2_tryOut 169 = .ok (.invokestatic 113, 3) := by decide +kernel
theorem dX2_tryOut_172 : decode cX2_tryOut 172 = .ok (.return_, 1) := by decide +kernel
set_option maxRecDepth 20000 in
theorem ggX2_isPlaced_X8_hasBit : GoodIn wsX2_isPlaced wsX8_hasBit := goodIn_r _ [7] (by decide +kernel) (by decide +kernel)
set_option maxRecDepth 20000 in
theorem gX2_isPlaced_X8_hasBit_n100 : GoodIn wsX2_isPlaced (wsX8_hasBit) := ggX2_isPlaced_X8_hasBit
set_option maxRecDepth 20000 in
theorem ggX2_isPlaced_X2_isPlaced : GoodIn wsX2_isPlaced wsX2_isPlaced := goodIn_r _ [0, 1, 2, 3, 4, 5, 6, 7, 8, 9, 10, 11, 12, 13, 14, 15, 16, 17, 18, 19, 20, 21, 22, 23, 24, 25, 26, 27] (by decide +kernel) (by decide +kernel)
set_option maxRecDepth 20000 in
theorem gX2_isPlaced_X2_isPlaced : GoodIn wsX2_isPlaced (va_wsS RX2 109 yX2_isPlaced wsX2_isPlaced) := goodIn_app (goodIn_of _ (by decide +kernel)) ggX2_isPlaced_X2_isPlaced
set_option maxRecDepth 20000 in
theorem ggX2_isPlaced_X2_areMenEnough : GoodIn wsX2_isPlaced wsX2_areMenEnough := goodIn_r _ [14, 15, 16, 17, 18, 19, 20, 21, 22, 23, 24, 25, 26, 27] (by decide +kernel) (by decide +kernel)
set_option maxRecDepth 20000 in
theorem gX2_isPlaced_X2_areMenEnough : GoodIn wsX2_isPlaced (wsV RX2 119 RX2 yX2_areMenEnough wsX2_areMenEnough) := goodIn_app (goodIn_of _ (by decide +kernel)) ggX2_isPlaced_X2_areMenEnough
theorem dX2_isPlaced_0 : decode cX2_isPlaced 0 = .ok (.iload_n 2, 1) := by decide +kernel
theorem dX2_isPlaced_1 : decode cX2_isPlaced 1 = .ok (.aload_n 0, 1) := by decide +kernel
theorem dX2_isPlaced_2 : decode cX2_isPlaced 2 = .ok (.getfield 62, 3) := by decide +kernel
theorem dX2_isPlaced_5 : decode cX2_isPlaced 5 = .ok (.if_icmp .ge 8, 3) := by decide +kernel
theorem dX2_isPlaced_8 : decode cX2_isPlaced 8 = .ok (.iload_n 2, 1) := by decide +kernel
theorem dX2_isPlaced_9 : decode cX2_isPlaced 9 = .ok (.iconst 5, 1) := by decide +kernel
theorem dX2_isPlaced_10 : decode cX2_isPlaced 10 = .ok (.if_icmp .lt 5, 3) := by decide +kernel
theorem dX2_isPlaced_13 : decode cX2_isPlaced 13 = .ok (.iconst 1, 1) := by decide +kernel
theorem dX2_isPlaced_14 : decode cX2_isPlaced 14 = .ok (.ireturn, 1) := by decide +kernel
theorem dX2_isPlaced_15 : decode cX2_isPlaced 15 = .ok (.iload_n 1, 1) := by decide +kernel
theorem dX2_isPlaced_16 : decode cX2_isPlaced 16 = .ok (.iload_n 2, 1) := by decide +kernel
theorem dX2_isPlaced_17 : decode cX2_isPlaced 17 = .ok (.invokestatic 100, 3) := by decide +kernel
theorem dX2_isPlaced_20 : decode cX2_isPlaced 20 = .ok (.ifCond .ne 13, 3) := by decide +kernel
theorem dX2_isPlaced_23 : decode cX2_isPlaced 23 = .ok (.aload_n 0, 1) := by decide +kernel
theorem dX2_isPlaced_24 : decode cX2_isPlaced 24 = .ok (.iload_n 1, 1) := by decide +kernel
theorem dX2_isPlaced_25 : decode cX2_isPlaced 25 = .ok (.iload_n 2, 1) := by decide +kernel
theorem dX2_isPlaced_26 : decode cX2_isPlaced 26 = .ok (.iconst 1, 1) := by decide +kernel
theorem dX2_isPlaced_27 : decode cX2_isPlaced 27 = .ok (.iadd, 1) := by decide +kernel
theorem dX2_isPlaced_28 : decode cX2_isPlaced 28 = .ok (.lload_n 3, 1) := by decide +kernel
theorem dX2_isPlaced_29 : decode cX2_isPlaced 29 = .ok (.invokestatic 109, 3) := by decide +kernel
theorem dX2_isPlaced_32 : decode cX2_isPlaced 32 = .ok (.ireturn, 1) := by decide +kernel
theorem dX2_isPlaced_33 : decode cX2_isPlaced 33 = .ok (.iconst 0, 1) := by decide +kernel
theorem dX2_isPlaced_34 : decode cX2_isPlaced 34 = .ok (.istore 5, 2) := by decide +kernel
theorem dX2_isPlaced_36 : decode cX2_isPlaced 36 = .ok (.iload 5, 2) := by decide +kernel
theorem dX2_isPlaced_38 : decode cX2_isPlaced 38 = .ok (.bipush 6, 2) := by decide +kernel
theorem dX2_isPlaced_40 : decode cX2_isPlaced 40 = .ok (.if_icmp .ge 71, 3) := by decide +kernel
theorem dX2_isPlaced_43 : decode cX2_isPlaced 43 = .ok (.lload_n 3, 1) := by decide +kernel
theorem dX2_isPlaced_44 : decode cX2_isPlaced 44 = .ok (.aload_n 0, 1) := by decide +kernel
theorem dX2_isPlaced_45 : decode cX2_isPlaced 45 = .ok (.getfield 27, 3) := by decide +kernel
theorem dX2_isPlaced_48 : decode cX2_isPlaced 48 = .ok (.iload_n 2, 1) := by decide +kernel
theorem dX2_isPlaced_49 : decode cX2_isPlaced 49 = .ok (.laload, 1) := by decide +kernel
theorem dX2_isPlaced_50 : decode cX2_isPlaced 50 = .ok (.bipush 8, 2) := by decide +kernel
theorem dX2_isPlaced_52 : decode cX2_isPlaced 52 = .ok (.iload 5, 2) := by decide +kernel
theorem dX2_isPlaced_54 : decode cX2_isPlaced 54 = .ok (.imul, 1) := by decide +kernel
theorem dX2_isPlaced_55 : decode cX2_isPlaced 55 = .ok (.lshl, 1) := by decide +kernel
theorem dX2_isPlaced_56 : decode cX2_isPlaced 56 = .ok (.ladd, 1) := by decide +kernel
theorem dX2_isPlaced_57 : decode cX2_isPlaced 57 = .ok (.lstore 6, 2) := by decide +kernel
theorem dX2_isPlaced_59 : decode cX2_isPlaced 59 = .ok (.aload_n 0, 1) := by decide +kernel
theorem dX2_isPlaced_60 : decode cX2_isPlaced 60 = .ok (.getfield 18, 3) := by decide +kernel
theorem dX2_isPlaced_63 : decode cX2_isPlaced 63 = .ok (.iload_n 2, 1) := by decide +kernel
theorem dX2_isPlaced_64 : decode cX2_isPlaced 64 = .ok (.iaload, 1) := by decide +kernel
theorem dX2_isPlaced_65 : decode cX2_isPlaced 65 = .ok (.iload 5, 2) := by decide +kernel
theorem dX2_isPlaced_67 : decode cX2_isPlaced 67 = .ok (.invokestatic 100, 3) := by decide +kernel
theorem dX2_isPlaced_70 : decode cX2_isPlaced 70 = .ok (.ifCond .eq 35, 3) := by decide +kernel
theorem dX2_isPlaced_73 : decode cX2_isPlaced 73 = .ok (.aload_n 0, 1) := by decide +kernel
theorem dX2_isPlaced_74 : decode cX2_isPlaced 74 = .ok (.lload 6, 2) := by decide +kernel
theorem dX2_isPlaced_76 : decode cX2_isPlaced 76 = .ok (.invokevirtual 119, 3) := by decide +kernel
theorem dX2_isPlaced_79 : decode cX2_isPlaced 79 = .ok (.ifCond .eq 26, 3) := by decide +kernel
theorem dX2_isPlaced_82 : decode cX2_isPlaced 82 = .ok (.aload_n 0, 1) := by decide +kernel
theorem dX2_isPlaced_83 : decode cX2_isPlaced 83 = .ok (.getfield 21, 3) := by decide +kernel
theorem dX2_isPlaced_86 : decode cX2_isPlaced 86 = .ok (.iload_n 2, 1) := by decide +kernel
theorem dX2_isPlaced_87 : decode cX2_isPlaced 87 = .ok (.iload 5, 2) := by decide +kernel
theorem dX2_isPlaced_89 : decode cX2_isPlaced 89 = .ok (.iastore, 1) := by decide +kernel
theorem dX2_isPlaced_90 : decode cX2_isPlaced 90 = .ok (.aload_n 0, 1) := by decide +kernel
theorem dX2_isPlaced_91 : decode cX2_isPlaced 91 = .ok (.iload_n 1, 1) := by decide +kernel
theorem dX2_isPlaced_92 : decode cX2_isPlaced 92 = .ok (.iload_n 2, 1) := by decide +kernel
theorem dX2_isPlaced_93 : decode cX2_isPlaced 93 = .ok (.iconst 1, 1) := by decide +kernel
theorem dX2_isPlaced_94 : decode cX2_isPlaced 94 = .ok (.iadd, 1) := by decide +kernel
theorem dX2_isPlaced_95 : decode cX2_isPlaced 95 = .ok (.lload 6, 2) := by decide +kernel
theorem dX2_isPlaced_97 : decode cX2_isPlaced 97 = .ok (.invokestatic 109, 3) := by decide +kernel
theorem dX2_isPlaced_100 : decode cX2_isPlaced 100 = .ok (.ifCond .eq 5, 3) := by decide +kernel
theorem dX2_isPlaced_103 : decode cX2_isPlaced 103 = .ok (.iconst 1, 1) := by decide +kernel
theorem dX2_isPlaced_104 : decode cX2_isPlaced 104 = .ok (.ireturn, 1) := by decide +kernel
theorem dX2_isPlaced_105 : decode cX2_isPlaced 105 = .ok (.iinc 5 1, 3) := by decide +kernel
theorem dX2_isPlaced_108 : decode cX2_isPlaced 108 = .ok (.goto (-72), 3) := by decide +kernel
theorem dX2_isPlaced_111 : decode cX2_isPlaced 111 = .ok (.iconst 0, 1) := by decide +kernel
theorem dX2_isPlaced_112 : decode cX2_isPlaced 112 = .ok (.ireturn, 1) := by decide +kernel
theorem dX2_areMenEnough_0 : decode cX2_areMenEnough 0 = .ok (.lload_n 1, 1) := by decide +kernel
theorem dX2_areMenEnough_1 : decode cX2_areMenEnough 1 = .ok (.aload_n 0, 1) := by decide +kernel
theorem dX2_areMenEnough_2 : decode cX2_areMenEnough 2 = .ok (.getfield 48, 3) := by decide +kernel
theorem dX2_areMenEnough_5 : decode cX2_areMenEnough 5 = .ok (.ladd, 1) := by decide +kernel
theorem dX2_areMenEnough_6 : decode cX2_areMenEnough 6 = .ok (.ldc2_w 123, 3) := by decide +kernel
theorem dX2_areMenEnough_9 : decode cX2_areMenEnough 9 = .ok (.land, 1) := by decide +kernel
theorem dX2_areMenEnough_10 : decode cX2_areMenEnough 10 = .ok (.lconst 0, 1) := by decide +kernel
theorem dX2_areMenEnough_11 : decode cX2_areMenEnough 11 = .ok (.lcmp, 1) := by decide +kernel
theorem dX2_areMenEnough_12 : decode cX2_areMenEnough 12 = .ok (.ifCond .ne 7, 3) := by decide +kernel
theorem dX2_areMenEnough_15 : decode cX2_areMenEnough 15 = .ok (.iconst 1, 1) := by decide +kernel
theorem dX2_areMenEnough_16 : decode cX2_areMenEnough 16 = .ok (.goto 4, 3) := by decide +kernel
theorem dX2_areMenEnough_19 : decode cX2_areMenEnough 19 = .ok (.iconst 0, 1) := by decide +kernel
theorem dX2_areMenEnough_20 : decode cX2_areMenEnough 20 = .ok (.ireturn, 1) := by decide +kernel
set_option maxRecDepth 20000 in
theorem ggX2_seamBits_X8_hasBit : GoodIn wsX2_seamBits wsX8_hasBit := goodIn_r _ [6] (by decide +kernel) (by decide +kernel)
set_option maxRecDepth 20000 in
theorem gX2_seamBits_X8_hasBit_n100 : GoodIn wsX2_seamBits (wsX8_hasBit) := ggX2_seamBits_X8_hasBit
theorem dX2_seamBits_0 : decode cX2_seamBits 0 = .ok (.iconst 0, 1) := by decide +kernel
theorem dX2_seamBits_1 : decode cX2_seamBits 1 = .ok (.istore_n 1, 1) := by decide +kernel
theorem dX2_seamBits_2 : decode cX2_seamBits 2 = .ok (.iconst 0, 1) := by decide +kernel
theorem dX2_seamBits_3 : decode cX2_seamBits 3 = .ok (.istore_n 2, 1) := by decide +kernel
theorem dX2_seamBits_4 : decode cX2_seamBits 4 = .ok (.iload_n 2, 1) := by decide +kernel
theorem dX2_seamBits_5 : decode cX2_seamBits 5 = .ok (.aload_n 0, 1) := by decide +kernel
theorem dX2_seamBits_6 : decode cX2_seamBits 6 = .ok (.getfield 62, 3) := by decide +kernel
theorem dX2_seamBits_9 : decode cX2_seamBits 9 = .ok (.if_icmp .ge 35, 3) := by decide +kernel
theorem dX2_seamBits_12 : decode cX2_seamBits 12 = .ok (.iload_n 1, 1) := by decide +kernel
theorem dX2_seamBits_13 : decode cX2_seamBits 13 = .ok (.aload_n 0, 1) := by decide +kernel
theorem dX2_seamBits_14 : decode cX2_seamBits 14 = .ok (.getfield 52, 3) := by decide +kernel
theorem dX2_seamBits_17 : decode cX2_seamBits 17 = .ok (.iload_n 2, 1) := by decide +kernel
theorem dX2_seamBits_18 : decode cX2_seamBits 18 = .ok (.invokestatic 100, 3) := by decide +kernel
theorem dX2_seamBits_21 : decode cX2_seamBits 21 = .ok (.ifCond .eq 14, 3) := by decide +kernel
theorem dX2_seamBits_24 : decode cX2_seamBits 24 = .ok (.iconst 1, 1) := by decide +kernel
theorem dX2_seamBits_25 : decode cX2_seamBits 25 = .ok (.aload_n 0, 1) := by decide +kernel
theorem dX2_seamBits_26 : decode cX2_seamBits 26 = .ok (.getfield 9, 3) := by decide +kernel
theorem dX2_seamBits_29 : decode cX2_seamBits 29 = .ok (.iload_n 2, 1) := by decide +kernel
theorem dX2_seamBits_30 : decode cX2_seamBits 30 = .ok (.iaload, 1) := by decide +kernel
theorem dX2_seamBits_31 : decode cX2_seamBits 31 = .ok (.ishl, 1) := by decide +kernel
theorem dX2_seamBits_32 : decode cX2_seamBits 32 = .ok (.goto 4, 3) := by decide +kernel
theorem dX2_seamBits_35 : decode cX2_seamBits 35 = .ok (.iconst 0, 1) := by decide +kernel
theorem dX2_seamBits_36 : decode cX2_seamBits 36 = .ok (.ior, 1) := by decide +kernel
theorem dX2_seamBits_37 : decode cX2_seamBits 37 = .ok (.istore_n 1, 1) := by decide +kernel
theorem dX2_seamBits_38 : decode cX2_seamBits 38 = .ok (.iinc 2 1, 3) := by decide +kernel
theorem dX2_seamBits_41 : decode cX2_seamBits 41 = .ok (.goto (-37), 3) := by decide +kernel
theorem dX2_seamBits_44 : decode cX2_seamBits 44 = .ok (.iload_n 1, 1) := by decide +kernel
theorem dX2_seamBits_45 : decode cX2_seamBits 45 = .ok (.ireturn, 1) := by decide +kernel
set_option maxRecDepth 20000 in
theorem ggX2_beginningOf_X8_hasBit : GoodIn wsX2_beginningOf wsX8_hasBit := goodIn_r _ [7] (by decide +kernel) (by decide +kernel)
set_option maxRecDepth 20000 in
theorem gX2_beginningOf_X8_hasBit_n100 : GoodIn wsX2_beginningOf (wsX8_hasBit) := ggX2_beginningOf_X8_hasBit
theorem dX2_beginningOf_0 : decode cX2_beginningOf 0 = .ok (.iconst 0, 1) := by decide +kernel
theorem dX2_beginningOf_1 : decode cX2_beginningOf 1 = .ok (.istore_n 2, 1) := by decide +kernel
theorem dX2_beginningOf_2 : decode cX2_beginningOf 2 = .ok (.iload_n 2, 1) := by decide +kernel
theorem dX2_beginningOf_3 : decode cX2_beginningOf 3 = .ok (.aload_n 0, 1) := by decide +kernel
theorem dX2_beginningOf_4 : decode cX2_beginningOf 4 = .ok (.getfield 62, 3) := by decide +kernel
theorem dX2_beginningOf_7 : decode cX2_beginningOf 7 = .ok (.if_icmp .ge 37, 3) := by decide +kernel
theorem dX2_beginningOf_10 : decode cX2_beginningOf 10 = .ok (.aload_n 0, 1) := by decide +kernel
theorem dX2_beginningOf_11 : decode cX2_beginningOf 11 = .ok (.getfield 52, 3) := by decide +kernel
theorem dX2_beginningOf_14 : decode cX2_beginningOf 14 = .ok (.iload_n 2, 1) := by decide +kernel
theorem dX2_beginningOf_15 : decode cX2_beginningOf 15 = .ok (.invokestatic 100, 3) := by decide +kernel
theorem dX2_beginningOf_18 : decode cX2_beginningOf 18 = .ok (.ifCond .eq 20, 3) := by decide +kernel
theorem dX2_beginningOf_21 : decode cX2_beginningOf 21 = .ok (.aload_n 0, 1) := by decide +kernel
theorem dX2_beginningOf_22 : decode cX2_beginningOf 22 = .ok (.getfield 9, 3) := by decide +kernel
theorem dX2_beginningOf_25 : decode cX2_beginningOf 25 = .ok (.iload_n 2, 1) := by decide +kernel
theorem dX2_beginningOf_26 : decode cX2_beginningOf 26 = .ok (.iaload, 1) := by decide +kernel
theorem dX2_beginningOf_27 : decode cX2_beginningOf 27 = .ok (.iload_n 1, 1) := by decide +kernel
theorem dX2_beginningOf_28 : decode cX2_beginningOf 28 = .ok (.if_icmp .ne 10, 3) := by decide +kernel
theorem dX2_beginningOf_31 : decode cX2_beginningOf 31 = .ok (.aload_n 0, 1) := by decide +kernel
theorem dX2_beginningOf_32 : decode cX2_beginningOf 32 = .ok (.getfield 24, 3) := by decide +kernel
theorem dX2_beginningOf_35 : decode cX2_beginningOf 35 = .ok (.iload_n 2, 1) := by decide +kernel
theorem dX2_beginningOf_36 : decode cX2_beginningOf 36 = .ok (.iaload, 1) := by decide +kernel
theorem dX2_beginningOf_37 : decode cX2_beginningOf 37 = .ok (.ireturn, 1) := by decide +kernel
theorem dX2_beginningOf_38 : decode cX2_beginningOf 38 = .ok (.iinc 2 1, 3) := by decide +kernel
theorem dX2_beginningOf_41 : decode cX2_beginningOf 41 = .ok (.goto (-39), 3) := by decide +kernel
theorem dX2_beginningOf_44 : decode cX2_beginningOf 44 = .ok (.bipush (-4), 2) := by decide +kernel
theorem dX2_beginningOf_46 : decode cX2_beginningOf 46 = .ok (.ireturn, 1) := by decide +kernel
set_option maxRecDepth 20000 in
theorem ggX2_ordersOf_X8_hasBit : GoodIn wsX2_ordersOf wsX8_hasBit := goodIn_r _ [8] (by decide +kernel) (by decide +kernel)
set_option maxRecDepth 20000 in
theorem gX2_ordersOf_X8_hasBit_n100 : GoodIn wsX2_ordersOf (wsX8_hasBit) := ggX2_ordersOf_X8_hasBit
theorem dX2_ordersOf_0 : decode cX2_ordersOf 0 = .ok (.iconst 0, 1) := by decide +kernel
theorem dX2_ordersOf_1 : decode cX2_ordersOf 1 = .ok (.istore_n 2, 1) := by decide +kernel
theorem dX2_ordersOf_2 : decode cX2_ordersOf 2 = .ok (.iconst 0, 1) := by decide +kernel
theorem dX2_ordersOf_3 : decode cX2_ordersOf 3 = .ok (.istore_n 3, 1) := by decide +kernel
theorem dX2_ordersOf_4 : decode cX2_ordersOf 4 = .ok (.iload_n 3, 1) := by decide +kernel
theorem dX2_ordersOf_5 : decode cX2_ordersOf 5 = .ok (.aload_n 0, 1) := by decide +kernel
theorem dX2_ordersOf_6 : decode cX2_ordersOf 6 = .ok (.getfield 62, 3) := by decide +kernel
theorem dX2_ordersOf_9 : decode cX2_ordersOf 9 = .ok (.if_icmp .ge 74, 3) := by decide +kernel
theorem dX2_ordersOf_12 : decode cX2_ordersOf 12 = .ok (.aload_n 0, 1) := by decide +kernel
theorem dX2_ordersOf_13 : decode cX2_ordersOf 13 = .ok (.getfield 52, 3) := by decide +kernel
theorem dX2_ordersOf_16 : decode cX2_ordersOf 16 = .ok (.iload_n 3, 1) := by decide +kernel
theorem dX2_ordersOf_17 : decode cX2_ordersOf 17 = .ok (.invokestatic 100, 3) := by decide +kernel
theorem dX2_ordersOf_20 : decode cX2_ordersOf 20 = .ok (.ifCond .eq 34, 3) := by decide +kernel
theorem dX2_ordersOf_23 : decode cX2_ordersOf 23 = .ok (.aload_n 0, 1) := by decide +kernel
theorem dX2_ordersOf_24 : decode cX2_ordersOf 24 = .ok (.getfield 24, 3) := by decide +kernel
theorem dX2_ordersOf_27 : decode cX2_ordersOf 27 = .ok (.iload_n 3, 1) := by decide +kernel
theorem dX2_ordersOf_28 : decode cX2_ordersOf 28 = .ok (.iaload, 1) := by decide +kernel
theorem dX2_ordersOf_29 : decode cX2_ordersOf 29 = .ok (.iload_n 1, 1) := by decide +kernel
theorem dX2_ordersOf_30 : decode cX2_ordersOf 30 = .ok (.if_icmp .gt 24, 3) := by decide +kernel
theorem dX2_ordersOf_33 : decode cX2_ordersOf 33 = .ok (.iload_n 1, 1) := by decide +kernel
theorem dX2_ordersOf_34 : decode cX2_ordersOf 34 = .ok (.aload_n 0, 1) := by decide +kernel
theorem dX2_ordersOf_35 : decode cX2_ordersOf 35 = .ok (.getfield 24, 3) := by decide +kernel
theorem dX2_ordersOf_38 : decode cX2_ordersOf 38 = .ok (.iload_n 3, 1) := by decide +kernel
theorem dX2_ordersOf_39 : decode cX2_ordersOf 39 = .ok (.iaload, 1) := by decide +kernel
theorem dX2_ordersOf_40 : decode cX2_ordersOf 40 = .ok (.aload_n 0, 1) := by decide +kernel
theorem dX2_ordersOf_41 : decode cX2_ordersOf 41 = .ok (.getfield 15, 3) := by decide +kernel
theorem dX2_ordersOf_44 : decode cX2_ordersOf 44 = .ok (.iload_n 3, 1) := by decide +kernel
theorem dX2_ordersOf_45 : decode cX2_ordersOf 45 = .ok (.iaload, 1) := by decide +kernel
theorem dX2_ordersOf_46 : decode cX2_ordersOf 46 = .ok (.iadd, 1) := by decide +kernel
theorem dX2_ordersOf_47 : decode cX2_ordersOf 47 = .ok (.if_icmp .ge 7, 3) := by decide +kernel
theorem dX2_ordersOf_50 : decode cX2_ordersOf 50 = .ok (.iconst 1, 1) := by decide +kernel
theorem dX2_ordersOf_51 : decode cX2_ordersOf 51 = .ok (.goto 4, 3) := by decide +kernel
theorem dX2_ordersOf_54 : decode cX2_ordersOf 54 = .ok (.iconst 0, 1) := by decide +kernel
theorem dX2_ordersOf_55 : decode cX2_ordersOf 55 = .ok (.istore 4, 2) := by decide +kernel
theorem dX2_ordersOf_57 : decode cX2_ordersOf 57 = .ok (.iload_n 2, 1) := by decide +kernel
theorem dX2_ordersOf_58 : decode cX2_ordersOf 58 = .ok (.iload 4, 2) := by decide +kernel
theorem dX2_ordersOf_60 : decode cX2_ordersOf 60 = .ok (.ifCond .eq 14, 3) := by decide +kernel
theorem dX2_ordersOf_63 : decode cX2_ordersOf 63 = .ok (.iconst 1, 1) := by decide +kernel
theorem dX2_ordersOf_64 : decode cX2_ordersOf 64 = .ok (.aload_n 0, 1) := by decide +kernel
theorem dX2_ordersOf_65 : decode cX2_ordersOf 65 = .ok (.getfield 9, 3) := by decide +kernel
theorem dX2_ordersOf_68 : decode cX2_ordersOf 68 = .ok (.iload_n 3, 1) := by decide +kernel
theorem dX2_ordersOf_69 : decode cX2_ordersOf 69 = .ok (.iaload, 1) := by decide +kernel
theorem dX2_ordersOf_70 : decode cX2_ordersOf 70 = .ok (.ishl, 1) := by decide +kernel
theorem dX2_ordersOf_71 : decode cX2_ordersOf 71 = .ok (.goto 4, 3) := by decide +kernel
theorem dX2_ordersOf_74 : decode cX2_ordersOf 74 = .ok (.iconst 0, 1) := by decide +kernel
theorem dX2_ordersOf_75 : decode cX2_ordersOf 75 = .ok (.ior, 1) := by decide +kernel
theorem dX2_ordersOf_76 : decode cX2_ordersOf 76 = .ok (.istore_n 2, 1) := by decide +kernel
theorem dX2_ordersOf_77 : decode cX2_ordersOf 77 = .ok (.iinc 3 1, 3) := by decide +kernel
theorem dX2_ordersOf_80 : decode cX2_ordersOf 80 = .ok (.goto (-76), 3) := by decide +kernel
theorem dX2_ordersOf_83 : decode cX2_ordersOf 83 = .ok (.iload_n 2, 1) := by decide +kernel
theorem dX2_ordersOf_84 : decode cX2_ordersOf 84 = .ok (.ireturn, 1) := by decide +kernel
