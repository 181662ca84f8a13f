set_option maxRecDepth 20000 in
theorem ggX8_init_X5_init : GoodIn wsX8_init wsX5_init := goodIn_r _ [28, 29, 2, 3, 30, 31, 32, 33, 34, 95, 96, 97] (by decide +kernel) (by decide +kernel)
set_option maxRecDepth 20000 in
theorem gX8_init_X5_init : GoodIn wsX8_init (wsX5_init) := ggX8_init_X5_init
set_option maxRecDepth 20000 in
theorem ggX8_init_X4_init : GoodIn wsX8_init wsX4_init := goodIn_r _ [37, 38, 2, 3, 39, 40, 41, 42, 43, 44, 45, 46, 47, 48, 49, 50, 51, 52, 53, 54, 55, 30, 56, 57, 58, 59, 60, 61, 62, 63, 64, 65, 66, 67, 68, 69, 70, 71, 72, 73, 74, 135, 136, 137, 138, 105, 106, 107, 108, 109, 110, 111, 112, 113, 114, 115, 116, 117, 118, 139, 140, 141, 142, 143, 144, 145, 146, 147, 148, 149, 150, 151, 152] (by decide +kernel) (by decide +kernel)
set_option maxRecDepth 20000 in
theorem gX8_init_X4_init : GoodIn wsX8_init (wsX4_init) := ggX8_init_X4_init
set_option maxRecDepth 20000 in
theorem ggX8_init_X2_init : GoodIn wsX8_init wsX2_init := goodIn_r _ [76, 77, 2, 3, 30, 78, 79, 80, 81, 82, 83, 84, 119, 120, 121, 122, 123, 124, 125, 126, 127, 128, 129] (by decide +kernel) (by decide +kernel)
set_option maxRecDepth 20000 in
theorem gX8_init_X2_init_n31 : GoodIn wsX8_init (wsX2_init) := ggX8_init_X2_init
set_option maxRecDepth 20000 in
theorem ggX8_init_X0_init : GoodIn wsX8_init wsX0_init := goodIn_r _ [87, 88, 2, 3, 89, 130, 131, 132, 133] (by decide +kernel) (by decide +kernel)
set_option maxRecDepth 20000 in
theorem gX8_init_X0_init : GoodIn wsX8_init (wsX0_init) := ggX8_init_X0_init
set_option maxRecDepth 20000 in
theorem ggX8_init_X1_init : GoodIn wsX8_init wsX1_init := goodIn_r _ [92, 93, 2, 3, 30, 94, 134] (by decide +kernel) (by decide +kernel)
set_option maxRecDepth 20000 in
theorem gX8_init_X1_init : GoodIn wsX8_init (wsX1_init) := ggX8_init_X1_init
theorem dX8_init_0 : decode cX8_init 0 = .ok (.aload_n 0, 1) := by decide +kernel
theorem dX8_init_1 : decode cX8_init 1 = .ok (.invokespecial 1, 3) := by decide +kernel
theorem dX8_init_4 : decode cX8_init 4 = .ok (.new 7, 3) := by decide +kernel
theorem dX8_init_7 : decode cX8_init 7 = .ok (.dup, 1) := by decide +kernel
theorem dX8_init_8 : decode cX8_init 8 = .ok (.invokespecial 9, 3) := by decide +kernel
theorem dX8_init_11 : decode cX8_init 11 = .ok (.astore_n 1, 1) := by decide +kernel
theorem dX8_init_12 : decode cX8_init 12 = .ok (.aload_n 0, 1) := by decide +kernel
theorem dX8_init_13 : decode cX8_init 13 = .ok (.aload_n 1, 1) := by decide +kernel
theorem dX8_init_14 : decode cX8_init 14 = .ok (.putfield 10, 3) := by decide +kernel
theorem dX8_init_17 : decode cX8_init 17 = .ok (.aload_n 0, 1) := by decide +kernel
theorem dX8_init_18 : decode cX8_init 18 = .ok (.new 16, 3) := by decide +kernel
theorem dX8_init_21 : decode cX8_init 21 = .ok (.dup, 1) := by decide +kernel
theorem dX8_init_22 : decode cX8_init 22 = .ok (.aload_n 1, 1) := by decide +kernel
theorem dX8_init_23 : decode cX8_init 23 = .ok (.invokespecial 18, 3) := by decide +kernel
theorem dX8_init_26 : decode cX8_init 26 = .ok (.putfield 21, 3) := by decide +kernel
theorem dX8_init_29 : decode cX8_init 29 = .ok (.aload_n 0, 1) := by decide +kernel
theorem dX8_init_30 : decode cX8_init 30 = .ok (.iconst 3, 1) := by decide +kernel
theorem dX8_init_31 : decode cX8_init 31 = .ok (.anewarray 16, 3) := by decide +kernel
theorem dX8_init_34 : decode cX8_init 34 = .ok (.putfield 25, 3) := by decide +kernel
theorem dX8_init_37 : decode cX8_init 37 = .ok (.iconst 0, 1) := by decide +kernel
theorem dX8_init_38 : decode cX8_init 38 = .ok (.istore_n 2, 1) := by decide +kernel
theorem dX8_init_39 : decode cX8_init 39 = .ok (.iload_n 2, 1) := by decide +kernel
theorem dX8_init_40 : decode cX8_init 40 = .ok (.iconst 3, 1) := by decide +kernel
theorem dX8_init_41 : decode cX8_init 41 = .ok (.if_icmp .ge 23, 3) := by decide +kernel
theorem dX8_init_44 : decode cX8_init 44 = .ok (.aload_n 0, 1) := by decide +kernel
theorem dX8_init_45 : decode cX8_init 45 = .ok (.getfield 25, 3) := by decide +kernel
theorem dX8_init_48 : decode cX8_init 48 = .ok (.iload_n 2, 1) := by decide +kernel
theorem dX8_init_49 : decode cX8_init 49 = .ok (.new 16, 3) := by decide +kernel
theorem dX8_init_52 : decode cX8_init 52 = .ok (.dup, 1) := by decide +kernel
theorem dX8_init_53 : decode cX8_init 53 = .ok (.aload_n 1, 1) := by decide +kernel
theorem dX8_init_54 : decode cX8_init 54 = .ok (.invokespecial 18, 3) := by decide +kernel
theorem dX8_init_57 : decode cX8_init 57 = .ok (.aastore, 1) := by decide +kernel
theorem dX8_init_58 : decode cX8_init 58 = .ok (.iinc 2 1, 3) := by decide +kernel
theorem dX8_init_61 : decode cX8_init 61 = .ok (.goto (-22), 3) := by decide +kernel
theorem dX8_init_64 : decode cX8_init 64 = .ok (.aload_n 0, 1) := by decide +kernel
theorem dX8_init_65 : decode cX8_init 65 = .ok (.new 29, 3) := by decide +kernel
theorem dX8_init_68 : decode cX8_init 68 = .ok (.dup, 1) := by decide +kernel
theorem dX8_init_69 : decode cX8_init 69 = .ok (.invokespecial 31, 3) := by decide +kernel
theorem dX8_init_72 : decode cX8_init 72 = .ok (.putfield 32, 3) := by decide +kernel
theorem dX8_init_75 : decode cX8_init 75 = .ok (.aload_n 0, 1) := by decide +kernel
theorem dX8_init_76 : decode cX8_init 76 = .ok (.new 36, 3) := by decide +kernel
theorem dX8_init_79 : decode cX8_init 79 = .ok (.dup, 1) := by decide +kernel
theorem dX8_init_80 : decode cX8_init 80 = .ok (.new 16, 3) := by decide +kernel
theorem dX8_init_83 : decode cX8_init 83 = .ok (.dup, 1) := by decide +kernel
theorem dX8_init_84 : decode cX8_init 84 = .ok (.aload_n 1, 1) := by decide +kernel
theorem dX8_init_85 : decode cX8_init 85 = .ok (.invokespecial 18, 3) := by decide +kernel
theorem dX8_init_88 : decode cX8_init 88 = .ok (.invokespecial 38, 3) := by decide +kernel
theorem dX8_init_91 : decode cX8_init 91 = .ok (.putfield 41, 3) := by decide +kernel
theorem dX8_init_94 : decode cX8_init 94 = .ok (.aload_n 0, 1) := by decide +kernel
theorem dX8_init_95 : decode cX8_init 95 = .ok (.new 45, 3) := by decide +kernel
theorem dX8_init_98 : decode cX8_init 98 = .ok (.dup, 1) := by decide +kernel
theorem dX8_init_99 : decode cX8_init 99 = .ok (.invokespecial 47, 3) := by decide +kernel
theorem dX8_init_102 : decode cX8_init 102 = .ok (.putfield 48, 3) := by decide +kernel
theorem dX8_init_105 : decode cX8_init 105 = .ok (.aload_n 0, 1) := by decide +kernel
theorem dX8_init_106 : decode cX8_init 106 = .ok (.iconst 0, 1) := by decide +kernel
theorem dX8_init_107 : decode cX8_init 107 = .ok (.putfield 52, 3) := by decide +kernel
theorem dX8_init_110 : decode cX8_init 110 = .ok (.return_, 1) := by decide +kernel
set_option maxRecDepth 20000 in
theorem ggX8_tide_X8_within : GoodIn wsX8_tide wsX8_within := goodIn_r _ [6] (by decide +kernel) (by decide +kernel)
set_option maxRecDepth 20000 in
theorem gX8_tide_X8_within : GoodIn wsX8_tide (va_wsS RX8 56 yX8_within wsX8_within) := goodIn_app (goodIn_of _ (by decide +kernel)) ggX8_tide_X8_within
theorem dX8_tide_0 : decode cX8_tide 0 = .ok (.iload_n 1, 1) := by decide +kernel
theorem dX8_tide_1 : decode cX8_tide 1 = .ok (.iconst 0, 1) := by decide +kernel
theorem dX8_tide_2 : decode cX8_tide 2 = .ok (.bipush 95, 2) := by decide +kernel
theorem dX8_tide_4 : decode cX8_tide 4 = .ok (.invokestatic 56, 3) := by decide +kernel
theorem dX8_tide_7 : decode cX8_tide 7 = .ok (.ifCond .eq 13, 3) := by decide +kernel
theorem dX8_tide_10 : decode cX8_tide 10 = .ok (.iload_n 2, 1) := by decide +kernel
theorem dX8_tide_11 : decode cX8_tide 11 = .ok (.iconst 0, 1) := by decide +kernel
theorem dX8_tide_12 : decode cX8_tide 12 = .ok (.bipush 60, 2) := by decide +kernel
theorem dX8_tide_14 : decode cX8_tide 14 = .ok (.invokestatic 56, 3) := by decide +kernel
theorem dX8_tide_17 : decode cX8_tide 17 = .ok (.ifCond .ne 5, 3) := by decide +kernel
theorem dX8_tide_20 : decode cX8_tide 20 = .ok (.iconst (-1), 1) := by decide +kernel
theorem dX8_tide_21 : decode cX8_tide 21 = .ok (.ireturn, 1) := by decide +kernel
theorem dX8_tide_22 : decode cX8_tide 22 = .ok (.aload_n 0, 1) := by decide +kernel
theorem dX8_tide_23 : decode cX8_tide 23 = .ok (.getfield 10, 3) := by decide +kernel
theorem dX8_tide_26 : decode cX8_tide 26 = .ok (.getfield 60, 3) := by decide +kernel
theorem dX8_tide_29 : decode cX8_tide 29 = .ok (.iload_n 1, 1) := by decide +kernel
theorem dX8_tide_30 : decode cX8_tide 30 = .ok (.iaload, 1) := by decide +kernel
theorem dX8_tide_31 : decode cX8_tide 31 = .ok (.istore_n 3, 1) := by decide +kernel
theorem dX8_tide_32 : decode cX8_tide 32 = .ok (.aload_n 0, 1) := by decide +kernel
theorem dX8_tide_33 : decode cX8_tide 33 = .ok (.getfield 10, 3) := by decide +kernel
theorem dX8_tide_36 : decode cX8_tide 36 = .ok (.getfield 60, 3) := by decide +kernel
theorem dX8_tide_39 : decode cX8_tide 39 = .ok (.iload_n 1, 1) := by decide +kernel
theorem dX8_tide_40 : decode cX8_tide 40 = .ok (.iload_n 2, 1) := by decide +kernel
theorem dX8_tide_41 : decode cX8_tide 41 = .ok (.iastore, 1) := by decide +kernel
theorem dX8_tide_42 : decode cX8_tide 42 = .ok (.iload_n 3, 1) := by decide +kernel
theorem dX8_tide_43 : decode cX8_tide 43 = .ok (.ireturn, 1) := by decide +kernel
set_option maxRecDepth 20000 in
theorem ggX8_tides_X8_within : GoodIn wsX8_tides wsX8_within := goodIn_r _ [6] (by decide +kernel) (by decide +kernel)
set_option maxRecDepth 20000 in
theorem gX8_tides_X8_within : GoodIn wsX8_tides (va_wsS RX8 56 yX8_within wsX8_within) := goodIn_app (goodIn_of _ (by decide +kernel)) ggX8_tides_X8_within
set_option maxRecDepth 20000 in
theorem ggX8_tides_X8_areTides : GoodIn wsX8_tides wsX8_areTides := goodIn_r _ [9, 10, 11, 5, 12] (by decide +kernel) (by decide +kernel)
set_option maxRecDepth 20000 in
theorem gX8_tides_X8_areTides : GoodIn wsX8_tides (va_wsS RX8 64 yX8_areTides wsX8_areTides) := goodIn_app (goodIn_of _ (by decide +kernel)) ggX8_tides_X8_areTides
set_option maxRecDepth 20000 in
theorem ggX8_tides_X8_eightBits : GoodIn wsX8_tides wsX8_eightBits := goodIn_r _ [12] (by decide +kernel) (by decide +kernel)
set_option maxRecDepth 20000 in
theorem gX8_tides_X8_eightBits : GoodIn wsX8_tides (va_wsS RX8 68 yX8_eightBits wsX8_eightBits) := goodIn_app (goodIn_of _ (by decide +kernel)) ggX8_tides_X8_eightBits
theorem dX8_tides_0 : decode cX8_tides 0 = .ok (.iload_n 1, 1) := by decide +kernel
theorem dX8_tides_1 : decode cX8_tides 1 = .ok (.iconst 0, 1) := by decide +kernel
theorem dX8_tides_2 : decode cX8_tides 2 = .ok (.bipush 95, 2) := by decide +kernel
theorem dX8_tides_4 : decode cX8_tides 4 = .ok (.invokestatic 56, 3) := by decide +kernel
theorem dX8_tides_7 : decode cX8_tides 7 = .ok (.ifCond .eq 29, 3) := by decide +kernel
theorem dX8_tides_10 : decode cX8_tides 10 = .ok (.iload_n 2, 1) := by decide +kernel
theorem dX8_tides_11 : decode cX8_tides 11 = .ok (.iconst 1, 1) := by decide +kernel
theorem dX8_tides_12 : decode cX8_tides 12 = .ok (.bipush 8, 2) := by decide +kernel
theorem dX8_tides_14 : decode cX8_tides 14 = .ok (.invokestatic 56, 3) := by decide +kernel
theorem dX8_tides_17 : decode cX8_tides 17 = .ok (.ifCond .eq 19, 3) := by decide +kernel
theorem dX8_tides_20 : decode cX8_tides 20 = .ok (.iload_n 1, 1) := by decide +kernel
theorem dX8_tides_21 : decode cX8_tides 21 = .ok (.iload_n 2, 1) := by decide +kernel
theorem dX8_tides_22 : decode cX8_tides 22 = .ok (.iadd, 1) := by decide +kernel
theorem dX8_tides_23 : decode cX8_tides 23 = .ok (.bipush 96, 2) := by decide +kernel
theorem dX8_tides_25 : decode cX8_tides 25 = .ok (.if_icmp .gt 11, 3) := by decide +kernel
theorem dX8_tides_28 : decode cX8_tides 28 = .ok (.iload_n 2, 1) := by decide +kernel
theorem dX8_tides_29 : decode cX8_tides 29 = .ok (.lload_n 3, 1) := by decide +kernel
theorem dX8_tides_30 : decode cX8_tides 30 = .ok (.invokestatic 64, 3) := by decide +kernel
theorem dX8_tides_33 : decode cX8_tides 33 = .ok (.ifCond .ne 5, 3) := by decide +kernel
theorem dX8_tides_36 : decode cX8_tides 36 = .ok (.iconst (-1), 1) := by decide +kernel
theorem dX8_tides_37 : decode cX8_tides 37 = .ok (.ireturn, 1) := by decide +kernel
theorem dX8_tides_38 : decode cX8_tides 38 = .ok (.iconst 0, 1) := by decide +kernel
theorem dX8_tides_39 : decode cX8_tides 39 = .ok (.istore 5, 2) := by decide +kernel
theorem dX8_tides_41 : decode cX8_tides 41 = .ok (.iload 5, 2) := by decide +kernel
theorem dX8_tides_43 : decode cX8_tides 43 = .ok (.iload_n 2, 1) := by decide +kernel
theorem dX8_tides_44 : decode cX8_tides 44 = .ok (.if_icmp .ge 27, 3) := by decide +kernel
theorem dX8_tides_47 : decode cX8_tides 47 = .ok (.aload_n 0, 1) := by decide +kernel
theorem dX8_tides_48 : decode cX8_tides 48 = .ok (.getfield 10, 3) := by decide +kernel
theorem dX8_tides_51 : decode cX8_tides 51 = .ok (.getfield 60, 3) := by decide +kernel
theorem dX8_tides_54 : decode cX8_tides 54 = .ok (.iload_n 1, 1) := by decide +kernel
theorem dX8_tides_55 : decode cX8_tides 55 = .ok (.iload 5, 2) := by decide +kernel
theorem dX8_tides_57 : decode cX8_tides 57 = .ok (.iadd, 1) := by decide +kernel
theorem dX8_tides_58 : decode cX8_tides 58 = .ok (.lload_n 3, 1) := by decide +kernel
theorem dX8_tides_59 : decode cX8_tides 59 = .ok (.iload 5, 2) := by decide +kernel
theorem dX8_tides_61 : decode cX8_tides 61 = .ok (.invokestatic 68, 3) := by decide +kernel
theorem dX8_tides_64 : decode cX8_tides 64 = .ok (.iastore, 1) := by decide +kernel
theorem dX8_tides_65 : decode cX8_tides 65 = .ok (.iinc 5 1, 3) := by decide +kernel
theorem dX8_tides_68 : decode cX8_tides 68 = .ok (.goto (-27), 3) := by decide +kernel
theorem dX8_tides_71 : decode cX8_tides 71 = .ok (.iload_n 2, 1) := by decide +kernel
theorem dX8_tides_72 : decode cX8_tides 72 = .ok (.ireturn, 1) := by decide +kernel
set_option maxRecDepth 20000 in
theorem ggX8_areTides_X8_eightBits : GoodIn wsX8_areTides wsX8_eightBits := goodIn_r _ [4] (by decide +kernel) (by decide +kernel)
set_option maxRecDepth 20000 in
theorem gX8_areTides_X8_eightBits : GoodIn wsX8_areTides (va_wsS RX8 68 yX8_eightBits wsX8_eightBits) := goodIn_app (goodIn_of _ (by decide +kernel)) ggX8_areTides_X8_eightBits
theorem dX8_areTides_0 : decode cX8_areTides 0 = .ok (.iconst 0, 1) := by decide +kernel
theorem dX8_areTides_1 : decode cX8_areTides 1 = .ok (.istore_n 3, 1) := by decide +kernel
theorem dX8_areTides_2 : decode cX8_areTides 2 = .ok (.iload_n 3, 1) := by decide +kernel
theorem dX8_areTides_3 : decode cX8_areTides 3 = .ok (.bipush 8, 2) := by decide +kernel
theorem dX8_areTides_5 : decode cX8_areTides 5 = .ok (.if_icmp .ge 30, 3) := by decide +kernel
theorem dX8_areTides_8 : decode cX8_areTides 8 = .ok (.lload_n 1, 1) := by decide +kernel
theorem dX8_areTides_9 : decode cX8_areTides 9 = .ok (.iload_n 3, 1) := by decide +kernel
theorem dX8_areTides_10 : decode cX8_areTides 10 = .ok (.invokestatic 68, 3) := by decide +kernel
theorem dX8_areTides_13 : decode cX8_areTides 13 = .ok (.iload_n 3, 1) := by decide +kernel
theorem dX8_areTides_14 : decode cX8_areTides 14 = .ok (.iload_n 0, 1) := by decide +kernel
theorem dX8_areTides_15 : decode cX8_areTides 15 = .ok (.if_icmp .ge 8, 3) := by decide +kernel
theorem dX8_areTides_18 : decode cX8_areTides 18 = .ok (.bipush 60, 2) := by decide +kernel
theorem dX8_areTides_20 : decode cX8_areTides 20 = .ok (.goto 4, 3) := by decide +kernel
theorem dX8_areTides_23 : decode cX8_areTides 23 = .ok (.iconst 0, 1) := by decide +kernel
theorem dX8_areTides_24 : decode cX8_areTides 24 = .ok (.if_icmp .le 5, 3) := by decide +kernel
theorem dX8_areTides_27 : decode cX8_areTides 27 = .ok (.iconst 0, 1) := by decide +kernel
theorem dX8_areTides_28 : decode cX8_areTides 28 = .ok (.ireturn, 1) := by decide +kernel
theorem dX8_areTides_29 : decode cX8_areTides 29 = .ok (.iinc 3 1, 3) := by decide +kernel
theorem dX8_areTides_32 : decode cX8_areTides 32 = .ok (.goto (-30), 3) := by decide +kernel
theorem dX8_areTides_35 : decode cX8_areTides 35 = .ok (.iconst 1, 1) := by decide +kernel
theorem dX8_areTides_36 : decode cX8_areTides 36 = .ok (.ireturn, 1) := by decide +kernel
theorem dX8_eightBits_0 : decode cX8_eightBits 0 = .ok (.lload_n 0, 1) := by decide +kernel
theorem dX8_eightBits_1 : decode cX8_eightBits 1 = .ok (.bipush 8, 2) := by decide +kernel
theorem dX8_eightBits_3 : decode cX8_eightBits 3 = .ok (.iload_n 2, 1) := by decide +kernel
theorem dX8_eightBits_4 : decode cX8_eightBits 4 = .ok (.imul, 1) := by decide +kernel
theorem dX8_eightBits_5 : decode cX8_eightBits 5 = .ok (.lushr, 1) := by decide +kernel
theorem dX8_eightBits_6 : decode cX8_eightBits 6 = .ok (.l2i, 1) := by decide +kernel
theorem dX8_eightBits_7 : decode cX8_eightBits 7 = .ok (.sipush 255, 3) := by decide +kernel
theorem dX8_eightBits_10 : decode cX8_eightBits 10 = .ok (.iand, 1) := by decide +kernel
theorem dX8_eightBits_11 : decode cX8_eightBits 11 = .ok (.ireturn, 1) := by decide +kernel
set_option maxRecDepth 20000 in
theorem ggX8_rain_X8_within : GoodIn wsX8_rain wsX8_within := goodIn_r _ [6] (by decide +kernel) (by decide +kernel)
set_option maxRecDepth 20000 in
theorem gX8_rain_X8_within : GoodIn wsX8_rain (va_wsS RX8 56 yX8_within wsX8_within) := goodIn_app (goodIn_of _ (by decide +kernel)) ggX8_rain_X8_within
set_option maxRecDepth 20000 in
theorem ggX8_rain_X8_asNumber : GoodIn wsX8_rain wsX8_asNumber := goodIn_r _ [9] (by decide +kernel) (by decide +kernel)
set_option maxRecDepth 20000 in
theorem gX8_rain_X8_asNumber : GoodIn wsX8_rain (va_wsS RX8 76 yX8_asNumber wsX8_asNumber) := goodIn_app (goodIn_of _ (by decide +kernel)) ggX8_rain_X8_asNumber
theorem dX8_rain_0 : decode cX8_rain 0 = .ok (.iload_n 1, 1) := by decide +kernel
theorem dX8_rain_1 : decode cX8_rain 1 = .ok (.iconst 0, 1) := by decide +kernel
theorem dX8_rain_2 : decode cX8_rain 2 = .ok (.bipush 95, 2) := by decide +kernel
theorem dX8_rain_4 : decode cX8_rain 4 = .ok (.invokestatic 56, 3) := by decide +kernel
theorem dX8_rain_7 : decode cX8_rain 7 = .ok (.ifCond .ne 5, 3) := by decide +kernel
theorem dX8_rain_10 : decode cX8_rain 10 = .ok (.iconst (-1), 1) := by decide +kernel
theorem dX8_rain_11 : decode cX8_rain 11 = .ok (.ireturn, 1) := by decide +kernel
theorem dX8_rain_12 : decode cX8_rain 12 = .ok (.aload_n 0, 1) := by decide +kernel
theorem dX8_rain_13 : decode cX8_rain 13 = .ok (.getfield 10, 3) := by decide +kernel
theorem dX8_rain_16 : decode cX8_rain 16 = .ok (.getfield 72, 3) := by decide +kernel
theorem dX8_rain_19 : decode cX8_rain 19 = .ok (.iload_n 1, 1) := by decide +kernel
theorem dX8_rain_20 : decode cX8_rain 20 = .ok (.baload, 1) := by decide +kernel
theorem dX8_rain_21 : decode cX8_rain 21 = .ok (.istore_n 3, 1) := by decide +kernel
theorem dX8_rain_22 : decode cX8_rain 22 = .ok (.aload_n 0, 1) := by decide +kernel
theorem dX8_rain_23 : decode cX8_rain 23 = .ok (.getfield 10, 3) := by decide +kernel
theorem dX8_rain_26 : decode cX8_rain 26 = .ok (.getfield 72, 3) := by decide +kernel
theorem dX8_rain_29 : decode cX8_rain 29 = .ok (.iload_n 1, 1) := by decide +kernel
theorem dX8_rain_30 : decode cX8_rain 30 = .ok (.iload_n 2, 1) := by decide +kernel
theorem dX8_rain_31 : decode cX8_rain 31 = .ok (.bastore, 1) := by decide +kernel
theorem dX8_rain_32 : decode cX8_rain 32 = .ok (.iload_n 3, 1) := by decide +kernel
theorem dX8_rain_33 : decode cX8_rain 33 = .ok (.invokestatic 76, 3) := by decide +kernel
theorem dX8_rain_36 : decode cX8_rain 36 = .ok (.ireturn, 1) := by decide +kernel
set_option maxRecDepth 20000 in
theorem ggX8_rule_X8_within : GoodIn wsX8_rule wsX8_within := goodIn_r _ [10] (by decide +kernel) (by decide +kernel)
set_option maxRecDepth 20000 in
theorem gX8_rule_X8_within : GoodIn wsX8_rule (va_wsS RX8 56 yX8_within wsX8_within) := goodIn_app (goodIn_of _ (by decide +kernel)) ggX8_rule_X8_within
theorem dX8_rule_0 : decode cX8_rule 0 = .ok (.iload_n 1, 1) := by decide +kernel
theorem dX8_rule_1 : decode cX8_rule 1 = .ok (.iconst 0, 1) := by decide +kernel
theorem dX8_rule_2 : decode cX8_rule 2 = .ok (.getstatic 80, 3) := by decide +kernel
theorem dX8_rule_5 : decode cX8_rule 5 = .ok (.arraylength, 1) := by decide +kernel
theorem dX8_rule_6 : decode cX8_rule 6 = .ok (.iconst 1, 1) := by decide +kernel
theorem dX8_rule_7 : decode cX8_rule 7 = .ok (.isub, 1) := by decide +kernel
theorem dX8_rule_8 : decode cX8_rule 8 = .ok (.invokestatic 56, 3) := by decide +kernel
theorem dX8_rule_11 : decode cX8_rule 11 = .ok (.ifCond .eq 20, 3) := by decide +kernel
theorem dX8_rule_14 : decode cX8_rule 14 = .ok (.iload_n 2, 1) := by decide +kernel
theorem dX8_rule_15 : decode cX8_rule 15 = .ok (.getstatic 80, 3) := by decide +kernel
theorem dX8_rule_18 : decode cX8_rule 18 = .ok (.iload_n 1, 1) := by decide +kernel
theorem dX8_rule_19 : decode cX8_rule 19 = .ok (.iaload, 1) := by decide +kernel
theorem dX8_rule_20 : decode cX8_rule 20 = .ok (.getstatic 83, 3) := by decide +kernel
theorem dX8_rule_23 : decode cX8_rule 23 = .ok (.iload_n 1, 1) := by decide +kernel
theorem dX8_rule_24 : decode cX8_rule 24 = .ok (.iaload, 1) := by decide +kernel
theorem dX8_rule_25 : decode cX8_rule 25 = .ok (.invokestatic 56, 3) := by decide +kernel
theorem dX8_rule_28 : decode cX8_rule 28 = .ok (.ifCond .ne 5, 3) := by decide +kernel
theorem dX8_rule_31 : decode cX8_rule 31 = .ok (.iconst (-1), 1) := by decide +kernel
theorem dX8_rule_32 : decode cX8_rule 32 = .ok (.ireturn, 1) := by decide +kernel
theorem dX8_rule_33 : decode cX8_rule 33 = .ok (.iload_n 1, 1) := by decide +kernel
theorem dX8_rule_34 : decode cX8_rule 34 = .ok (.iconst 4, 1) := by decide +kernel
theorem dX8_rule_35 : decode cX8_rule 35 = .ok (.if_icmp .ne 21, 3) := by decide +kernel
theorem dX8_rule_38 : decode cX8_rule 38 = .ok (.aload_n 0, 1) := by decide +kernel
theorem dX8_rule_39 : decode cX8_rule 39 = .ok (.getfield 21, 3) := by decide +kernel
theorem dX8_rule_42 : decode cX8_rule 42 = .ok (.getfield 86, 3) := by decide +kernel
theorem dX8_rule_45 : decode cX8_rule 45 = .ok (.istore_n 3, 1) := by decide +kernel
theorem dX8_rule_46 : decode cX8_rule 46 = .ok (.aload_n 0, 1) := by decide +kernel
theorem dX8_rule_47 : decode cX8_rule 47 = .ok (.getfield 21, 3) := by decide +kernel
theorem dX8_rule_50 : decode cX8_rule 50 = .ok (.iload_n 2, 1) := by decide +kernel
theorem dX8_rule_51 : decode cX8_rule 51 = .ok (.putfield 86, 3) := by decide +kernel
theorem dX8_rule_54 : decode cX8_rule 54 = .ok (.iload_n 3, 1) := by decide +kernel
theorem dX8_rule_55 : decode cX8_rule 55 = .ok (.ireturn, 1) := by decide +kernel
theorem dX8_rule_56 : decode cX8_rule 56 = .ok (.aload_n 0, 1) := by decide +kernel
theorem dX8_rule_57 : decode cX8_rule 57 = .ok (.getfield 10, 3) := by decide +kernel
theorem dX8_rule_60 : decode cX8_rule 60 = .ok (.getfield 89, 3) := by decide +kernel
theorem dX8_rule_63 : decode cX8_rule 63 = .ok (.iload_n 1, 1) := by decide +kernel
theorem dX8_rule_64 : decode cX8_rule 64 = .ok (.iaload, 1) := by decide +kernel
theorem dX8_rule_65 : decode cX8_rule 65 = .ok (.istore_n 3, 1) := by decide +kernel
theorem dX8_rule_66 : decode cX8_rule 66 = .ok (.aload_n 0, 1) := by decide +kernel
theorem dX8_rule_67 : decode cX8_rule 67 = .ok (.getfield 10, 3) := by decide +kernel
theorem dX8_rule_70 : decode cX8_rule 70 = .ok (.getfield 89, 3) := by decide +kernel
theorem dX8_rule_73 : decode cX8_rule 73 = .ok (.iload_n 1, 1) := by decide +kernel
theorem dX8_rule_74 : decode cX8_rule 74 = .ok (.iload_n 2, 1) := by decide +kernel
theorem dX8_rule_75 : decode cX8_rule 75 = .ok (.iastore, 1) := by decide +kernel
theorem dX8_rule_76 : decode cX8_rule 76 = .ok (.iload_n 3, 1) := by decide +kernel
theorem dX8_rule_77 : decode cX8_rule 77 = .ok (.ireturn, 1) := by decide +kernel
set_option maxRecDepth 20000 in
theorem ggX8_thing_X8_within : GoodIn wsX8_thing wsX8_within := goodIn_r _ [8] (by decide +kernel) (by decide +kernel)
set_option maxRecDepth 20000 in
theorem gX8_thing_X8_within : GoodIn wsX8_thing (va_wsS RX8 56 yX8_within wsX8_within) := goodIn_app (goodIn_of _ (by decide +kernel)) ggX8_thing_X8_within
set_option maxRecDepth 20000 in
theorem ggX8_thing_X8_hasBit : GoodIn wsX8_thing wsX8_hasBit := goodIn_r _ [11] (by decide +kernel) (by decide +kernel)
set_option maxRecDepth 20000 in
theorem gX8_thing_X8_hasBit : GoodIn wsX8_thing (va_wsS RX8 104 yX8_hasBit wsX8_hasBit) := goodIn_app (goodIn_of _ (by decide +kernel)) ggX8_thing_X8_hasBit
set_option maxRecDepth 20000 in
theorem ggX8_thing_X7_add : GoodIn wsX8_thing wsX7_add := goodIn_r _ [16, 17, 18, 19, 41, 42, 43, 44] (by decide +kernel) (by decide +kernel)
set_option maxRecDepth 20000 in
theorem gX8_thing_X7_add : GoodIn wsX8_thing (wsV RX8 108 RX7 yX7_add wsX7_add) := goodIn_app (goodIn_of _ (by decide +kernel)) ggX8_thing_X7_add
theorem dX8_thing_0 : decode cX8_thing 0 = .ok (.aload_n 0, 1) := by decide +kernel
theorem dX8_thing_1 : decode cX8_thing 1 = .ok (.getfield 21, 3) := by decide +kernel
theorem dX8_thing_4 : decode cX8_thing 4 = .ok (.getfield 92, 3) := by decide +kernel
theorem dX8_thing_7 : decode cX8_thing 7 = .ok (.astore_n 3, 1) := by decide +kernel
theorem dX8_thing_8 : decode cX8_thing 8 = .ok (.iload_n 1, 1) := by decide +kernel
theorem dX8_thing_9 : decode cX8_thing 9 = .ok (.iconst 1, 1) := by decide +kernel
theorem dX8_thing_10 : decode cX8_thing 10 = .ok (.bipush 100, 2) := by decide +kernel
theorem dX8_thing_12 : decode cX8_thing 12 = .ok (.invokestatic 56, 3) := by decide +kernel
theorem dX8_thing_15 : decode cX8_thing 15 = .ok (.ifCond .eq 17, 3) := by decide +kernel
theorem dX8_thing_18 : decode cX8_thing 18 = .ok (.iload_n 2, 1) := by decide +kernel
theorem dX8_thing_19 : decode cX8_thing 19 = .ok (.iconst (-1), 1) := by decide +kernel
theorem dX8_thing_20 : decode cX8_thing 20 = .ok (.aload_n 3, 1) := by decide +kernel
theorem dX8_thing_21 : decode cX8_thing 21 = .ok (.getfield 96, 3) := by decide +kernel
theorem dX8_thing_24 : decode cX8_thing 24 = .ok (.iconst 1, 1) := by decide +kernel
theorem dX8_thing_25 : decode cX8_thing 25 = .ok (.isub, 1) := by decide +kernel
theorem dX8_thing_26 : decode cX8_thing 26 = .ok (.invokestatic 56, 3) := by decide +kernel
theorem dX8_thing_29 : decode cX8_thing 29 = .ok (.ifCond .ne 5, 3) := by decide +kernel
theorem dX8_thing_32 : decode cX8_thing 32 = .ok (.iconst (-1), 1) := by decide +kernel
theorem dX8_thing_33 : decode cX8_thing 33 = .ok (.ireturn, 1) := by decide +kernel
theorem dX8_thing_34 : decode cX8_thing 34 = .ok (.iload_n 2, 1) := by decide +kernel
theorem dX8_thing_35 : decode cX8_thing 35 = .ok (.ifCond .lt 17, 3) := by decide +kernel
theorem dX8_thing_38 : decode cX8_thing 38 = .ok (.aload_n 3, 1) := by decide +kernel
theorem dX8_thing_39 : decode cX8_thing 39 = .ok (.getfield 101, 3) := by decide +kernel
theorem dX8_thing_42 : decode cX8_thing 42 = .ok (.iload_n 2, 1) := by decide +kernel
theorem dX8_thing_43 : decode cX8_thing 43 = .ok (.invokestatic 104, 3) := by decide +kernel
theorem dX8_thing_46 : decode cX8_thing 46 = .ok (.ifCond .eq 6, 3) := by decide +kernel
theorem dX8_thing_49 : decode cX8_thing 49 = .ok (.bipush (-2), 2) := by decide +kernel
theorem dX8_thing_51 : decode cX8_thing 51 = .ok (.ireturn, 1) := by decide +kernel
theorem dX8_thing_52 : decode cX8_thing 52 = .ok (.aload_n 3, 1) := by decide +kernel
theorem dX8_thing_53 : decode cX8_thing 53 = .ok (.getfield 96, 3) := by decide +kernel
theorem dX8_thing_56 : decode cX8_thing 56 = .ok (.bipush 12, 2) := by decide +kernel
theorem dX8_thing_58 : decode cX8_thing 58 = .ok (.if_icmp .lt 8, 3) := by decide +kernel
theorem dX8_thing_61 : decode cX8_thing 61 = .ok (.bipush (-3), 2) := by decide +kernel
theorem dX8_thing_63 : decode cX8_thing 63 = .ok (.goto 9, 3) := by decide +kernel
theorem dX8_thing_66 : decode cX8_thing 66 = .ok (.aload_n 3, 1) := by decide +kernel
theorem dX8_thing_67 : decode cX8_thing 67 = .ok (.iload_n 1, 1) := by decide +kernel
theorem dX8_thing_68 : decode cX8_thing 68 = .ok (.iload_n 2, 1) := by decide +kernel
theorem dX8_thing_69 : decode cX8_thing 69 = .ok (.invokevirtual 108, 3) := by decide +kernel
theorem dX8_thing_72 : decode cX8_thing 72 = .ok (.ireturn, 1) := by decide +kernel
set_option maxRecDepth 20000 in
theorem ggX8_tackle_X8_within : GoodIn wsX8_tackle wsX8_within := goodIn_r _ [7] (by decide +kernel) (by decide +kernel)
set_option maxRecDepth 20000 in
theorem gX8_tackle_X8_within : GoodIn wsX8_tackle (va_wsS RX8 56 yX8_within wsX8_within) := goodIn_app (goodIn_of _ (by decide +kernel)) ggX8_tackle_X8_within
set_option maxRecDepth 20000 in
theorem ggX8_tackle_X6_add : GoodIn wsX8_tackle wsX6_add := goodIn_r _ [12, 13, 14, 15, 16, 17, 39, 40, 41, 42, 43] (by decide +kernel) (by decide +kernel)
set_option maxRecDepth 20000 in
theorem gX8_tackle_X6_add : GoodIn wsX8_tackle (wsV RX8 119 RX6 yX6_add wsX6_add) := goodIn_app (goodIn_of _ (by decide +kernel)) ggX8_tackle_X6_add
theorem dX8_tackle_0 : decode cX8_tackle 0 = .ok (.iload_n 1, 1) := by decide +kernel
theorem dX8_tackle_1 : decode cX8_tackle 1 = .ok (.iconst 0, 1) := by decide +kernel
theorem dX8_tackle_2 : decode cX8_tackle 2 = .ok (.iconst 2, 1) := by decide +kernel
theorem dX8_tackle_3 : decode cX8_tackle 3 = .ok (.invokestatic 56, 3) := by decide +kernel
theorem dX8_tackle_6 : decode cX8_tackle 6 = .ok (.ifCond .eq 24, 3) := by decide +kernel
theorem dX8_tackle_9 : decode cX8_tackle 9 = .ok (.iload_n 2, 1) := by decide +kernel
theorem dX8_tackle_10 : decode cX8_tackle 10 = .ok (.iconst 1, 1) := by decide +kernel
theorem dX8_tackle_11 : decode cX8_tackle 11 = .ok (.bipush 6, 2) := by decide +kernel
theorem dX8_tackle_13 : decode cX8_tackle 13 = .ok (.invokestatic 56, 3) := by decide +kernel
theorem dX8_tackle_16 : decode cX8_tackle 16 = .ok (.ifCond .eq 14, 3) := by decide +kernel
theorem dX8_tackle_19 : decode cX8_tackle 19 = .ok (.iload_n 3, 1) := by decide +kernel
theorem dX8_tackle_20 : decode cX8_tackle 20 = .ok (.iconst 1, 1) := by decide +kernel
theorem dX8_tackle_21 : decode cX8_tackle 21 = .ok (.sipush 400, 3) := by decide +kernel
theorem dX8_tackle_24 : decode cX8_tackle 24 = .ok (.invokestatic 56, 3) := by decide +kernel
theorem dX8_tackle_27 : decode cX8_tackle 27 = .ok (.ifCond .ne 5, 3) := by decide +kernel
theorem dX8_tackle_30 : decode cX8_tackle 30 = .ok (.iconst (-1), 1) := by decide +kernel
theorem dX8_tackle_31 : decode cX8_tackle 31 = .ok (.ireturn, 1) := by decide +kernel
theorem dX8_tackle_32 : decode cX8_tackle 32 = .ok (.aload_n 0, 1) := by decide +kernel
theorem dX8_tackle_33 : decode cX8_tackle 33 = .ok (.getfield 21, 3) := by decide +kernel
theorem dX8_tackle_36 : decode cX8_tackle 36 = .ok (.getfield 112, 3) := by decide +kernel
theorem dX8_tackle_39 : decode cX8_tackle 39 = .ok (.getfield 116, 3) := by decide +kernel
theorem dX8_tackle_42 : decode cX8_tackle 42 = .ok (.bipush 6, 2) := by decide +kernel
theorem dX8_tackle_44 : decode cX8_tackle 44 = .ok (.if_icmp .lt 8, 3) := by decide +kernel
theorem dX8_tackle_47 : decode cX8_tackle 47 = .ok (.bipush (-3), 2) := by decide +kernel
theorem dX8_tackle_49 : decode cX8_tackle 49 = .ok (.goto 16, 3) := by decide +kernel
theorem dX8_tackle_52 : decode cX8_tackle 52 = .ok (.aload_n 0, 1) := by decide +kernel
theorem dX8_tackle_53 : decode cX8_tackle 53 = .ok (.getfield 21, 3) := by decide +kernel
theorem dX8_tackle_56 : decode cX8_tackle 56 = .ok (.getfield 112, 3) := by decide +kernel
theorem dX8_tackle_59 : decode cX8_tackle 59 = .ok (.iload_n 1, 1) := by decide +kernel
theorem dX8_tackle_60 : decode cX8_tackle 60 = .ok (.iload_n 2, 1) := by decide +kernel
theorem dX8_tackle_61 : decode cX8_tackle 61 = .ok (.iload_n 3, 1) := by decide +kernel
theorem dX8_tackle_62 : decode cX8_tackle 62 = .ok (.invokevirtual 119, 3) := by decide +kernel
theorem dX8_tackle_65 : decode cX8_tackle 65 = .ok (.ireturn, 1) := by decide +kernel
set_option maxRecDepth 20000 in
theorem ggX8_seam_X8_within : GoodIn wsX8_seam wsX8_within := goodIn_r _ [7] (by decide +kernel) (by decide +kernel)
set_option maxRecDepth 20000 in
theorem gX8_seam_X8_within : GoodIn wsX8_seam (va_wsS RX8 56 yX8_within wsX8_within) := goodIn_app (goodIn_of _ (by decide +kernel)) ggX8_seam_X8_within
set_option maxRecDepth 20000 in
theorem ggX8_seam_X3_add : GoodIn wsX8_seam wsX3_add := goodIn_r _ [12, 13, 14, 15, 16, 17, 18, 19, 20, 21, 43, 44, 45, 46, 47, 48, 49, 50, 51] (by decide +kernel) (by decide +kernel)
set_option maxRecDepth 20000 in
theorem gX8_seam_X3_add : GoodIn wsX8_seam (wsV RX8 129 RX3 yX3_add wsX3_add) := goodIn_app (goodIn_of _ (by decide +kernel)) ggX8_seam_X3_add
theorem dX8_seam_0 : decode cX8_seam 0 = .ok (.iload_n 1, 1) := by decide +kernel
theorem dX8_seam_1 : decode cX8_seam 1 = .ok (.iconst 1, 1) := by decide +kernel
theorem dX8_seam_2 : decode cX8_seam 2 = .ok (.bipush 10, 2) := by decide +kernel
theorem dX8_seam_4 : decode cX8_seam 4 = .ok (.invokestatic 56, 3) := by decide +kernel
theorem dX8_seam_7 : decode cX8_seam 7 = .ok (.ifCond .eq 22, 3) := by decide +kernel
theorem dX8_seam_10 : decode cX8_seam 10 = .ok (.iload_n 2, 1) := by decide +kernel
theorem dX8_seam_11 : decode cX8_seam 11 = .ok (.iconst 0, 1) := by decide +kernel
theorem dX8_seam_12 : decode cX8_seam 12 = .ok (.iconst 1, 1) := by decide +kernel
theorem dX8_seam_13 : decode cX8_seam 13 = .ok (.invokestatic 56, 3) := by decide +kernel
theorem dX8_seam_16 : decode cX8_seam 16 = .ok (.ifCond .eq 13, 3) := by decide +kernel
theorem dX8_seam_19 : decode cX8_seam 19 = .ok (.iload_n 3, 1) := by decide +kernel
theorem dX8_seam_20 : decode cX8_seam 20 = .ok (.iconst 1, 1) := by decide +kernel
theorem dX8_seam_21 : decode cX8_seam 21 = .ok (.bipush 6, 2) := by decide +kernel
theorem dX8_seam_23 : decode cX8_seam 23 = .ok (.invokestatic 56, 3) := by decide +kernel
theorem dX8_seam_26 : decode cX8_seam 26 = .ok (.ifCond .ne 5, 3) := by decide +kernel
theorem dX8_seam_29 : decode cX8_seam 29 = .ok (.iconst (-1), 1) := by decide +kernel
theorem dX8_seam_30 : decode cX8_seam 30 = .ok (.ireturn, 1) := by decide +kernel
theorem dX8_seam_31 : decode cX8_seam 31 = .ok (.iload 4, 2) := by decide +kernel
theorem dX8_seam_33 : decode cX8_seam 33 = .ok (.iconst 1, 1) := by decide +kernel
theorem dX8_seam_34 : decode cX8_seam 34 = .ok (.iconst 4, 1) := by decide +kernel
theorem dX8_seam_35 : decode cX8_seam 35 = .ok (.invokestatic 56, 3) := by decide +kernel
theorem dX8_seam_38 : decode cX8_seam 38 = .ok (.ifCond .eq 25, 3) := by decide +kernel
theorem dX8_seam_41 : decode cX8_seam 41 = .ok (.iload 5, 2) := by decide +kernel
theorem dX8_seam_43 : decode cX8_seam 43 = .ok (.iconst 0, 1) := by decide +kernel
theorem dX8_seam_44 : decode cX8_seam 44 = .ok (.bipush 50, 2) := by decide +kernel
theorem dX8_seam_46 : decode cX8_seam 46 = .ok (.invokestatic 56, 3) := by decide +kernel
theorem dX8_seam_49 : decode cX8_seam 49 = .ok (.ifCond .eq 14, 3) := by decide +kernel
theorem dX8_seam_52 : decode cX8_seam 52 = .ok (.iload 6, 2) := by decide +kernel
theorem dX8_seam_54 : decode cX8_seam 54 = .ok (.iconst 1, 1) := by decide +kernel
theorem dX8_seam_55 : decode cX8_seam 55 = .ok (.bipush 100, 2) := by decide +kernel
theorem dX8_seam_57 : decode cX8_seam 57 = .ok (.invokestatic 56, 3) := by decide +kernel
theorem dX8_seam_60 : decode cX8_seam 60 = .ok (.ifCond .ne 5, 3) := by decide +kernel
theorem dX8_seam_63 : decode cX8_seam 63 = .ok (.iconst (-1), 1) := by decide +kernel
theorem dX8_seam_64 : decode cX8_seam 64 = .ok (.ireturn, 1) := by decide +kernel
theorem dX8_seam_65 : decode cX8_seam 65 = .ok (.aload_n 0, 1) := by decide +kernel
theorem dX8_seam_66 : decode cX8_seam 66 = .ok (.getfield 21, 3) := by decide +kernel
theorem dX8_seam_69 : decode cX8_seam 69 = .ok (.getfield 122, 3) := by decide +kernel
theorem dX8_seam_72 : decode cX8_seam 72 = .ok (.getfield 126, 3) := by decide +kernel
theorem dX8_seam_75 : decode cX8_seam 75 = .ok (.bipush 12, 2) := by decide +kernel
theorem dX8_seam_77 : decode cX8_seam 77 = .ok (.if_icmp .lt 8, 3) := by decide +kernel
theorem dX8_seam_80 : decode cX8_seam 80 = .ok (.bipush (-3), 2) := by decide +kernel
theorem dX8_seam_82 : decode cX8_seam 82 = .ok (.goto 22, 3) := by decide +kernel
theorem dX8_seam_85 : decode cX8_seam 85 = .ok (.aload_n 0, 1) := by decide +kernel
theorem dX8_seam_86 : decode cX8_seam 86 = .ok (.getfield 21, 3) := by decide +kernel
theorem dX8_seam_89 : decode cX8_seam 89 = .ok (.getfield 122, 3) := by decide +kernel
theorem dX8_seam_92 : decode cX8_seam 92 = .ok (.iload_n 1, 1) := by decide +kernel
theorem dX8_seam_93 : decode cX8_seam 93 = .ok (.iload_n 2, 1) := by decide +kernel
theorem dX8_seam_94 : decode cX8_seam 94 = .ok (.iload_n 3, 1) := by decide +kernel
theorem dX8_seam_95 : decode cX8_seam 95 = .ok (.iload 4, 2) := by decide +kernel
theorem dX8_seam_97 : decode cX8_seam 97 = .ok (.iload 5, 2) := by decide +kernel
theorem dX8_seam_99 : decode cX8_seam 99 = .ok (.iload 6, 2) := by decide +kernel
theorem dX8_seam_101 : decode cX8_seam 101 = .ok (.invokevirtual 129, 3) := by decide +kernel
theorem dX8_seam_104 : decode cX8_seam 104 = .ok (.ireturn, 1) := by decide +kernel
set_option maxRecDepth 20000 in
theorem ggX8_ship_X4_total : GoodIn wsX8_ship wsX4_total := goodIn_r _ [10, 11, 12, 13, 14, 15, 16, 17, 18, 19, 20, 21, 22, 23, 24, 138, 139, 140, 141, 142, 143, 144, 145, 146, 147, 148, 149, 150, 151, 152, 153, 154, 155, 156, 157, 158] (by decide +kernel) (by decide +kernel)
set_option maxRecDepth 20000 in
theorem gX8_ship_X4_total : GoodIn wsX8_ship (wsV RX8 132 RX4 yX4_total wsX4_total) := goodIn_app (goodIn_of _ (by decide +kernel)) ggX8_ship_X4_total
set_option maxRecDepth 20000 in
theorem ggX8_ship_X8_draught : GoodIn wsX8_ship wsX8_draught := goodIn_r _ [27] (by decide +kernel) (by decide +kernel)
set_option maxRecDepth 20000 in
theorem gX8_ship_X8_draught : GoodIn wsX8_ship (va_wsS RX8 136 yX8_draught wsX8_draught) := goodIn_app (goodIn_of _ (by decide +kernel)) ggX8_ship_X8_draught
set_option maxRecDepth 20000 in
theorem ggX8_ship_X4_force : GoodIn wsX8_ship wsX4_force := goodIn_r _ [31, 32, 33, 34, 35, 36, 7, 8, 9, 10, 11, 12, 13, 14, 15, 16, 17, 18, 19, 20, 21, 22, 23, 24, 138, 139, 140, 141, 142, 143, 144, 145, 146, 147, 148, 149, 150, 151, 152, 153, 154, 155, 156, 157, 158] (by decide +kernel) (by decide +kernel)
set_option maxRecDepth 20000 in
theorem gX8_ship_X4_force : GoodIn wsX8_ship (wsV RX8 143 RX4 yX4_force wsX4_force) := goodIn_app (goodIn_of _ (by decide +kernel)) ggX8_ship_X4_force
set_option maxRecDepth 20000 in
theorem ggX8_ship_X4_floats : GoodIn wsX8_ship wsX4_floats := goodIn_r _ [40, 11, 12, 41, 42, 43, 36, 7, 8, 9, 10, 13, 14, 15, 16, 17, 18, 19, 20, 21, 22, 23, 24, 44, 45, 46, 47, 48, 49, 50, 51, 34, 52, 53, 54, 55, 56, 57, 58, 59, 60, 26, 27, 61, 62, 63, 64, 65, 66, 67, 138, 139, 140, 141, 142, 143, 144, 145, 146, 147, 148, 149, 150, 151, 152, 153, 154, 155, 156, 157, 158, 159, 160, 161, 162, 163, 164, 165, 166, 167] (by decide +kernel) (by decide +kernel)
set_option maxRecDepth 20000 in
theorem gX8_ship_X4_floats : GoodIn wsX8_ship (wsV RX8 149 RX4 yX4_floats wsX4_floats) := goodIn_app (goodIn_of _ (by decide +kernel)) ggX8_ship_X4_floats
set_option maxRecDepth 20000 in
theorem ggX8_ship_X8_asNumber : GoodIn wsX8_ship wsX8_asNumber := goodIn_r _ [70] (by decide +kernel) (by decide +kernel)
set_option maxRecDepth 20000 in
theorem gX8_ship_X8_asNumber : GoodIn wsX8_ship (va_wsS RX8 76 yX8_asNumber wsX8_asNumber) := goodIn_app (goodIn_of _ (by decide +kernel)) ggX8_ship_X8_asNumber
set_option maxRecDepth 20000 in
theorem ggX8_ship_X5_rainsIn : GoodIn wsX8_ship wsX5_rainsIn := goodIn_r _ [74, 75, 50, 51, 34, 52, 53, 54, 55, 152, 153, 154] (by decide +kernel) (by decide +kernel)
set_option maxRecDepth 20000 in
theorem gX8_ship_X5_rainsIn : GoodIn wsX8_ship (wsV RX8 156 RX5 yX5_rainsIn wsX5_rainsIn) := goodIn_app (goodIn_of _ (by decide +kernel)) ggX8_ship_X5_rainsIn
set_option maxRecDepth 20000 in
theorem ggX8_ship_X4_holds : GoodIn wsX8_ship wsX4_holds := goodIn_r _ [79, 80, 81, 11, 12, 82, 29, 30, 9, 31, 32, 33, 34, 35, 36, 7, 8, 10, 13, 14, 15, 16, 17, 18, 19, 20, 21, 22, 23, 24, 83, 84, 85, 86, 87, 88, 89, 90, 91, 92, 93, 94, 95, 96, 97, 98, 99, 100, 101, 102, 103, 104, 105, 106, 107, 108, 109, 110, 111, 112, 113, 114, 115, 116, 117, 118, 119, 120, 121, 122, 123, 124, 125, 138, 139, 140, 141, 142, 143, 144, 145, 146, 147, 148, 149, 150, 151, 168, 169, 170, 171, 172, 152, 153, 154, 155, 156, 157, 158] (by decide +kernel) (by decide +kernel)
set_option maxRecDepth 20000 in
theorem gX8_ship_X4_holds : GoodIn wsX8_ship (wsV RX8 160 RX4 yX4_holds wsX4_holds) := goodIn_app (goodIn_of _ (by decide +kernel)) ggX8_ship_X4_holds
set_option maxRecDepth 20000 in
theorem ggX8_ship_X4_isLost : GoodIn wsX8_ship wsX4_isLost := goodIn_r _ [129, 130, 138, 139, 140, 141, 142, 143, 144, 145, 146, 147, 148, 149, 150, 151] (by decide +kernel) (by decide +kernel)
set_option maxRecDepth 20000 in
theorem gX8_ship_X4_isLost : GoodIn wsX8_ship (wsV RX8 164 RX4 yX4_isLost wsX4_isLost) := goodIn_app (goodIn_of _ (by decide +kernel)) ggX8_ship_X4_isLost
theorem dX8_ship_0 : decode cX8_ship 0 = .ok (.iload_n 1, 1) := by decide +kernel
theorem dX8_ship_1 : decode cX8_ship 1 = .ok (.tableswitch 151 0 7 #[47, 55, 66, 74, 89, 97, 108, 140], 47) := by decide +kernel
theorem dX8_ship_48 : decode cX8_ship 48 = .ok (.aload_n 0, 1) := by decide +kernel
theorem dX8_ship_49 : decode cX8_ship 49 = .ok (.getfield 21, 3) := by decide +kernel
theorem dX8_ship_52 : decode cX8_ship 52 = .ok (.invokevirtual 132, 3) := by decide +kernel
theorem dX8_ship_55 : decode cX8_ship 55 = .ok (.ireturn, 1) := by decide +kernel
theorem dX8_ship_56 : decode cX8_ship 56 = .ok (.aload_n 0, 1) := by decide +kernel
theorem dX8_ship_57 : decode cX8_ship 57 = .ok (.getfield 21, 3) := by decide +kernel
theorem dX8_ship_60 : decode cX8_ship 60 = .ok (.invokevirtual 132, 3) := by decide +kernel
theorem dX8_ship_63 : decode cX8_ship 63 = .ok (.invokestatic 136, 3) := by decide +kernel
theorem dX8_ship_66 : decode cX8_ship 66 = .ok (.ireturn, 1) := by decide +kernel
theorem dX8_ship_67 : decode cX8_ship 67 = .ok (.aload_n 0, 1) := by decide +kernel
theorem dX8_ship_68 : decode cX8_ship 68 = .ok (.getfield 21, 3) := by decide +kernel
theorem dX8_ship_71 : decode cX8_ship 71 = .ok (.getfield 140, 3) := by decide +kernel
theorem dX8_ship_74 : decode cX8_ship 74 = .ok (.ireturn, 1) := by decide +kernel
theorem dX8_ship_75 : decode cX8_ship 75 = .ok (.aload_n 0, 1) := by decide +kernel
theorem dX8_ship_76 : decode cX8_ship 76 = .ok (.getfield 21, 3) := by decide +kernel
theorem dX8_ship_79 : decode cX8_ship 79 = .ok (.aload_n 0, 1) := by decide +kernel
theorem dX8_ship_80 : decode cX8_ship 80 = .ok (.getfield 21, 3) := by decide +kernel
theorem dX8_ship_83 : decode cX8_ship 83 = .ok (.getfield 140, 3) := by decide +kernel
theorem dX8_ship_86 : decode cX8_ship 86 = .ok (.invokevirtual 143, 3) := by decide +kernel
theorem dX8_ship_89 : decode cX8_ship 89 = .ok (.ireturn, 1) := by decide +kernel
theorem dX8_ship_90 : decode cX8_ship 90 = .ok (.aload_n 0, 1) := by decide +kernel
theorem dX8_ship_91 : decode cX8_ship 91 = .ok (.getfield 21, 3) := by decide +kernel
theorem dX8_ship_94 : decode cX8_ship 94 = .ok (.getfield 146, 3) := by decide +kernel
theorem dX8_ship_97 : decode cX8_ship 97 = .ok (.ireturn, 1) := by decide +kernel
theorem dX8_ship_98 : decode cX8_ship 98 = .ok (.aload_n 0, 1) := by decide +kernel
theorem dX8_ship_99 : decode cX8_ship 99 = .ok (.getfield 21, 3) := by decide +kernel
theorem dX8_ship_102 : decode cX8_ship 102 = .ok (.invokevirtual 149, 3) := by decide +kernel
theorem dX8_ship_105 : decode cX8_ship 105 = .ok (.invokestatic 76, 3) := by decide +kernel
theorem dX8_ship_108 : decode cX8_ship 108 = .ok (.ireturn, 1) := by decide +kernel
theorem dX8_ship_109 : decode cX8_ship 109 = .ok (.aload_n 0, 1) := by decide +kernel
theorem dX8_ship_110 : decode cX8_ship 110 = .ok (.getfield 21, 3) := by decide +kernel
theorem dX8_ship_113 : decode cX8_ship 113 = .ok (.aload_n 0, 1) := by decide +kernel
theorem dX8_ship_114 : decode cX8_ship 114 = .ok (.getfield 21, 3) := by decide +kernel
theorem dX8_ship_117 : decode cX8_ship 117 = .ok (.getfield 140, 3) := by decide +kernel
theorem dX8_ship_120 : decode cX8_ship 120 = .ok (.aload_n 0, 1) := by decide +kernel
theorem dX8_ship_121 : decode cX8_ship 121 = .ok (.getfield 10, 3) := by decide +kernel
theorem dX8_ship_124 : decode cX8_ship 124 = .ok (.aload_n 0, 1) := by decide +kernel
theorem dX8_ship_125 : decode cX8_ship 125 = .ok (.getfield 21, 3) := by decide +kernel
theorem dX8_ship_128 : decode cX8_ship 128 = .ok (.getfield 153, 3) := by decide +kernel
theorem dX8_ship_131 : decode cX8_ship 131 = .ok (.invokevirtual 156, 3) := by decide +kernel
theorem dX8_ship_134 : decode cX8_ship 134 = .ok (.invokevirtual 160, 3) := by decide +kernel
theorem dX8_ship_137 : decode cX8_ship 137 = .ok (.invokestatic 76, 3) := by decide +kernel
theorem dX8_ship_140 : decode cX8_ship 140 = .ok (.ireturn, 1) := by decide +kernel
theorem dX8_ship_141 : decode cX8_ship 141 = .ok (.aload_n 0, 1) := by decide +kernel
theorem dX8_ship_142 : decode cX8_ship 142 = .ok (.getfield 21, 3) := by decide +kernel
theorem dX8_ship_145 : decode cX8_ship 145 = .ok (.invokevirtual 164, 3) := by decide +kernel
theorem dX8_ship_148 : decode cX8_ship 148 = .ok (.invokestatic 76, 3) := by decide +kernel
theorem dX8_ship_151 : decode cX8_ship 151 = .ok (.ireturn, 1) := by decide +kernel
theorem dX8_ship_152 : decode cX8_ship 152 = .ok (.bipush (-100), 2) := by decide +kernel
theorem dX8_ship_154 : decode cX8_ship 154 = .ok (.ireturn, 1) := by decide +kernel
set_option maxRecDepth 20000 in
theorem ggX8_tackleTold_X8_within : GoodIn wsX8_tackleTold wsX8_within := goodIn_r _ [11] (by decide +kernel) (by decide +kernel)
set_option maxRecDepth 20000 in
theorem gX8_tackleTold_X8_within : GoodIn wsX8_tackleTold (va_wsS RX8 56 yX8_within wsX8_within) := goodIn_app (goodIn_of _ (by decide +kernel)) ggX8_tackleTold_X8_within
set_option maxRecDepth 20000 in
theorem ggX8_tackleTold_X8_hasBit : GoodIn wsX8_tackleTold wsX8_hasBit := goodIn_r _ [14] (by decide +kernel) (by decide +kernel)
set_option maxRecDepth 20000 in
theorem gX8_tackleTold_X8_hasBit : GoodIn wsX8_tackleTold (va_wsS RX8 104 yX8_hasBit wsX8_hasBit) := goodIn_app (goodIn_of _ (by decide +kernel)) ggX8_tackleTold_X8_hasBit
set_option maxRecDepth 20000 in
theorem ggX8_tackleTold_X4_force : GoodIn wsX8_tackleTold wsX4_force := goodIn_r _ [19, 20, 21, 22, 23, 24, 25, 26, 18, 27, 28, 29, 30, 31, 32, 33, 34, 35, 36, 37, 38, 13, 10, 14, 83, 84, 85, 86, 87, 88, 89, 90, 91, 92, 93, 94, 95, 96, 102, 103, 104, 105, 106, 107, 108] (by decide +kernel) (by decide +kernel)
set_option maxRecDepth 20000 in
theorem gX8_tackleTold_X4_force : GoodIn wsX8_tackleTold (wsV RX8 143 RX4 yX4_force wsX4_force) := goodIn_app (goodIn_of _ (by decide +kernel)) ggX8_tackleTold_X4_force
set_option maxRecDepth 20000 in
theorem ggX8_tackleTold_X6_share : GoodIn wsX8_tackleTold wsX6_share := goodIn_r _ [43, 44, 45, 46, 47, 48, 49, 50, 51, 52, 10, 53, 97, 98, 99, 100, 101] (by decide +kernel) (by decide +kernel)
set_option maxRecDepth 20000 in
theorem gX8_tackleTold_X6_share : GoodIn wsX8_tackleTold (wsV RX8 170 RX6 yX6_share wsX6_share) := goodIn_app (goodIn_of _ (by decide +kernel)) ggX8_tackleTold_X6_share
set_option maxRecDepth 20000 in
theorem ggX8_tackleTold_X6_ropeTakes : GoodIn wsX8_tackleTold wsX6_ropeTakes := goodIn_r _ [57, 58, 52, 10, 53, 97, 98, 99, 100, 101] (by decide +kernel) (by decide +kernel)
set_option maxRecDepth 20000 in
theorem gX8_tackleTold_X6_ropeTakes : GoodIn wsX8_tackleTold (wsV RX8 173 RX6 yX6_ropeTakes wsX6_ropeTakes) := goodIn_app (goodIn_of _ (by decide +kernel)) ggX8_tackleTold_X6_ropeTakes
set_option maxRecDepth 20000 in
theorem ggX8_tackleTold_X5_rainsIn : GoodIn wsX8_tackleTold wsX5_rainsIn := goodIn_r _ [63, 64, 65, 66, 22, 67, 68, 69, 70, 102, 103, 104] (by decide +kernel) (by decide +kernel)
set_option maxRecDepth 20000 in
theorem gX8_tackleTold_X5_rainsIn : GoodIn wsX8_tackleTold (wsV RX8 156 RX5 yX5_rainsIn wsX5_rainsIn) := goodIn_app (goodIn_of _ (by decide +kernel)) ggX8_tackleTold_X5_rainsIn
set_option maxRecDepth 20000 in
theorem ggX8_tackleTold_X6_ropeMay : GoodIn wsX8_tackleTold wsX6_ropeMay := goodIn_r _ [74, 75, 97, 98, 99, 100, 101] (by decide +kernel) (by decide +kernel)
set_option maxRecDepth 20000 in
theorem gX8_tackleTold_X6_ropeMay : GoodIn wsX8_tackleTold (wsV RX8 176 RX6 yX6_ropeMay wsX6_ropeMay) := goodIn_app (goodIn_of _ (by decide +kernel)) ggX8_tackleTold_X6_ropeMay
theorem dX8_tackleTold_0 : decode cX8_tackleTold 0 = .ok (.iload_n 1, 1) := by decide +kernel
theorem dX8_tackleTold_1 : decode cX8_tackleTold 1 = .ok (.iconst 0, 1) := by decide +kernel
theorem dX8_tackleTold_2 : decode cX8_tackleTold 2 = .ok (.aload_n 0, 1) := by decide +kernel
theorem dX8_tackleTold_3 : decode cX8_tackleTold 3 = .ok (.getfield 21, 3) := by decide +kernel
theorem dX8_tackleTold_6 : decode cX8_tackleTold 6 = .ok (.getfield 112, 3) := by decide +kernel
theorem dX8_tackleTold_9 : decode cX8_tackleTold 9 = .ok (.getfield 116, 3) := by decide +kernel
theorem dX8_tackleTold_12 : decode cX8_tackleTold 12 = .ok (.iconst 1, 1) := by decide +kernel
theorem dX8_tackleTold_13 : decode cX8_tackleTold 13 = .ok (.isub, 1) := by decide +kernel
theorem dX8_tackleTold_14 : decode cX8_tackleTold 14 = .ok (.invokestatic 56, 3) := by decide +kernel
theorem dX8_tackleTold_17 : decode cX8_tackleTold 17 = .ok (.ifCond .eq 12, 3) := by decide +kernel
theorem dX8_tackleTold_20 : decode cX8_tackleTold 20 = .ok (.iload_n 2, 1) := by decide +kernel
theorem dX8_tackleTold_21 : decode cX8_tackleTold 21 = .ok (.iconst 0, 1) := by decide +kernel
theorem dX8_tackleTold_22 : decode cX8_tackleTold 22 = .ok (.iconst 3, 1) := by decide +kernel
theorem dX8_tackleTold_23 : decode cX8_tackleTold 23 = .ok (.invokestatic 56, 3) := by decide +kernel
theorem dX8_tackleTold_26 : decode cX8_tackleTold 26 = .ok (.ifCond .ne 5, 3) := by decide +kernel
theorem dX8_tackleTold_29 : decode cX8_tackleTold 29 = .ok (.iconst (-1), 1) := by decide +kernel
theorem dX8_tackleTold_30 : decode cX8_tackleTold 30 = .ok (.ireturn, 1) := by decide +kernel
theorem dX8_tackleTold_31 : decode cX8_tackleTold 31 = .ok (.aload_n 0, 1) := by decide +kernel
theorem dX8_tackleTold_32 : decode cX8_tackleTold 32 = .ok (.getfield 21, 3) := by decide +kernel
theorem dX8_tackleTold_35 : decode cX8_tackleTold 35 = .ok (.getfield 112, 3) := by decide +kernel
theorem dX8_tackleTold_38 : decode cX8_tackleTold 38 = .ok (.getfield 167, 3) := by decide +kernel
theorem dX8_tackleTold_41 : decode cX8_tackleTold 41 = .ok (.iload_n 1, 1) := by decide +kernel
theorem dX8_tackleTold_42 : decode cX8_tackleTold 42 = .ok (.invokestatic 104, 3) := by decide +kernel
theorem dX8_tackleTold_45 : decode cX8_tackleTold 45 = .ok (.ifCond .ne 5, 3) := by decide +kernel
theorem dX8_tackleTold_48 : decode cX8_tackleTold 48 = .ok (.iconst 0, 1) := by decide +kernel
theorem dX8_tackleTold_49 : decode cX8_tackleTold 49 = .ok (.ireturn, 1) := by decide +kernel
theorem dX8_tackleTold_50 : decode cX8_tackleTold 50 = .ok (.aload_n 0, 1) := by decide +kernel
theorem dX8_tackleTold_51 : decode cX8_tackleTold 51 = .ok (.getfield 21, 3) := by decide +kernel
theorem dX8_tackleTold_54 : decode cX8_tackleTold 54 = .ok (.getfield 112, 3) := by decide +kernel
theorem dX8_tackleTold_57 : decode cX8_tackleTold 57 = .ok (.aload_n 0, 1) := by decide +kernel
theorem dX8_tackleTold_58 : decode cX8_tackleTold 58 = .ok (.getfield 21, 3) := by decide +kernel
theorem dX8_tackleTold_61 : decode cX8_tackleTold 61 = .ok (.aload_n 0, 1) := by decide +kernel
theorem dX8_tackleTold_62 : decode cX8_tackleTold 62 = .ok (.getfield 21, 3) := by decide +kernel
theorem dX8_tackleTold_65 : decode cX8_tackleTold 65 = .ok (.getfield 140, 3) := by decide +kernel
theorem dX8_tackleTold_68 : decode cX8_tackleTold 68 = .ok (.invokevirtual 143, 3) := by decide +kernel
theorem dX8_tackleTold_71 : decode cX8_tackleTold 71 = .ok (.invokevirtual 170, 3) := by decide +kernel
theorem dX8_tackleTold_74 : decode cX8_tackleTold 74 = .ok (.istore_n 3, 1) := by decide +kernel
theorem dX8_tackleTold_75 : decode cX8_tackleTold 75 = .ok (.iload_n 2, 1) := by decide +kernel
theorem dX8_tackleTold_76 : decode cX8_tackleTold 76 = .ok (.tableswitch 69 0 2 #[28, 30, 43], 28) := by decide +kernel
theorem dX8_tackleTold_104 : decode cX8_tackleTold 104 = .ok (.iload_n 3, 1) := by decide +kernel
theorem dX8_tackleTold_105 : decode cX8_tackleTold 105 = .ok (.ireturn, 1) := by decide +kernel
theorem dX8_tackleTold_106 : decode cX8_tackleTold 106 = .ok (.aload_n 0, 1) := by decide +kernel
theorem dX8_tackleTold_107 : decode cX8_tackleTold 107 = .ok (.getfield 21, 3) := by decide +kernel
theorem dX8_tackleTold_110 : decode cX8_tackleTold 110 = .ok (.getfield 112, 3) := by decide +kernel
theorem dX8_tackleTold_113 : decode cX8_tackleTold 113 = .ok (.iload_n 1, 1) := by decide +kernel
theorem dX8_tackleTold_114 : decode cX8_tackleTold 114 = .ok (.iload_n 3, 1) := by decide +kernel
theorem dX8_tackleTold_115 : decode cX8_tackleTold 115 = .ok (.invokevirtual 173, 3) := by decide +kernel
theorem dX8_tackleTold_118 : decode cX8_tackleTold 118 = .ok (.ireturn, 1) := by decide +kernel
theorem dX8_tackleTold_119 : decode cX8_tackleTold 119 = .ok (.aload_n 0, 1) := by decide +kernel
theorem dX8_tackleTold_120 : decode cX8_tackleTold 120 = .ok (.getfield 21, 3) := by decide +kernel
theorem dX8_tackleTold_123 : decode cX8_tackleTold 123 = .ok (.getfield 112, 3) := by decide +kernel
theorem dX8_tackleTold_126 : decode cX8_tackleTold 126 = .ok (.iload_n 1, 1) := by decide +kernel
theorem dX8_tackleTold_127 : decode cX8_tackleTold 127 = .ok (.aload_n 0, 1) := by decide +kernel
theorem dX8_tackleTold_128 : decode cX8_tackleTold 128 = .ok (.getfield 10, 3) := by decide +kernel
theorem dX8_tackleTold_131 : decode cX8_tackleTold 131 = .ok (.aload_n 0, 1) := by decide +kernel
theorem dX8_tackleTold_132 : decode cX8_tackleTold 132 = .ok (.getfield 21, 3) := by decide +kernel
theorem dX8_tackleTold_135 : decode cX8_tackleTold 135 = .ok (.getfield 153, 3) := by decide +kernel
theorem dX8_tackleTold_138 : decode cX8_tackleTold 138 = .ok (.invokevirtual 156, 3) := by decide +kernel
theorem dX8_tackleTold_141 : decode cX8_tackleTold 141 = .ok (.invokevirtual 176, 3) := by decide +kernel
theorem dX8_tackleTold_144 : decode cX8_tackleTold 144 = .ok (.ireturn, 1) := by decide +kernel
theorem dX8_tackleTold_145 : decode cX8_tackleTold 145 = .ok (.iconst 1, 1) := by decide +kernel
theorem dX8_tackleTold_146 : decode cX8_tackleTold 146 = .ok (.ireturn, 1) := by decide +kernel
set_option maxRecDepth 20000 in
theorem ggX8_greatest_X4_holds : GoodIn wsX8_greatest wsX4_holds := goodIn_r _ [6, 7, 8, 9, 10, 11, 12, 13, 5, 14, 15, 16, 17, 18, 19, 20, 21, 22, 23, 24, 25, 26, 27, 28, 29, 30, 31, 32, 33, 34, 35, 36, 37, 38, 39, 40, 41, 42, 43, 44, 45, 46, 47, 48, 49, 50, 51, 52, 53, 54, 55, 56, 57, 58, 59, 60, 61, 62, 63, 64, 65, 66, 67, 68, 69, 70, 71, 72, 73, 74, 75, 76, 77, 85, 86, 87, 88, 89, 90, 91, 92, 93, 94, 95, 96, 97, 98, 99, 100, 101, 102, 103, 104, 105, 106, 107, 108, 109, 110] (by decide +kernel) (by decide +kernel)
set_option maxRecDepth 20000 in
theorem gX8_greatest_X4_holds : GoodIn wsX8_greatest (wsV RX8 160 RX4 yX4_holds wsX4_holds) := goodIn_app (goodIn_of _ (by decide +kernel)) ggX8_greatest_X4_holds
theorem dX8_greatest_0 : decode cX8_greatest 0 = .ok (.bipush 9, 2) := by decide +kernel
theorem dX8_greatest_2 : decode cX8_greatest 2 = .ok (.istore_n 2, 1) := by decide +kernel
theorem dX8_greatest_3 : decode cX8_greatest 3 = .ok (.iload_n 2, 1) := by decide +kernel
theorem dX8_greatest_4 : decode cX8_greatest 4 = .ok (.ifCond .le 21, 3) := by decide +kernel
theorem dX8_greatest_7 : decode cX8_greatest 7 = .ok (.aload_n 0, 1) := by decide +kernel
theorem dX8_greatest_8 : decode cX8_greatest 8 = .ok (.getfield 21, 3) := by decide +kernel
theorem dX8_greatest_11 : decode cX8_greatest 11 = .ok (.iload_n 2, 1) := by decide +kernel
theorem dX8_greatest_12 : decode cX8_greatest 12 = .ok (.iload_n 1, 1) := by decide +kernel
theorem dX8_greatest_13 : decode cX8_greatest 13 = .ok (.invokevirtual 160, 3) := by decide +kernel
theorem dX8_greatest_16 : decode cX8_greatest 16 = .ok (.ifCond .ne 9, 3) := by decide +kernel
theorem dX8_greatest_19 : decode cX8_greatest 19 = .ok (.iinc 2 (-1), 3) := by decide +kernel
theorem dX8_greatest_22 : decode cX8_greatest 22 = .ok (.goto (-19), 3) := by decide +kernel
theorem dX8_greatest_25 : decode cX8_greatest 25 = .ok (.iload_n 2, 1) := by decide +kernel
theorem dX8_greatest_26 : decode cX8_greatest 26 = .ok (.ireturn, 1) := by decide +kernel
set_option maxRecDepth 20000 in
theorem ggX8_seamTold_X8_within : GoodIn wsX8_seamTold wsX8_within := goodIn_r _ [10] (by decide +kernel) (by decide +kernel)
set_option maxRecDepth 20000 in
theorem gX8_seamTold_X8_within : GoodIn wsX8_seamTold (va_wsS RX8 56 yX8_within wsX8_within) := goodIn_app (goodIn_of _ (by decide +kernel)) ggX8_seamTold_X8_within
set_option maxRecDepth 20000 in
theorem ggX8_seamTold_X4_isBare : GoodIn wsX8_seamTold wsX4_isBare := goodIn_r _ [15, 16, 17, 18, 19, 20, 21, 22, 23, 24, 25, 26, 27, 28, 29, 30, 31, 32, 33, 34, 35, 36, 37, 38, 55, 56, 57, 58, 59, 60, 61, 62, 63, 64, 65, 66, 67, 68, 78, 79, 80, 69, 70, 71, 72, 73, 74, 75, 76, 77] (by decide +kernel) (by decide +kernel)
set_option maxRecDepth 20000 in
theorem gX8_seamTold_X4_isBare : GoodIn wsX8_seamTold (wsV RX8 183 RX4 yX4_isBare wsX4_isBare) := goodIn_app (goodIn_of _ (by decide +kernel)) ggX8_seamTold_X4_isBare
set_option maxRecDepth 20000 in
theorem ggX8_seamTold_X8_asNumber : GoodIn wsX8_seamTold wsX8_asNumber := goodIn_r _ [41] (by decide +kernel) (by decide +kernel)
set_option maxRecDepth 20000 in
theorem gX8_seamTold_X8_asNumber : GoodIn wsX8_seamTold (va_wsS RX8 76 yX8_asNumber wsX8_asNumber) := goodIn_app (goodIn_of _ (by decide +kernel)) ggX8_seamTold_X8_asNumber
set_option maxRecDepth 20000 in
theorem ggX8_seamTold_X4_hoursBare : GoodIn wsX8_seamTold wsX4_hoursBare := goodIn_r _ [45, 46, 47, 12, 13, 14, 15, 16, 17, 18, 19, 20, 21, 22, 23, 24, 25, 26, 27, 28, 29, 30, 31, 32, 33, 34, 35, 36, 37, 38, 55, 56, 57, 58, 59, 60, 61, 62, 63, 64, 65, 66, 67, 68, 78, 79, 80, 69, 70, 71, 72, 73, 74, 75, 76, 77] (by decide +kernel) (by decide +kernel)
set_option maxRecDepth 20000 in
theorem gX8_seamTold_X4_hoursBare : GoodIn wsX8_seamTold (wsV RX8 189 RX4 yX4_hoursBare wsX4_hoursBare) := goodIn_app (goodIn_of _ (by decide +kernel)) ggX8_seamTold_X4_hoursBare
theorem dX8_seamTold_0 : decode cX8_seamTold 0 = .ok (.iload_n 1, 1) := by decide +kernel
theorem dX8_seamTold_1 : decode cX8_seamTold 1 = .ok (.iconst 0, 1) := by decide +kernel
theorem dX8_seamTold_2 : decode cX8_seamTold 2 = .ok (.aload_n 0, 1) := by decide +kernel
theorem dX8_seamTold_3 : decode cX8_seamTold 3 = .ok (.getfield 21, 3) := by decide +kernel
theorem dX8_seamTold_6 : decode cX8_seamTold 6 = .ok (.getfield 122, 3) := by decide +kernel
theorem dX8_seamTold_9 : decode cX8_seamTold 9 = .ok (.getfield 126, 3) := by decide +kernel
theorem dX8_seamTold_12 : decode cX8_seamTold 12 = .ok (.iconst 1, 1) := by decide +kernel
theorem dX8_seamTold_13 : decode cX8_seamTold 13 = .ok (.isub, 1) := by decide +kernel
theorem dX8_seamTold_14 : decode cX8_seamTold 14 = .ok (.invokestatic 56, 3) := by decide +kernel
theorem dX8_seamTold_17 : decode cX8_seamTold 17 = .ok (.ifCond .ne 5, 3) := by decide +kernel
theorem dX8_seamTold_20 : decode cX8_seamTold 20 = .ok (.iconst (-1), 1) := by decide +kernel
theorem dX8_seamTold_21 : decode cX8_seamTold 21 = .ok (.ireturn, 1) := by decide +kernel
theorem dX8_seamTold_22 : decode cX8_seamTold 22 = .ok (.iload_n 2, 1) := by decide +kernel
theorem dX8_seamTold_23 : decode cX8_seamTold 23 = .ok (.tableswitch 83 0 3 #[29, 42, 61, 74], 29) := by decide +kernel
theorem dX8_seamTold_52 : decode cX8_seamTold 52 = .ok (.aload_n 0, 1) := by decide +kernel
theorem dX8_seamTold_53 : decode cX8_seamTold 53 = .ok (.getfield 21, 3) := by decide +kernel
theorem dX8_seamTold_56 : decode cX8_seamTold 56 = .ok (.getfield 122, 3) := by decide +kernel
theorem dX8_seamTold_59 : decode cX8_seamTold 59 = .ok (.getfield 180, 3) := by decide +kernel
theorem dX8_seamTold_62 : decode cX8_seamTold 62 = .ok (.iload_n 1, 1) := by decide +kernel
theorem dX8_seamTold_63 : decode cX8_seamTold 63 = .ok (.iaload, 1) := by decide +kernel
theorem dX8_seamTold_64 : decode cX8_seamTold 64 = .ok (.ireturn, 1) := by decide +kernel
theorem dX8_seamTold_65 : decode cX8_seamTold 65 = .ok (.aload_n 0, 1) := by decide +kernel
theorem dX8_seamTold_66 : decode cX8_seamTold 66 = .ok (.getfield 21, 3) := by decide +kernel
theorem dX8_seamTold_69 : decode cX8_seamTold 69 = .ok (.iload_n 1, 1) := by decide +kernel
theorem dX8_seamTold_70 : decode cX8_seamTold 70 = .ok (.aload_n 0, 1) := by decide +kernel
theorem dX8_seamTold_71 : decode cX8_seamTold 71 = .ok (.getfield 21, 3) := by decide +kernel
theorem dX8_seamTold_74 : decode cX8_seamTold 74 = .ok (.getfield 153, 3) := by decide +kernel
theorem dX8_seamTold_77 : decode cX8_seamTold 77 = .ok (.invokevirtual 183, 3) := by decide +kernel
theorem dX8_seamTold_80 : decode cX8_seamTold 80 = .ok (.invokestatic 76, 3) := by decide +kernel
theorem dX8_seamTold_83 : decode cX8_seamTold 83 = .ok (.ireturn, 1) := by decide +kernel
theorem dX8_seamTold_84 : decode cX8_seamTold 84 = .ok (.aload_n 0, 1) := by decide +kernel
theorem dX8_seamTold_85 : decode cX8_seamTold 85 = .ok (.getfield 21, 3) := by decide +kernel
theorem dX8_seamTold_88 : decode cX8_seamTold 88 = .ok (.getfield 122, 3) := by decide +kernel
theorem dX8_seamTold_91 : decode cX8_seamTold 91 = .ok (.getfield 186, 3) := by decide +kernel
theorem dX8_seamTold_94 : decode cX8_seamTold 94 = .ok (.iload_n 1, 1) := by decide +kernel
theorem dX8_seamTold_95 : decode cX8_seamTold 95 = .ok (.iaload, 1) := by decide +kernel
theorem dX8_seamTold_96 : decode cX8_seamTold 96 = .ok (.ireturn, 1) := by decide +kernel
theorem dX8_seamTold_97 : decode cX8_seamTold 97 = .ok (.aload_n 0, 1) := by decide +kernel
theorem dX8_seamTold_98 : decode cX8_seamTold 98 = .ok (.getfield 21, 3) := by decide +kernel
theorem dX8_seamTold_101 : decode cX8_seamTold 101 = .ok (.iload_n 1, 1) := by decide +kernel
theorem dX8_seamTold_102 : decode cX8_seamTold 102 = .ok (.invokevirtual 189, 3) := by decide +kernel
theorem dX8_seamTold_105 : decode cX8_seamTold 105 = .ok (.ireturn, 1) := by decide +kernel
theorem dX8_seamTold_106 : decode cX8_seamTold 106 = .ok (.iconst (-1), 1) := by decide +kernel
theorem dX8_seamTold_107 : decode cX8_seamTold 107 = .ok (.ireturn, 1) := by decide +kernel
set_option maxRecDepth 20000 in
theorem ggX8_move_X8_within : GoodIn wsX8_move wsX8_within := goodIn_r _ [8] (by decide +kernel) (by decide +kernel)
set_option maxRecDepth 20000 in
theorem gX8_move_X8_within : GoodIn wsX8_move (va_wsS RX8 56 yX8_within wsX8_within) := goodIn_app (goodIn_of _ (by decide +kernel)) ggX8_move_X8_within
set_option maxRecDepth 20000 in
theorem ggX8_move_X4_isLost : GoodIn wsX8_move wsX4_isLost := goodIn_r _ [13, 14, 59, 60, 61, 62, 63, 64, 65, 66, 67, 68, 69, 70, 71, 72] (by decide +kernel) (by decide +kernel)
set_option maxRecDepth 20000 in
theorem gX8_move_X4_isLost : GoodIn wsX8_move (wsV RX8 164 RX4 yX4_isLost wsX4_isLost) := goodIn_app (goodIn_of _ (by decide +kernel)) ggX8_move_X4_isLost
set_option maxRecDepth 20000 in
theorem ggX8_move_X7_mayMove : GoodIn wsX8_move wsX7_mayMove := goodIn_r _ [19, 20, 21, 7, 22, 23, 24, 25, 18, 26, 27, 28, 29, 30, 31, 32, 73, 74, 75, 76] (by decide +kernel) (by decide +kernel)
set_option maxRecDepth 20000 in
theorem gX8_move_X7_mayMove : GoodIn wsX8_move (wsV RX8 196 RX7 yX7_mayMove wsX7_mayMove) := goodIn_app (goodIn_of _ (by decide +kernel)) ggX8_move_X7_mayMove
set_option maxRecDepth 20000 in
theorem ggX8_move_X4_moveByBoat : GoodIn wsX8_move wsX4_moveByBoat := goodIn_r _ [36, 37, 38, 39, 40, 59, 60, 61, 62, 63, 64, 65, 66, 67, 68, 69, 70, 71, 72, 73, 74, 75, 76] (by decide +kernel) (by decide +kernel)
set_option maxRecDepth 20000 in
theorem gX8_move_X4_moveByBoat : GoodIn wsX8_move (wsV RX8 199 RX4 yX4_moveByBoat wsX4_moveByBoat) := goodIn_app (goodIn_of _ (by decide +kernel)) ggX8_move_X4_moveByBoat
set_option maxRecDepth 20000 in
theorem ggX8_move_X4_total : GoodIn wsX8_move wsX4_total := goodIn_r _ [44, 45, 46, 37, 38, 47, 48, 49, 18, 50, 27, 51, 21, 7, 22, 59, 60, 61, 62, 63, 64, 65, 66, 67, 68, 69, 70, 71, 72, 77, 78, 79, 73, 74, 75, 76] (by decide +kernel) (by decide +kernel)
set_option maxRecDepth 20000 in
theorem gX8_move_X4_total : GoodIn wsX8_move (wsV RX8 132 RX4 yX4_total wsX4_total) := goodIn_app (goodIn_of _ (by decide +kernel)) ggX8_move_X4_total
theorem dX8_move_0 : decode cX8_move 0 = .ok (.iload_n 1, 1) := by decide +kernel
theorem dX8_move_1 : decode cX8_move 1 = .ok (.iconst 0, 1) := by decide +kernel
theorem dX8_move_2 : decode cX8_move 2 = .ok (.aload_n 0, 1) := by decide +kernel
theorem dX8_move_3 : decode cX8_move 3 = .ok (.getfield 21, 3) := by decide +kernel
theorem dX8_move_6 : decode cX8_move 6 = .ok (.getfield 92, 3) := by decide +kernel
theorem dX8_move_9 : decode cX8_move 9 = .ok (.getfield 96, 3) := by decide +kernel
theorem dX8_move_12 : decode cX8_move 12 = .ok (.iconst 1, 1) := by decide +kernel
theorem dX8_move_13 : decode cX8_move 13 = .ok (.isub, 1) := by decide +kernel
theorem dX8_move_14 : decode cX8_move 14 = .ok (.invokestatic 56, 3) := by decide +kernel
theorem dX8_move_17 : decode cX8_move 17 = .ok (.ifCond .ne 5, 3) := by decide +kernel
theorem dX8_move_20 : decode cX8_move 20 = .ok (.iconst (-1), 1) := by decide +kernel
theorem dX8_move_21 : decode cX8_move 21 = .ok (.ireturn, 1) := by decide +kernel
theorem dX8_move_22 : decode cX8_move 22 = .ok (.aload_n 0, 1) := by decide +kernel
theorem dX8_move_23 : decode cX8_move 23 = .ok (.getfield 21, 3) := by decide +kernel
theorem dX8_move_26 : decode cX8_move 26 = .ok (.getfield 192, 3) := by decide +kernel
theorem dX8_move_29 : decode cX8_move 29 = .ok (.ifCond .ne 27, 3) := by decide +kernel
theorem dX8_move_32 : decode cX8_move 32 = .ok (.aload_n 0, 1) := by decide +kernel
theorem dX8_move_33 : decode cX8_move 33 = .ok (.getfield 21, 3) := by decide +kernel
theorem dX8_move_36 : decode cX8_move 36 = .ok (.invokevirtual 164, 3) := by decide +kernel
theorem dX8_move_39 : decode cX8_move 39 = .ok (.ifCond .ne 17, 3) := by decide +kernel
theorem dX8_move_42 : decode cX8_move 42 = .ok (.aload_n 0, 1) := by decide +kernel
theorem dX8_move_43 : decode cX8_move 43 = .ok (.getfield 21, 3) := by decide +kernel
theorem dX8_move_46 : decode cX8_move 46 = .ok (.getfield 92, 3) := by decide +kernel
theorem dX8_move_49 : decode cX8_move 49 = .ok (.iload_n 1, 1) := by decide +kernel
theorem dX8_move_50 : decode cX8_move 50 = .ok (.invokevirtual 196, 3) := by decide +kernel
theorem dX8_move_53 : decode cX8_move 53 = .ok (.ifCond .ne 6, 3) := by decide +kernel
theorem dX8_move_56 : decode cX8_move 56 = .ok (.bipush (-2), 2) := by decide +kernel
theorem dX8_move_58 : decode cX8_move 58 = .ok (.ireturn, 1) := by decide +kernel
theorem dX8_move_59 : decode cX8_move 59 = .ok (.aload_n 0, 1) := by decide +kernel
theorem dX8_move_60 : decode cX8_move 60 = .ok (.getfield 21, 3) := by decide +kernel
theorem dX8_move_63 : decode cX8_move 63 = .ok (.iload_n 1, 1) := by decide +kernel
theorem dX8_move_64 : decode cX8_move 64 = .ok (.invokevirtual 199, 3) := by decide +kernel
theorem dX8_move_67 : decode cX8_move 67 = .ok (.aload_n 0, 1) := by decide +kernel
theorem dX8_move_68 : decode cX8_move 68 = .ok (.getfield 21, 3) := by decide +kernel
theorem dX8_move_71 : decode cX8_move 71 = .ok (.invokevirtual 132, 3) := by decide +kernel
theorem dX8_move_74 : decode cX8_move 74 = .ok (.ireturn, 1) := by decide +kernel
set_option maxRecDepth 20000 in
theorem ggX8_heel_X4_isLost : GoodIn wsX8_heel wsX4_isLost := goodIn_r _ [10, 11, 109, 110, 111, 112, 113, 114, 115, 116, 117, 118, 119, 120, 121, 122] (by decide +kernel) (by decide +kernel)
set_option maxRecDepth 20000 in
theorem gX8_heel_X4_isLost : GoodIn wsX8_heel (wsV RX8 164 RX4 yX4_isLost wsX4_isLost) := goodIn_app (goodIn_of _ (by decide +kernel)) ggX8_heel_X4_isLost
set_option maxRecDepth 20000 in
theorem ggX8_heel_X8_within : GoodIn wsX8_heel wsX8_within := goodIn_r _ [15] (by decide +kernel) (by decide +kernel)
set_option maxRecDepth 20000 in
theorem gX8_heel_X8_within : GoodIn wsX8_heel (va_wsS RX8 56 yX8_within wsX8_within) := goodIn_app (goodIn_of _ (by decide +kernel)) ggX8_heel_X8_within
set_option maxRecDepth 20000 in
theorem ggX8_heel_X5_rainsIn : GoodIn wsX8_heel wsX5_rainsIn := goodIn_r _ [20, 21, 22, 23, 24, 25, 26, 27, 28, 123, 124, 125] (by decide +kernel) (by decide +kernel)
set_option maxRecDepth 20000 in
theorem gX8_heel_X5_rainsIn : GoodIn wsX8_heel (wsV RX8 156 RX5 yX5_rainsIn wsX5_rainsIn) := goodIn_app (goodIn_of _ (by decide +kernel)) ggX8_heel_X5_rainsIn
set_option maxRecDepth 20000 in
theorem ggX8_heel_X4_holds : GoodIn wsX8_heel wsX4_holds := goodIn_r _ [32, 33, 34, 35, 36, 37, 38, 39, 9, 40, 41, 42, 24, 43, 44, 45, 46, 47, 48, 49, 50, 51, 52, 53, 54, 55, 56, 57, 14, 58, 59, 60, 61, 62, 63, 64, 65, 66, 67, 68, 69, 70, 71, 72, 73, 74, 75, 76, 77, 78, 79, 80, 81, 82, 83, 84, 85, 86, 87, 88, 89, 90, 91, 92, 93, 94, 95, 96, 97, 98, 99, 100, 101, 109, 110, 111, 112, 113, 114, 115, 116, 117, 118, 119, 120, 121, 122, 126, 127, 128, 129, 130, 123, 124, 125, 131, 132, 133, 134] (by decide +kernel) (by decide +kernel)
set_option maxRecDepth 20000 in
theorem gX8_heel_X4_holds : GoodIn wsX8_heel (wsV RX8 160 RX4 yX4_holds wsX4_holds) := goodIn_app (goodIn_of _ (by decide +kernel)) ggX8_heel_X4_holds
theorem dX8_heel_0 : decode cX8_heel 0 = .ok (.iload_n 1, 1) := by decide +kernel
theorem dX8_heel_1 : decode cX8_heel 1 = .ok (.iconst 1, 1) := by decide +kernel
theorem dX8_heel_2 : decode cX8_heel 2 = .ok (.if_icmp .eq 11, 3) := by decide +kernel
theorem dX8_heel_5 : decode cX8_heel 5 = .ok (.iload_n 1, 1) := by decide +kernel
theorem dX8_heel_6 : decode cX8_heel 6 = .ok (.iconst (-1), 1) := by decide +kernel
theorem dX8_heel_7 : decode cX8_heel 7 = .ok (.if_icmp .eq 6, 3) := by decide +kernel
theorem dX8_heel_10 : decode cX8_heel 10 = .ok (.bipush (-100), 2) := by decide +kernel
theorem dX8_heel_12 : decode cX8_heel 12 = .ok (.ireturn, 1) := by decide +kernel
theorem dX8_heel_13 : decode cX8_heel 13 = .ok (.aload_n 0, 1) := by decide +kernel
theorem dX8_heel_14 : decode cX8_heel 14 = .ok (.getfield 21, 3) := by decide +kernel
theorem dX8_heel_17 : decode cX8_heel 17 = .ok (.getfield 140, 3) := by decide +kernel
theorem dX8_heel_20 : decode cX8_heel 20 = .ok (.iload_n 1, 1) := by decide +kernel
theorem dX8_heel_21 : decode cX8_heel 21 = .ok (.iadd, 1) := by decide +kernel
theorem dX8_heel_22 : decode cX8_heel 22 = .ok (.istore_n 2, 1) := by decide +kernel
theorem dX8_heel_23 : decode cX8_heel 23 = .ok (.aload_n 0, 1) := by decide +kernel
theorem dX8_heel_24 : decode cX8_heel 24 = .ok (.getfield 21, 3) := by decide +kernel
theorem dX8_heel_27 : decode cX8_heel 27 = .ok (.getfield 203, 3) := by decide +kernel
theorem dX8_heel_30 : decode cX8_heel 30 = .ok (.ifCond .ne 24, 3) := by decide +kernel
theorem dX8_heel_33 : decode cX8_heel 33 = .ok (.aload_n 0, 1) := by decide +kernel
theorem dX8_heel_34 : decode cX8_heel 34 = .ok (.getfield 21, 3) := by decide +kernel
theorem dX8_heel_37 : decode cX8_heel 37 = .ok (.invokevirtual 164, 3) := by decide +kernel
theorem dX8_heel_40 : decode cX8_heel 40 = .ok (.ifCond .ne 14, 3) := by decide +kernel
theorem dX8_heel_43 : decode cX8_heel 43 = .ok (.iload_n 2, 1) := by decide +kernel
theorem dX8_heel_44 : decode cX8_heel 44 = .ok (.bipush (-9), 2) := by decide +kernel
theorem dX8_heel_46 : decode cX8_heel 46 = .ok (.bipush 9, 2) := by decide +kernel
theorem dX8_heel_48 : decode cX8_heel 48 = .ok (.invokestatic 56, 3) := by decide +kernel
theorem dX8_heel_51 : decode cX8_heel 51 = .ok (.ifCond .ne 6, 3) := by decide +kernel
theorem dX8_heel_54 : decode cX8_heel 54 = .ok (.bipush (-102), 2) := by decide +kernel
theorem dX8_heel_56 : decode cX8_heel 56 = .ok (.ireturn, 1) := by decide +kernel
theorem dX8_heel_57 : decode cX8_heel 57 = .ok (.aload_n 0, 1) := by decide +kernel
theorem dX8_heel_58 : decode cX8_heel 58 = .ok (.getfield 21, 3) := by decide +kernel
theorem dX8_heel_61 : decode cX8_heel 61 = .ok (.iload_n 2, 1) := by decide +kernel
theorem dX8_heel_62 : decode cX8_heel 62 = .ok (.aload_n 0, 1) := by decide +kernel
theorem dX8_heel_63 : decode cX8_heel 63 = .ok (.getfield 10, 3) := by decide +kernel
theorem dX8_heel_66 : decode cX8_heel 66 = .ok (.aload_n 0, 1) := by decide +kernel
theorem dX8_heel_67 : decode cX8_heel 67 = .ok (.getfield 21, 3) := by decide +kernel
theorem dX8_heel_70 : decode cX8_heel 70 = .ok (.getfield 153, 3) := by decide +kernel
theorem dX8_heel_73 : decode cX8_heel 73 = .ok (.invokevirtual 156, 3) := by decide +kernel
theorem dX8_heel_76 : decode cX8_heel 76 = .ok (.invokevirtual 160, 3) := by decide +kernel
theorem dX8_heel_79 : decode cX8_heel 79 = .ok (.ifCond .ne 6, 3) := by decide +kernel
theorem dX8_heel_82 : decode cX8_heel 82 = .ok (.bipush (-102), 2) := by decide +kernel
theorem dX8_heel_84 : decode cX8_heel 84 = .ok (.ireturn, 1) := by decide +kernel
theorem dX8_heel_85 : decode cX8_heel 85 = .ok (.aload_n 0, 1) := by decide +kernel
theorem dX8_heel_86 : decode cX8_heel 86 = .ok (.getfield 21, 3) := by decide +kernel
theorem dX8_heel_89 : decode cX8_heel 89 = .ok (.iload_n 2, 1) := by decide +kernel
theorem dX8_heel_90 : decode cX8_heel 90 = .ok (.putfield 140, 3) := by decide +kernel
theorem dX8_heel_93 : decode cX8_heel 93 = .ok (.aload_n 0, 1) := by decide +kernel
theorem dX8_heel_94 : decode cX8_heel 94 = .ok (.getfield 21, 3) := by decide +kernel
theorem dX8_heel_97 : decode cX8_heel 97 = .ok (.iconst 1, 1) := by decide +kernel
theorem dX8_heel_98 : decode cX8_heel 98 = .ok (.putfield 203, 3) := by decide +kernel
theorem dX8_heel_101 : decode cX8_heel 101 = .ok (.iload_n 2, 1) := by decide +kernel
theorem dX8_heel_102 : decode cX8_heel 102 = .ok (.ireturn, 1) := by decide +kernel
set_option maxRecDepth 20000 in
theorem ggX8_hour_X4_isLost : GoodIn wsX8_hour wsX4_isLost := goodIn_r _ [10, 11, 164, 165, 166, 167, 168, 169, 170, 171, 172, 173, 174, 175, 176, 177] (by decide +kernel) (by decide +kernel)
set_option maxRecDepth 20000 in
theorem gX8_hour_X4_isLost : GoodIn wsX8_hour (wsV RX8 164 RX4 yX4_isLost wsX4_isLost) := goodIn_app (goodIn_of _ (by decide +kernel)) ggX8_hour_X4_isLost
set_option maxRecDepth 20000 in
theorem ggX8_hour_X4_passHour : GoodIn wsX8_hour wsX4_passHour := goodIn_r _ [15, 16, 17, 18, 19, 20, 21, 22, 23, 24, 25, 26, 27, 28, 29, 30, 31, 32, 33, 34, 35, 9, 36, 37, 38, 39, 40, 41, 42, 43, 44, 45, 46, 47, 48, 49, 50, 51, 52, 53, 54, 55, 56, 57, 58, 59, 60, 61, 62, 63, 64, 65, 66, 67, 68, 69, 70, 71, 72, 73, 74, 75, 76, 77, 78, 79, 80, 81, 82, 83, 84, 85, 11, 86, 87, 88, 89, 90, 91, 92, 93, 94, 95, 96, 97, 98, 99, 100, 101, 102, 103, 104, 105, 106, 107, 108, 109, 110, 111, 112, 113, 114, 115, 116, 117, 118, 119, 120, 121, 122, 123, 124, 125, 126, 127, 128, 129, 130, 131, 132, 133, 134, 135, 136, 137, 138, 139, 140, 141, 142, 143, 144, 145, 146, 147, 148, 149, 150, 151, 152, 153, 154, 155, 156, 164, 165, 166, 167, 168, 169, 170, 171, 172, 173, 174, 175, 176, 177, 187, 188, 189, 178, 179, 180, 181, 182, 183, 184, 185, 186, 190, 191, 192, 193, 194, 195, 196, 197, 198] (by decide +kernel) (by decide +kernel)
set_option maxRecDepth 20000 in
theorem gX8_hour_X4_passHour : GoodIn wsX8_hour (wsV RX8 206 RX4 yX4_passHour wsX4_passHour) := goodIn_app (goodIn_of _ (by decide +kernel)) ggX8_hour_X4_passHour
theorem dX8_hour_0 : decode cX8_hour 0 = .ok (.iload_n 1, 1) := by decide +kernel
theorem dX8_hour_1 : decode cX8_hour 1 = .ok (.aload_n 0, 1) := by decide +kernel
theorem dX8_hour_2 : decode cX8_hour 2 = .ok (.getfield 21, 3) := by decide +kernel
theorem dX8_hour_5 : decode cX8_hour 5 = .ok (.getfield 122, 3) := by decide +kernel
theorem dX8_hour_8 : decode cX8_hour 8 = .ok (.getfield 126, 3) := by decide +kernel
theorem dX8_hour_11 : decode cX8_hour 11 = .ok (.iushr, 1) := by decide +kernel
theorem dX8_hour_12 : decode cX8_hour 12 = .ok (.ifCond .eq 5, 3) := by decide +kernel
theorem dX8_hour_15 : decode cX8_hour 15 = .ok (.iconst (-1), 1) := by decide +kernel
theorem dX8_hour_16 : decode cX8_hour 16 = .ok (.ireturn, 1) := by decide +kernel
theorem dX8_hour_17 : decode cX8_hour 17 = .ok (.aload_n 0, 1) := by decide +kernel
theorem dX8_hour_18 : decode cX8_hour 18 = .ok (.getfield 21, 3) := by decide +kernel
theorem dX8_hour_21 : decode cX8_hour 21 = .ok (.invokevirtual 164, 3) := by decide +kernel
theorem dX8_hour_24 : decode cX8_hour 24 = .ok (.ifCond .ne 15, 3) := by decide +kernel
theorem dX8_hour_27 : decode cX8_hour 27 = .ok (.aload_n 0, 1) := by decide +kernel
theorem dX8_hour_28 : decode cX8_hour 28 = .ok (.getfield 21, 3) := by decide +kernel
theorem dX8_hour_31 : decode cX8_hour 31 = .ok (.getfield 153, 3) := by decide +kernel
theorem dX8_hour_34 : decode cX8_hour 34 = .ok (.bipush 96, 2) := by decide +kernel
theorem dX8_hour_36 : decode cX8_hour 36 = .ok (.if_icmp .lt 6, 3) := by decide +kernel
theorem dX8_hour_39 : decode cX8_hour 39 = .ok (.bipush (-2), 2) := by decide +kernel
theorem dX8_hour_41 : decode cX8_hour 41 = .ok (.ireturn, 1) := by decide +kernel
theorem dX8_hour_42 : decode cX8_hour 42 = .ok (.aload_n 0, 1) := by decide +kernel
theorem dX8_hour_43 : decode cX8_hour 43 = .ok (.getfield 21, 3) := by decide +kernel
theorem dX8_hour_46 : decode cX8_hour 46 = .ok (.iload_n 1, 1) := by decide +kernel
theorem dX8_hour_47 : decode cX8_hour 47 = .ok (.invokevirtual 206, 3) := by decide +kernel
theorem dX8_hour_50 : decode cX8_hour 50 = .ok (.aload_n 0, 1) := by decide +kernel
theorem dX8_hour_51 : decode cX8_hour 51 = .ok (.getfield 21, 3) := by decide +kernel
theorem dX8_hour_54 : decode cX8_hour 54 = .ok (.getfield 146, 3) := by decide +kernel
theorem dX8_hour_57 : decode cX8_hour 57 = .ok (.ireturn, 1) := by decide +kernel
set_option maxRecDepth 20000 in
theorem ggX8_rig_X8_within : GoodIn wsX8_rig wsX8_within := goodIn_r _ [11] (by decide +kernel) (by decide +kernel)
set_option maxRecDepth 20000 in
theorem gX8_rig_X8_within : GoodIn wsX8_rig (va_wsS RX8 56 yX8_within wsX8_within) := goodIn_app (goodIn_of _ (by decide +kernel)) ggX8_rig_X8_within
set_option maxRecDepth 20000 in
theorem ggX8_rig_X5_rainsIn : GoodIn wsX8_rig wsX5_rainsIn := goodIn_r _ [16, 17, 18, 19, 20, 21, 22, 23, 24, 129, 130, 131] (by decide +kernel) (by decide +kernel)
set_option maxRecDepth 20000 in
theorem gX8_rig_X5_rainsIn : GoodIn wsX8_rig (wsV RX8 156 RX5 yX5_rainsIn wsX5_rainsIn) := goodIn_app (goodIn_of _ (by decide +kernel)) ggX8_rig_X5_rainsIn
set_option maxRecDepth 20000 in
theorem ggX8_rig_X4_holds : GoodIn wsX8_rig wsX4_holds := goodIn_r _ [29, 30, 31, 32, 33, 34, 35, 36, 28, 37, 38, 39, 20, 40, 41, 42, 43, 44, 45, 46, 47, 48, 49, 50, 51, 52, 53, 54, 10, 55, 56, 57, 58, 59, 60, 61, 62, 63, 64, 65, 66, 67, 68, 69, 70, 71, 72, 73, 74, 75, 76, 77, 78, 79, 80, 81, 82, 83, 84, 85, 86, 87, 88, 89, 90, 91, 92, 93, 94, 95, 96, 97, 98, 110, 111, 112, 113, 114, 115, 116, 117, 118, 119, 120, 121, 122, 123, 124, 125, 126, 127, 128, 129, 130, 131, 132, 133, 134, 135] (by decide +kernel) (by decide +kernel)
set_option maxRecDepth 20000 in
theorem gX8_rig_X4_holds : GoodIn wsX8_rig (wsV RX8 160 RX4 yX4_holds wsX4_holds) := goodIn_app (goodIn_of _ (by decide +kernel)) ggX8_rig_X4_holds
set_option maxRecDepth 20000 in
theorem ggX8_rig_X8_hasBit : GoodIn wsX8_rig wsX8_hasBit := goodIn_r _ [55] (by decide +kernel) (by decide +kernel)
set_option maxRecDepth 20000 in
theorem gX8_rig_X8_hasBit : GoodIn wsX8_rig (va_wsS RX8 104 yX8_hasBit wsX8_hasBit) := goodIn_app (goodIn_of _ (by decide +kernel)) ggX8_rig_X8_hasBit
set_option maxRecDepth 20000 in
theorem ggX8_rig_X8_asNumber : GoodIn wsX8_rig wsX8_asNumber := goodIn_r _ [102] (by decide +kernel) (by decide +kernel)
set_option maxRecDepth 20000 in
theorem gX8_rig_X8_asNumber : GoodIn wsX8_rig (va_wsS RX8 76 yX8_asNumber wsX8_asNumber) := goodIn_app (goodIn_of _ (by decide +kernel)) ggX8_rig_X8_asNumber
theorem dX8_rig_0 : decode cX8_rig 0 = .ok (.iload_n 1, 1) := by decide +kernel
theorem dX8_rig_1 : decode cX8_rig 1 = .ok (.iconst 0, 1) := by decide +kernel
theorem dX8_rig_2 : decode cX8_rig 2 = .ok (.aload_n 0, 1) := by decide +kernel
theorem dX8_rig_3 : decode cX8_rig 3 = .ok (.getfield 21, 3) := by decide +kernel
theorem dX8_rig_6 : decode cX8_rig 6 = .ok (.getfield 112, 3) := by decide +kernel
theorem dX8_rig_9 : decode cX8_rig 9 = .ok (.getfield 116, 3) := by decide +kernel
theorem dX8_rig_12 : decode cX8_rig 12 = .ok (.iconst 1, 1) := by decide +kernel
theorem dX8_rig_13 : decode cX8_rig 13 = .ok (.isub, 1) := by decide +kernel
theorem dX8_rig_14 : decode cX8_rig 14 = .ok (.invokestatic 56, 3) := by decide +kernel
theorem dX8_rig_17 : decode cX8_rig 17 = .ok (.ifCond .ne 5, 3) := by decide +kernel
theorem dX8_rig_20 : decode cX8_rig 20 = .ok (.iconst (-1), 1) := by decide +kernel
theorem dX8_rig_21 : decode cX8_rig 21 = .ok (.ireturn, 1) := by decide +kernel
theorem dX8_rig_22 : decode cX8_rig 22 = .ok (.aload_n 0, 1) := by decide +kernel
theorem dX8_rig_23 : decode cX8_rig 23 = .ok (.getfield 21, 3) := by decide +kernel
theorem dX8_rig_26 : decode cX8_rig 26 = .ok (.getfield 112, 3) := by decide +kernel
theorem dX8_rig_29 : decode cX8_rig 29 = .ok (.getfield 167, 3) := by decide +kernel
theorem dX8_rig_32 : decode cX8_rig 32 = .ok (.istore_n 3, 1) := by decide +kernel
theorem dX8_rig_33 : decode cX8_rig 33 = .ok (.aload_n 0, 1) := by decide +kernel
theorem dX8_rig_34 : decode cX8_rig 34 = .ok (.getfield 21, 3) := by decide +kernel
theorem dX8_rig_37 : decode cX8_rig 37 = .ok (.getfield 112, 3) := by decide +kernel
theorem dX8_rig_40 : decode cX8_rig 40 = .ok (.iload_n 2, 1) := by decide +kernel
theorem dX8_rig_41 : decode cX8_rig 41 = .ok (.ifCond .eq 11, 3) := by decide +kernel
theorem dX8_rig_44 : decode cX8_rig 44 = .ok (.iload_n 3, 1) := by decide +kernel
theorem dX8_rig_45 : decode cX8_rig 45 = .ok (.iconst 1, 1) := by decide +kernel
theorem dX8_rig_46 : decode cX8_rig 46 = .ok (.iload_n 1, 1) := by decide +kernel
theorem dX8_rig_47 : decode cX8_rig 47 = .ok (.ishl, 1) := by decide +kernel
theorem dX8_rig_48 : decode cX8_rig 48 = .ok (.ior, 1) := by decide +kernel
theorem dX8_rig_49 : decode cX8_rig 49 = .ok (.goto 10, 3) := by decide +kernel
theorem dX8_rig_52 : decode cX8_rig 52 = .ok (.iload_n 3, 1) := by decide +kernel
theorem dX8_rig_53 : decode cX8_rig 53 = .ok (.iconst 1, 1) := by decide +kernel
theorem dX8_rig_54 : decode cX8_rig 54 = .ok (.iload_n 1, 1) := by decide +kernel
theorem dX8_rig_55 : decode cX8_rig 55 = .ok (.ishl, 1) := by decide +kernel
theorem dX8_rig_56 : decode cX8_rig 56 = .ok (.iconst (-1), 1) := by decide +kernel
theorem dX8_rig_57 : decode cX8_rig 57 = .ok (.ixor, 1) := by decide +kernel
theorem dX8_rig_58 : decode cX8_rig 58 = .ok (.iand, 1) := by decide +kernel
theorem dX8_rig_59 : decode cX8_rig 59 = .ok (.putfield 167, 3) := by decide +kernel
theorem dX8_rig_62 : decode cX8_rig 62 = .ok (.aload_n 0, 1) := by decide +kernel
theorem dX8_rig_63 : decode cX8_rig 63 = .ok (.getfield 21, 3) := by decide +kernel
theorem dX8_rig_66 : decode cX8_rig 66 = .ok (.aload_n 0, 1) := by decide +kernel
theorem dX8_rig_67 : decode cX8_rig 67 = .ok (.getfield 21, 3) := by decide +kernel
theorem dX8_rig_70 : decode cX8_rig 70 = .ok (.getfield 140, 3) := by decide +kernel
theorem dX8_rig_73 : decode cX8_rig 73 = .ok (.aload_n 0, 1) := by decide +kernel
theorem dX8_rig_74 : decode cX8_rig 74 = .ok (.getfield 10, 3) := by decide +kernel
theorem dX8_rig_77 : decode cX8_rig 77 = .ok (.aload_n 0, 1) := by decide +kernel
theorem dX8_rig_78 : decode cX8_rig 78 = .ok (.getfield 21, 3) := by decide +kernel
theorem dX8_rig_81 : decode cX8_rig 81 = .ok (.getfield 153, 3) := by decide +kernel
theorem dX8_rig_84 : decode cX8_rig 84 = .ok (.invokevirtual 156, 3) := by decide +kernel
theorem dX8_rig_87 : decode cX8_rig 87 = .ok (.invokevirtual 160, 3) := by decide +kernel
theorem dX8_rig_90 : decode cX8_rig 90 = .ok (.ifCond .ne 17, 3) := by decide +kernel
theorem dX8_rig_93 : decode cX8_rig 93 = .ok (.aload_n 0, 1) := by decide +kernel
theorem dX8_rig_94 : decode cX8_rig 94 = .ok (.getfield 21, 3) := by decide +kernel
theorem dX8_rig_97 : decode cX8_rig 97 = .ok (.getfield 112, 3) := by decide +kernel
theorem dX8_rig_100 : decode cX8_rig 100 = .ok (.iload_n 3, 1) := by decide +kernel
theorem dX8_rig_101 : decode cX8_rig 101 = .ok (.putfield 167, 3) := by decide +kernel
theorem dX8_rig_104 : decode cX8_rig 104 = .ok (.bipush (-2), 2) := by decide +kernel
theorem dX8_rig_106 : decode cX8_rig 106 = .ok (.ireturn, 1) := by decide +kernel
theorem dX8_rig_107 : decode cX8_rig 107 = .ok (.iload_n 3, 1) := by decide +kernel
theorem dX8_rig_108 : decode cX8_rig 108 = .ok (.iload_n 1, 1) := by decide +kernel
theorem dX8_rig_109 : decode cX8_rig 109 = .ok (.invokestatic 104, 3) := by decide +kernel
theorem dX8_rig_112 : decode cX8_rig 112 = .ok (.invokestatic 76, 3) := by decide +kernel
theorem dX8_rig_115 : decode cX8_rig 115 = .ok (.ireturn, 1) := by decide +kernel
set_option maxRecDepth 20000 in
theorem ggX8_plan_X8_within : GoodIn wsX8_plan wsX8_within := goodIn_r _ [10] (by decide +kernel) (by decide +kernel)
set_option maxRecDepth 20000 in
theorem gX8_plan_X8_within : GoodIn wsX8_plan (va_wsS RX8 56 yX8_within wsX8_within) := goodIn_app (goodIn_of _ (by decide +kernel)) ggX8_plan_X8_within
set_option maxRecDepth 20000 in
theorem ggX8_plan_X8_mayPlan : GoodIn wsX8_plan wsX8_mayPlan := goodIn_r _ [14, 1, 15, 16, 17, 18, 19, 20, 21, 125, 126, 127, 128, 129, 130, 131, 132, 133, 134, 135, 136, 137, 138, 139, 140, 141, 142, 143, 144, 145] (by decide +kernel) (by decide +kernel)
set_option maxRecDepth 20000 in
theorem gX8_plan_X8_mayPlan : GoodIn wsX8_plan (wsV RX8 209 RX8 yX8_mayPlan wsX8_mayPlan) := goodIn_app (goodIn_of _ (by decide +kernel)) ggX8_plan_X8_mayPlan
set_option maxRecDepth 20000 in
theorem ggX8_plan_X2_make : GoodIn wsX8_plan wsX2_make := goodIn_r _ [26, 27, 28, 29, 30, 31, 32, 33, 34, 35, 36, 37, 25, 38, 39, 40, 41, 42, 43, 44, 45, 46, 47, 48, 49, 50, 51, 52, 53, 54, 55, 56, 57, 58, 59, 60, 61, 62, 63, 64, 65, 66, 67, 68, 69, 70, 71, 72, 73, 74, 19, 75, 76, 77, 78, 79, 80, 81, 82, 83, 84, 85, 86, 87, 88, 89, 90, 91, 92, 93, 94, 95, 96, 97, 98, 99, 100, 101, 102, 9, 103, 104, 105, 106, 107, 108, 109, 110, 111, 112, 113, 114, 115, 116, 132, 133, 134, 135, 136, 137, 138, 139, 140, 141, 142, 143, 144, 145, 166, 167, 168, 155, 156, 157, 158, 159, 160, 161, 162, 163, 164, 165, 146, 147, 148, 149, 150, 151, 152, 153, 154] (by decide +kernel) (by decide +kernel)
set_option maxRecDepth 20000 in
theorem gX8_plan_X2_make : GoodIn wsX8_plan (wsV RX8 212 RX2 yX2_make wsX2_make) := goodIn_app (goodIn_of _ (by decide +kernel)) ggX8_plan_X2_make
set_option maxRecDepth 20000 in
theorem ggX8_plan_X2_seamBits : GoodIn wsX8_plan wsX2_seamBits := goodIn_r _ [120, 34, 31, 42, 102, 9, 103, 155, 156, 157, 158, 159, 160, 161, 162, 163, 164, 165] (by decide +kernel) (by decide +kernel)
set_option maxRecDepth 20000 in
theorem gX8_plan_X2_seamBits : GoodIn wsX8_plan (wsV RX8 220 RX2 yX2_seamBits wsX2_seamBits) := goodIn_app (goodIn_of _ (by decide +kernel)) ggX8_plan_X2_seamBits
set_option maxRecDepth 20000 in
theorem ggX8_plan_X2_beginningOf : GoodIn wsX8_plan wsX2_beginningOf := goodIn_r _ [124, 34, 31, 42, 97, 102, 9, 103, 155, 156, 157, 158, 159, 160, 161, 162, 163, 164, 165] (by decide +kernel) (by decide +kernel)
set_option maxRecDepth 20000 in
theorem gX8_plan_X2_beginningOf : GoodIn wsX8_plan (wsV RX8 223 RX2 yX2_beginningOf wsX2_beginningOf) := goodIn_app (goodIn_of _ (by decide +kernel)) ggX8_plan_X2_beginningOf
theorem dX8_plan_0 : decode cX8_plan 0 = .ok (.iload_n 1, 1) := by decide +kernel
theorem dX8_plan_1 : decode cX8_plan 1 = .ok (.iconst 1, 1) := by decide +kernel
theorem dX8_plan_2 : decode cX8_plan 2 = .ok (.bipush 6, 2) := by decide +kernel
theorem dX8_plan_4 : decode cX8_plan 4 = .ok (.invokestatic 56, 3) := by decide +kernel
theorem dX8_plan_7 : decode cX8_plan 7 = .ok (.ifCond .eq 23, 3) := by decide +kernel
theorem dX8_plan_10 : decode cX8_plan 10 = .ok (.iload_n 2, 1) := by decide +kernel
theorem dX8_plan_11 : decode cX8_plan 11 = .ok (.iconst 0, 1) := by decide +kernel
theorem dX8_plan_12 : decode cX8_plan 12 = .ok (.iconst 2, 1) := by decide +kernel
theorem dX8_plan_13 : decode cX8_plan 13 = .ok (.aload_n 0, 1) := by decide +kernel
theorem dX8_plan_14 : decode cX8_plan 14 = .ok (.getfield 21, 3) := by decide +kernel
theorem dX8_plan_17 : decode cX8_plan 17 = .ok (.getfield 122, 3) := by decide +kernel
theorem dX8_plan_20 : decode cX8_plan 20 = .ok (.getfield 126, 3) := by decide +kernel
theorem dX8_plan_23 : decode cX8_plan 23 = .ok (.iadd, 1) := by decide +kernel
theorem dX8_plan_24 : decode cX8_plan 24 = .ok (.invokestatic 56, 3) := by decide +kernel
theorem dX8_plan_27 : decode cX8_plan 27 = .ok (.ifCond .ne 5, 3) := by decide +kernel
theorem dX8_plan_30 : decode cX8_plan 30 = .ok (.iconst (-1), 1) := by decide +kernel
theorem dX8_plan_31 : decode cX8_plan 31 = .ok (.ireturn, 1) := by decide +kernel
theorem dX8_plan_32 : decode cX8_plan 32 = .ok (.aload_n 0, 1) := by decide +kernel
theorem dX8_plan_33 : decode cX8_plan 33 = .ok (.iload_n 1, 1) := by decide +kernel
theorem dX8_plan_34 : decode cX8_plan 34 = .ok (.invokevirtual 209, 3) := by decide +kernel
theorem dX8_plan_37 : decode cX8_plan 37 = .ok (.ifCond .ne 6, 3) := by decide +kernel
theorem dX8_plan_40 : decode cX8_plan 40 = .ok (.bipush (-2), 2) := by decide +kernel
theorem dX8_plan_42 : decode cX8_plan 42 = .ok (.ireturn, 1) := by decide +kernel
theorem dX8_plan_43 : decode cX8_plan 43 = .ok (.aload_n 0, 1) := by decide +kernel
theorem dX8_plan_44 : decode cX8_plan 44 = .ok (.getfield 32, 3) := by decide +kernel
theorem dX8_plan_47 : decode cX8_plan 47 = .ok (.aload_n 0, 1) := by decide +kernel
theorem dX8_plan_48 : decode cX8_plan 48 = .ok (.getfield 21, 3) := by decide +kernel
theorem dX8_plan_51 : decode cX8_plan 51 = .ok (.iload_n 1, 1) := by decide +kernel
theorem dX8_plan_52 : decode cX8_plan 52 = .ok (.invokevirtual 212, 3) := by decide +kernel
theorem dX8_plan_55 : decode cX8_plan 55 = .ok (.iload_n 2, 1) := by decide +kernel
theorem dX8_plan_56 : decode cX8_plan 56 = .ok (.tableswitch 52 0 2 #[28, 36, 44], 28) := by decide +kernel
theorem dX8_plan_84 : decode cX8_plan 84 = .ok (.aload_n 0, 1) := by decide +kernel
theorem dX8_plan_85 : decode cX8_plan 85 = .ok (.getfield 32, 3) := by decide +kernel
theorem dX8_plan_88 : decode cX8_plan 88 = .ok (.getfield 216, 3) := by decide +kernel
theorem dX8_plan_91 : decode cX8_plan 91 = .ok (.ireturn, 1) := by decide +kernel
theorem dX8_plan_92 : decode cX8_plan 92 = .ok (.aload_n 0, 1) := by decide +kernel
theorem dX8_plan_93 : decode cX8_plan 93 = .ok (.getfield 32, 3) := by decide +kernel
theorem dX8_plan_96 : decode cX8_plan 96 = .ok (.getfield 219, 3) := by decide +kernel
theorem dX8_plan_99 : decode cX8_plan 99 = .ok (.ireturn, 1) := by decide +kernel
theorem dX8_plan_100 : decode cX8_plan 100 = .ok (.aload_n 0, 1) := by decide +kernel
theorem dX8_plan_101 : decode cX8_plan 101 = .ok (.getfield 32, 3) := by decide +kernel
theorem dX8_plan_104 : decode cX8_plan 104 = .ok (.invokevirtual 220, 3) := by decide +kernel
theorem dX8_plan_107 : decode cX8_plan 107 = .ok (.ireturn, 1) := by decide +kernel
theorem dX8_plan_108 : decode cX8_plan 108 = .ok (.aload_n 0, 1) := by decide +kernel
theorem dX8_plan_109 : decode cX8_plan 109 = .ok (.getfield 32, 3) := by decide +kernel
theorem dX8_plan_112 : decode cX8_plan 112 = .ok (.iload_n 2, 1) := by decide +kernel
theorem dX8_plan_113 : decode cX8_plan 113 = .ok (.iconst 3, 1) := by decide +kernel
theorem dX8_plan_114 : decode cX8_plan 114 = .ok (.isub, 1) := by decide +kernel
theorem dX8_plan_115 : decode cX8_plan 115 = .ok (.invokevirtual 223, 3) := by decide +kernel
theorem dX8_plan_118 : decode cX8_plan 118 = .ok (.ireturn, 1) := by decide +kernel
set_option maxRecDepth 20000 in
theorem ggX8_orders_X8_within : GoodIn wsX8_orders wsX8_within := goodIn_r _ [6] (by decide +kernel) (by decide +kernel)
set_option maxRecDepth 20000 in
theorem gX8_orders_X8_within : GoodIn wsX8_orders (va_wsS RX8 56 yX8_within wsX8_within) := goodIn_app (goodIn_of _ (by decide +kernel)) ggX8_orders_X8_within
set_option maxRecDepth 20000 in
theorem ggX8_orders_X8_mayPlan : GoodIn wsX8_orders wsX8_mayPlan := goodIn_r _ [10, 2, 11, 12, 13, 14, 15, 16, 17, 117, 118, 119, 120, 121, 122, 123, 124, 125, 126, 127, 128, 129, 130, 131, 132, 133, 134, 135, 136, 137] (by decide +kernel) (by decide +kernel)
set_option maxRecDepth 20000 in
theorem gX8_orders_X8_mayPlan : GoodIn wsX8_orders (wsV RX8 209 RX8 yX8_mayPlan wsX8_mayPlan) := goodIn_app (goodIn_of _ (by decide +kernel)) ggX8_orders_X8_mayPlan
set_option maxRecDepth 20000 in
theorem ggX8_orders_X2_make : GoodIn wsX8_orders wsX2_make := goodIn_r _ [22, 23, 24, 25, 26, 27, 28, 29, 30, 31, 32, 33, 21, 34, 35, 36, 37, 38, 39, 40, 41, 42, 43, 44, 45, 46, 47, 48, 49, 50, 51, 52, 53, 54, 55, 56, 57, 58, 59, 60, 61, 62, 63, 64, 65, 66, 67, 68, 69, 70, 15, 71, 72, 73, 74, 75, 76, 77, 78, 79, 80, 81, 82, 83, 84, 85, 86, 87, 88, 89, 90, 91, 92, 93, 94, 95, 96, 97, 98, 5, 99, 100, 101, 102, 103, 104, 105, 106, 107, 108, 109, 110, 111, 112, 124, 125, 126, 127, 128, 129, 130, 131, 132, 133, 134, 135, 136, 137, 138, 139, 140, 141, 142, 143, 144, 145, 146, 147, 148, 149, 150, 151, 152, 153, 154, 155, 156, 157, 158, 159, 160] (by decide +kernel) (by decide +kernel)
set_option maxRecDepth 20000 in
theorem gX8_orders_X2_make : GoodIn wsX8_orders (wsV RX8 212 RX2 yX2_make wsX2_make) := goodIn_app (goodIn_of _ (by decide +kernel)) ggX8_orders_X2_make
set_option maxRecDepth 20000 in
theorem ggX8_orders_X2_ordersOf : GoodIn wsX8_orders wsX2_ordersOf := goodIn_r _ [116, 30, 27, 93, 39, 38, 98, 5, 99, 141, 142, 143, 144, 145, 146, 147, 148, 149, 150, 151] (by decide +kernel) (by decide +kernel)
set_option maxRecDepth 20000 in
theorem gX8_orders_X2_ordersOf : GoodIn wsX8_orders (wsV RX8 226 RX2 yX2_ordersOf wsX2_ordersOf) := goodIn_app (goodIn_of _ (by decide +kernel)) ggX8_orders_X2_ordersOf
theorem dX8_orders_0 : decode cX8_orders 0 = .ok (.iload_n 1, 1) := by decide +kernel
theorem dX8_orders_1 : decode cX8_orders 1 = .ok (.iconst 1, 1) := by decide +kernel
theorem dX8_orders_2 : decode cX8_orders 2 = .ok (.bipush 6, 2) := by decide +kernel
theorem dX8_orders_4 : decode cX8_orders 4 = .ok (.invokestatic 56, 3) := by decide +kernel
theorem dX8_orders_7 : decode cX8_orders 7 = .ok (.ifCond .eq 14, 3) := by decide +kernel
theorem dX8_orders_10 : decode cX8_orders 10 = .ok (.iload_n 2, 1) := by decide +kernel
theorem dX8_orders_11 : decode cX8_orders 11 = .ok (.iconst 0, 1) := by decide +kernel
theorem dX8_orders_12 : decode cX8_orders 12 = .ok (.iload_n 1, 1) := by decide +kernel
theorem dX8_orders_13 : decode cX8_orders 13 = .ok (.iconst 1, 1) := by decide +kernel
theorem dX8_orders_14 : decode cX8_orders 14 = .ok (.isub, 1) := by decide +kernel
theorem dX8_orders_15 : decode cX8_orders 15 = .ok (.invokestatic 56, 3) := by decide +kernel
theorem dX8_orders_18 : decode cX8_orders 18 = .ok (.ifCond .ne 5, 3) := by decide +kernel
theorem dX8_orders_21 : decode cX8_orders 21 = .ok (.iconst (-1), 1) := by decide +kernel
theorem dX8_orders_22 : decode cX8_orders 22 = .ok (.ireturn, 1) := by decide +kernel
theorem dX8_orders_23 : decode cX8_orders 23 = .ok (.aload_n 0, 1) := by decide +kernel
theorem dX8_orders_24 : decode cX8_orders 24 = .ok (.iload_n 1, 1) := by decide +kernel
theorem dX8_orders_25 : decode cX8_orders 25 = .ok (.invokevirtual 209, 3) := by decide +kernel
theorem dX8_orders_28 : decode cX8_orders 28 = .ok (.ifCond .ne 6, 3) := by decide +kernel
theorem dX8_orders_31 : decode cX8_orders 31 = .ok (.bipush (-2), 2) := by decide +kernel
theorem dX8_orders_33 : decode cX8_orders 33 = .ok (.ireturn, 1) := by decide +kernel
theorem dX8_orders_34 : decode cX8_orders 34 = .ok (.aload_n 0, 1) := by decide +kernel
theorem dX8_orders_35 : decode cX8_orders 35 = .ok (.getfield 32, 3) := by decide +kernel
theorem dX8_orders_38 : decode cX8_orders 38 = .ok (.aload_n 0, 1) := by decide +kernel
theorem dX8_orders_39 : decode cX8_orders 39 = .ok (.getfield 21, 3) := by decide +kernel
theorem dX8_orders_42 : decode cX8_orders 42 = .ok (.iload_n 1, 1) := by decide +kernel
theorem dX8_orders_43 : decode cX8_orders 43 = .ok (.invokevirtual 212, 3) := by decide +kernel
theorem dX8_orders_46 : decode cX8_orders 46 = .ok (.aload_n 0, 1) := by decide +kernel
theorem dX8_orders_47 : decode cX8_orders 47 = .ok (.getfield 32, 3) := by decide +kernel
theorem dX8_orders_50 : decode cX8_orders 50 = .ok (.iload_n 2, 1) := by decide +kernel
theorem dX8_orders_51 : decode cX8_orders 51 = .ok (.invokevirtual 226, 3) := by decide +kernel
theorem dX8_orders_54 : decode cX8_orders 54 = .ok (.ireturn, 1) := by decide +kernel
set_option maxRecDepth 20000 in
theorem ggX8_mayPlan_X4_isLost : GoodIn wsX8_mayPlan wsX4_isLost := goodIn_r _ [7, 8, 16, 17, 18, 19, 20, 21, 22, 23, 24, 25, 26, 27, 28, 29] (by decide +kernel) (by decide +kernel)
set_option maxRecDepth 20000 in
theorem gX8_mayPlan_X4_isLost : GoodIn wsX8_mayPlan (wsV RX8 164 RX4 yX4_isLost wsX4_isLost) := goodIn_app (goodIn_of _ (by decide +kernel)) ggX8_mayPlan_X4_isLost
theorem dX8_mayPlan_0 : decode cX8_mayPlan 0 = .ok (.aload_n 0, 1) := by decide +kernel
theorem dX8_mayPlan_1 : decode cX8_mayPlan 1 = .ok (.getfield 21, 3) := by decide +kernel
theorem dX8_mayPlan_4 : decode cX8_mayPlan 4 = .ok (.invokevirtual 164, 3) := by decide +kernel
theorem dX8_mayPlan_7 : decode cX8_mayPlan 7 = .ok (.ifCond .ne 21, 3) := by decide +kernel
theorem dX8_mayPlan_10 : decode cX8_mayPlan 10 = .ok (.aload_n 0, 1) := by decide +kernel
theorem dX8_mayPlan_11 : decode cX8_mayPlan 11 = .ok (.getfield 21, 3) := by decide +kernel
theorem dX8_mayPlan_14 : decode cX8_mayPlan 14 = .ok (.getfield 153, 3) := by decide +kernel
theorem dX8_mayPlan_17 : decode cX8_mayPlan 17 = .ok (.iload_n 1, 1) := by decide +kernel
theorem dX8_mayPlan_18 : decode cX8_mayPlan 18 = .ok (.iadd, 1) := by decide +kernel
theorem dX8_mayPlan_19 : decode cX8_mayPlan 19 = .ok (.bipush 96, 2) := by decide +kernel
theorem dX8_mayPlan_21 : decode cX8_mayPlan 21 = .ok (.if_icmp .gt 7, 3) := by decide +kernel
theorem dX8_mayPlan_24 : decode cX8_mayPlan 24 = .ok (.iconst 1, 1) := by decide +kernel
theorem dX8_mayPlan_25 : decode cX8_mayPlan 25 = .ok (.goto 4, 3) := by decide +kernel
theorem dX8_mayPlan_28 : decode cX8_mayPlan 28 = .ok (.iconst 0, 1) := by decide +kernel
theorem dX8_mayPlan_29 : decode cX8_mayPlan 29 = .ok (.ireturn, 1) := by decide +kernel
set_option maxRecDepth 20000 in
theorem ggX8_toFloat_X8_within : GoodIn wsX8_toFloat wsX8_within := goodIn_r _ [11] (by decide +kernel) (by decide +kernel)
set_option maxRecDepth 20000 in
theorem gX8_toFloat_X8_within : GoodIn wsX8_toFloat (va_wsS RX8 56 yX8_within wsX8_within) := goodIn_app (goodIn_of _ (by decide +kernel)) ggX8_toFloat_X8_within
set_option maxRecDepth 20000 in
theorem ggX8_toFloat_X4_isLost : GoodIn wsX8_toFloat wsX4_isLost := goodIn_r _ [16, 17, 249, 250, 251, 252, 253, 254, 255, 256, 257, 258, 259, 260, 261, 262] (by decide +kernel) (by decide +kernel)
set_option maxRecDepth 20000 in
theorem gX8_toFloat_X4_isLost : GoodIn wsX8_toFloat (wsV RX8 164 RX4 yX4_isLost wsX4_isLost) := goodIn_app (goodIn_of _ (by decide +kernel)) ggX8_toFloat_X4_isLost
set_option maxRecDepth 20000 in
theorem ggX8_toFloat_J6_bitCount_0f7a4 : GoodIn wsX8_toFloat wsJ6_bitCount_0f7a4 := goodIn_r _ [21, 22, 23, 24] (by decide +kernel) (by decide +kernel)
set_option maxRecDepth 20000 in
theorem gX8_toFloat_J6_bitCount_0f7a4 : GoodIn wsX8_toFloat (va_wsS RX8 229 yJ6_bitCount_0f7a4 wsJ6_bitCount_0f7a4) := goodIn_app (goodIn_of _ (by decide +kernel)) ggX8_toFloat_J6_bitCount_0f7a4
set_option maxRecDepth 20000 in
theorem ggX8_toFloat_X0_isFound : GoodIn wsX8_toFloat wsX0_isFound := goodIn_r _ [29, 30, 31, 32, 33, 34, 35, 36, 37, 38, 39, 40, 41, 42, 15, 43, 44, 45, 46, 47, 48, 17, 49, 50, 51, 52, 53, 54, 55, 56, 57, 58, 59, 60, 61, 62, 63, 64, 65, 66, 67, 68, 69, 70, 71, 72, 73, 74, 75, 76, 77, 78, 79, 80, 81, 82, 83, 84, 85, 86, 87, 88, 89, 90, 91, 92, 93, 94, 95, 13, 14, 16, 96, 97, 98, 99, 100, 101, 102, 103, 104, 105, 106, 107, 108, 109, 110, 111, 112, 113, 114, 115, 116, 117, 118, 119, 120, 121, 122, 123, 124, 10, 125, 126, 127, 128, 129, 130, 131, 132, 133, 134, 135, 136, 137, 138, 139, 140, 141, 142, 143, 144, 145, 146, 147, 148, 149, 150, 151, 152, 153, 154, 155, 156, 157, 158, 159, 160, 161, 162, 163, 164, 165, 166, 167, 168, 169, 170, 171, 172, 173, 174, 175, 176, 177, 178, 179, 180, 181, 182, 183, 184, 185, 19, 20, 21, 22, 23, 24, 186, 187, 188, 189, 190, 191, 192, 193, 194, 195, 196, 197, 198, 199, 200, 201, 202, 203, 204, 205, 206, 207, 208, 209, 210, 28, 211, 212, 213, 214, 215, 216, 217, 218, 219, 220, 221, 222, 223, 224, 225, 226, 227, 228, 229, 230, 231, 232, 233, 234, 235, 236, 237, 238, 239, 240, 241, 267, 268, 269, 270, 249, 250, 251, 252, 253, 254, 255, 256, 257, 258, 259, 260, 261, 262, 263, 264, 265, 266, 271, 272, 273, 274, 275, 276, 277, 278, 279, 280, 281, 282, 283, 284, 285, 286, 287] (by decide +kernel) (by decide +kernel)
set_option maxRecDepth 20000 in
theorem gX8_toFloat_X0_isFound : GoodIn wsX8_toFloat (wsV RX8 234 RX0 yX0_isFound wsX0_isFound) := goodIn_app (goodIn_of _ (by decide +kernel)) ggX8_toFloat_X0_isFound
theorem dX8_toFloat_0 : decode cX8_toFloat 0 = .ok (.iload_n 1, 1) := by decide +kernel
theorem dX8_toFloat_1 : decode cX8_toFloat 1 = .ok (.iconst 0, 1) := by decide +kernel
theorem dX8_toFloat_2 : decode cX8_toFloat 2 = .ok (.iconst 2, 1) := by decide +kernel
theorem dX8_toFloat_3 : decode cX8_toFloat 3 = .ok (.invokestatic 56, 3) := by decide +kernel
theorem dX8_toFloat_6 : decode cX8_toFloat 6 = .ok (.ifCond .ne 5, 3) := by decide +kernel
theorem dX8_toFloat_9 : decode cX8_toFloat 9 = .ok (.iconst (-1), 1) := by decide +kernel
theorem dX8_toFloat_10 : decode cX8_toFloat 10 = .ok (.ireturn, 1) := by decide +kernel
theorem dX8_toFloat_11 : decode cX8_toFloat 11 = .ok (.aload_n 0, 1) := by decide +kernel
theorem dX8_toFloat_12 : decode cX8_toFloat 12 = .ok (.getfield 21, 3) := by decide +kernel
theorem dX8_toFloat_15 : decode cX8_toFloat 15 = .ok (.invokevirtual 164, 3) := by decide +kernel
theorem dX8_toFloat_18 : decode cX8_toFloat 18 = .ok (.ifCond .ne 21, 3) := by decide +kernel
theorem dX8_toFloat_21 : decode cX8_toFloat 21 = .ok (.aload_n 0, 1) := by decide +kernel
theorem dX8_toFloat_22 : decode cX8_toFloat 22 = .ok (.getfield 21, 3) := by decide +kernel
theorem dX8_toFloat_25 : decode cX8_toFloat 25 = .ok (.getfield 92, 3) := by decide +kernel
theorem dX8_toFloat_28 : decode cX8_toFloat 28 = .ok (.getfield 101, 3) := by decide +kernel
theorem dX8_toFloat_31 : decode cX8_toFloat 31 = .ok (.invokestatic 229, 3) := by decide +kernel
theorem dX8_toFloat_34 : decode cX8_toFloat 34 = .ok (.bipush 8, 2) := by decide +kernel
theorem dX8_toFloat_36 : decode cX8_toFloat 36 = .ok (.if_icmp .le 6, 3) := by decide +kernel
theorem dX8_toFloat_39 : decode cX8_toFloat 39 = .ok (.bipush (-2), 2) := by decide +kernel
theorem dX8_toFloat_41 : decode cX8_toFloat 41 = .ok (.ireturn, 1) := by decide +kernel
theorem dX8_toFloat_42 : decode cX8_toFloat 42 = .ok (.aload_n 0, 1) := by decide +kernel
theorem dX8_toFloat_43 : decode cX8_toFloat 43 = .ok (.getfield 41, 3) := by decide +kernel
theorem dX8_toFloat_46 : decode cX8_toFloat 46 = .ok (.aload_n 0, 1) := by decide +kernel
theorem dX8_toFloat_47 : decode cX8_toFloat 47 = .ok (.getfield 21, 3) := by decide +kernel
theorem dX8_toFloat_50 : decode cX8_toFloat 50 = .ok (.invokevirtual 234, 3) := by decide +kernel
theorem dX8_toFloat_53 : decode cX8_toFloat 53 = .ok (.ifCond .ne 6, 3) := by decide +kernel
theorem dX8_toFloat_56 : decode cX8_toFloat 56 = .ok (.bipush (-4), 2) := by decide +kernel
theorem dX8_toFloat_58 : decode cX8_toFloat 58 = .ok (.ireturn, 1) := by decide +kernel
theorem dX8_toFloat_59 : decode cX8_toFloat 59 = .ok (.iload_n 1, 1) := by decide +kernel
theorem dX8_toFloat_60 : decode cX8_toFloat 60 = .ok (.lookupswitch 44 #[(0, 28), (1, 36)], 28) := by decide +kernel
theorem dX8_toFloat_88 : decode cX8_toFloat 88 = .ok (.aload_n 0, 1) := by decide +kernel
theorem dX8_toFloat_89 : decode cX8_toFloat 89 = .ok (.getfield 41, 3) := by decide +kernel
theorem dX8_toFloat_92 : decode cX8_toFloat 92 = .ok (.getfield 238, 3) := by decide +kernel
theorem dX8_toFloat_95 : decode cX8_toFloat 95 = .ok (.ireturn, 1) := by decide +kernel
theorem dX8_toFloat_96 : decode cX8_toFloat 96 = .ok (.aload_n 0, 1) := by decide +kernel
theorem dX8_toFloat_97 : decode cX8_toFloat 97 = .ok (.getfield 41, 3) := by decide +kernel
theorem dX8_toFloat_100 : decode cX8_toFloat 100 = .ok (.getfield 239, 3) := by decide +kernel
theorem dX8_toFloat_103 : decode cX8_toFloat 103 = .ok (.ireturn, 1) := by decide +kernel
theorem dX8_toFloat_104 : decode cX8_toFloat 104 = .ok (.aload_n 0, 1) := by decide +kernel
theorem dX8_toFloat_105 : decode cX8_toFloat 105 = .ok (.getfield 41, 3) := by decide +kernel
theorem dX8_toFloat_108 : decode cX8_toFloat 108 = .ok (.getfield 241, 3) := by decide +kernel
theorem dX8_toFloat_111 : decode cX8_toFloat 111 = .ok (.ireturn, 1) := by decide +kernel
set_option maxRecDepth 20000 in
theorem ggX8_tap_X8_within : GoodIn wsX8_tap wsX8_within := goodIn_r _ [6] (by decide +kernel) (by decide +kernel)
set_option maxRecDepth 20000 in
theorem gX8_tap_X8_within : GoodIn wsX8_tap (va_wsS RX8 56 yX8_within wsX8_within) := goodIn_app (goodIn_of _ (by decide +kernel)) ggX8_tap_X8_within
theorem dX8_tap_0 : decode cX8_tap 0 = .ok (.iload_n 1, 1) := by decide +kernel
theorem dX8_tap_1 : decode cX8_tap 1 = .ok (.iconst 0, 1) := by decide +kernel
theorem dX8_tap_2 : decode cX8_tap 2 = .ok (.bipush 29, 2) := by decide +kernel
theorem dX8_tap_4 : decode cX8_tap 4 = .ok (.invokestatic 56, 3) := by decide +kernel
theorem dX8_tap_7 : decode cX8_tap 7 = .ok (.ifCond .eq 12, 3) := by decide +kernel
theorem dX8_tap_10 : decode cX8_tap 10 = .ok (.iload_n 2, 1) := by decide +kernel
theorem dX8_tap_11 : decode cX8_tap 11 = .ok (.iconst (-1), 1) := by decide +kernel
theorem dX8_tap_12 : decode cX8_tap 12 = .ok (.iconst 1, 1) := by decide +kernel
theorem dX8_tap_13 : decode cX8_tap 13 = .ok (.invokestatic 56, 3) := by decide +kernel
theorem dX8_tap_16 : decode cX8_tap 16 = .ok (.ifCond .ne 6, 3) := by decide +kernel
theorem dX8_tap_19 : decode cX8_tap 19 = .ok (.bipush (-100), 2) := by decide +kernel
theorem dX8_tap_21 : decode cX8_tap 21 = .ok (.ireturn, 1) := by decide +kernel
theorem dX8_tap_22 : decode cX8_tap 22 = .ok (.aload_n 0, 1) := by decide +kernel
theorem dX8_tap_23 : decode cX8_tap 23 = .ok (.getfield 48, 3) := by decide +kernel
theorem dX8_tap_26 : decode cX8_tap 26 = .ok (.getfield 244, 3) := by decide +kernel
theorem dX8_tap_29 : decode cX8_tap 29 = .ok (.iload_n 1, 1) := by decide +kernel
theorem dX8_tap_30 : decode cX8_tap 30 = .ok (.iaload, 1) := by decide +kernel
theorem dX8_tap_31 : decode cX8_tap 31 = .ok (.istore_n 3, 1) := by decide +kernel
theorem dX8_tap_32 : decode cX8_tap 32 = .ok (.aload_n 0, 1) := by decide +kernel
theorem dX8_tap_33 : decode cX8_tap 33 = .ok (.getfield 48, 3) := by decide +kernel
theorem dX8_tap_36 : decode cX8_tap 36 = .ok (.getfield 244, 3) := by decide +kernel
theorem dX8_tap_39 : decode cX8_tap 39 = .ok (.iload_n 1, 1) := by decide +kernel
theorem dX8_tap_40 : decode cX8_tap 40 = .ok (.iload_n 2, 1) := by decide +kernel
theorem dX8_tap_41 : decode cX8_tap 41 = .ok (.iastore, 1) := by decide +kernel
theorem dX8_tap_42 : decode cX8_tap 42 = .ok (.iload_n 3, 1) := by decide +kernel
theorem dX8_tap_43 : decode cX8_tap 43 = .ok (.ireturn, 1) := by decide +kernel
set_option maxRecDepth 20000 in
theorem ggX8_worm_X8_within : GoodIn wsX8_worm wsX8_within := goodIn_r _ [5] (by decide +kernel) (by decide +kernel)
set_option maxRecDepth 20000 in
theorem gX8_worm_X8_within : GoodIn wsX8_worm (va_wsS RX8 56 yX8_within wsX8_within) := goodIn_app (goodIn_of _ (by decide +kernel)) ggX8_worm_X8_within
set_option maxRecDepth 20000 in
theorem ggX8_worm_X1_least : GoodIn wsX8_worm wsX1_least := goodIn_r _ [10, 11, 35] (by decide +kernel) (by decide +kernel)
set_option maxRecDepth 20000 in
theorem gX8_worm_X1_least : GoodIn wsX8_worm (wsV RX8 247 RX1 yX1_least wsX1_least) := goodIn_app (goodIn_of _ (by decide +kernel)) ggX8_worm_X1_least
set_option maxRecDepth 20000 in
theorem ggX8_worm_X1_most : GoodIn wsX8_worm wsX1_most := goodIn_r _ [15, 11, 35] (by decide +kernel) (by decide +kernel)
set_option maxRecDepth 20000 in
theorem gX8_worm_X1_most : GoodIn wsX8_worm (wsV RX8 250 RX1 yX1_most wsX1_most) := goodIn_app (goodIn_of _ (by decide +kernel)) ggX8_worm_X1_most
set_option maxRecDepth 20000 in
theorem ggX8_worm_X1_leastRuns : GoodIn wsX8_worm wsX1_leastRuns := goodIn_r _ [19, 11, 35] (by decide +kernel) (by decide +kernel)
set_option maxRecDepth 20000 in
theorem gX8_worm_X1_leastRuns : GoodIn wsX8_worm (wsV RX8 253 RX1 yX1_leastRuns wsX1_leastRuns) := goodIn_app (goodIn_of _ (by decide +kernel)) ggX8_worm_X1_leastRuns
set_option maxRecDepth 20000 in
theorem ggX8_worm_X1_mostRuns : GoodIn wsX8_worm wsX1_mostRuns := goodIn_r _ [23, 24, 25, 26, 27, 11, 35] (by decide +kernel) (by decide +kernel)
set_option maxRecDepth 20000 in
theorem gX8_worm_X1_mostRuns : GoodIn wsX8_worm (wsV RX8 256 RX1 yX1_mostRuns wsX1_mostRuns) := goodIn_app (goodIn_of _ (by decide +kernel)) ggX8_worm_X1_mostRuns
theorem dX8_worm_0 : decode cX8_worm 0 = .ok (.iload_n 1, 1) := by decide +kernel
theorem dX8_worm_1 : decode cX8_worm 1 = .ok (.iconst 1, 1) := by decide +kernel
theorem dX8_worm_2 : decode cX8_worm 2 = .ok (.bipush 30, 2) := by decide +kernel
theorem dX8_worm_4 : decode cX8_worm 4 = .ok (.invokestatic 56, 3) := by decide +kernel
theorem dX8_worm_7 : decode cX8_worm 7 = .ok (.ifCond .ne 5, 3) := by decide +kernel
theorem dX8_worm_10 : decode cX8_worm 10 = .ok (.iconst (-1), 1) := by decide +kernel
theorem dX8_worm_11 : decode cX8_worm 11 = .ok (.ireturn, 1) := by decide +kernel
theorem dX8_worm_12 : decode cX8_worm 12 = .ok (.iload_n 2, 1) := by decide +kernel
theorem dX8_worm_13 : decode cX8_worm 13 = .ok (.tableswitch 67 0 3 #[31, 40, 49, 58], 31) := by decide +kernel
theorem dX8_worm_44 : decode cX8_worm 44 = .ok (.aload_n 0, 1) := by decide +kernel
theorem dX8_worm_45 : decode cX8_worm 45 = .ok (.getfield 48, 3) := by decide +kernel
theorem dX8_worm_48 : decode cX8_worm 48 = .ok (.iload_n 1, 1) := by decide +kernel
theorem dX8_worm_49 : decode cX8_worm 49 = .ok (.invokevirtual 247, 3) := by decide +kernel
theorem dX8_worm_52 : decode cX8_worm 52 = .ok (.ireturn, 1) := by decide +kernel
theorem dX8_worm_53 : decode cX8_worm 53 = .ok (.aload_n 0, 1) := by decide +kernel
theorem dX8_worm_54 : decode cX8_worm 54 = .ok (.getfield 48, 3) := by decide +kernel
theorem dX8_worm_57 : decode cX8_worm 57 = .ok (.iload_n 1, 1) := by decide +kernel
theorem dX8_worm_58 : decode cX8_worm 58 = .ok (.invokevirtual 250, 3) := by decide +kernel
theorem dX8_worm_61 : decode cX8_worm 61 = .ok (.ireturn, 1) := by decide +kernel
theorem dX8_worm_62 : decode cX8_worm 62 = .ok (.aload_n 0, 1) := by decide +kernel
theorem dX8_worm_63 : decode cX8_worm 63 = .ok (.getfield 48, 3) := by decide +kernel
theorem dX8_worm_66 : decode cX8_worm 66 = .ok (.iload_n 1, 1) := by decide +kernel
theorem dX8_worm_67 : decode cX8_worm 67 = .ok (.invokevirtual 253, 3) := by decide +kernel
theorem dX8_worm_70 : decode cX8_worm 70 = .ok (.ireturn, 1) := by decide +kernel
theorem dX8_worm_71 : decode cX8_worm 71 = .ok (.aload_n 0, 1) := by decide +kernel
theorem dX8_worm_72 : decode cX8_worm 72 = .ok (.getfield 48, 3) := by decide +kernel
theorem dX8_worm_75 : decode cX8_worm 75 = .ok (.iload_n 1, 1) := by decide +kernel
theorem dX8_worm_76 : decode cX8_worm 76 = .ok (.invokevirtual 256, 3) := by decide +kernel
theorem dX8_worm_79 : decode cX8_worm 79 = .ok (.ireturn, 1) := by decide +kernel
theorem dX8_worm_80 : decode cX8_worm 80 = .ok (.iconst (-1), 1) := by decide +kernel
theorem dX8_worm_81 : decode cX8_worm 81 = .ok (.ireturn, 1) := by decide +kernel
set_option maxRecDepth 20000 in
theorem ggX8_book_X3_worthTight : GoodIn wsX8_book wsX3_worthTight := goodIn_r _ [12, 13, 14, 15, 37, 38, 39, 40, 41, 42, 43, 44, 45] (by decide +kernel) (by decide +kernel)
set_option maxRecDepth 20000 in
theorem gX8_book_X3_worthTight : GoodIn wsX8_book (wsV RX8 271 RX3 yX3_worthTight wsX3_worthTight) := goodIn_app (goodIn_of _ (by decide +kernel)) ggX8_book_X3_worthTight
theorem dX8_book_0 : decode cX8_book 0 = .ok (.iload_n 1, 1) := by decide +kernel
theorem dX8_book_1 : decode cX8_book 1 = .ok (.tableswitch 90 0 5 #[39, 47, 55, 63, 71, 82], 39) := by decide +kernel
theorem dX8_book_40 : decode cX8_book 40 = .ok (.aload_n 0, 1) := by decide +kernel
theorem dX8_book_41 : decode cX8_book 41 = .ok (.getfield 21, 3) := by decide +kernel
theorem dX8_book_44 : decode cX8_book 44 = .ok (.getfield 259, 3) := by decide +kernel
theorem dX8_book_47 : decode cX8_book 47 = .ok (.ireturn, 1) := by decide +kernel
theorem dX8_book_48 : decode cX8_book 48 = .ok (.aload_n 0, 1) := by decide +kernel
theorem dX8_book_49 : decode cX8_book 49 = .ok (.getfield 21, 3) := by decide +kernel
theorem dX8_book_52 : decode cX8_book 52 = .ok (.getfield 262, 3) := by decide +kernel
theorem dX8_book_55 : decode cX8_book 55 = .ok (.ireturn, 1) := by decide +kernel
theorem dX8_book_56 : decode cX8_book 56 = .ok (.aload_n 0, 1) := by decide +kernel
theorem dX8_book_57 : decode cX8_book 57 = .ok (.getfield 21, 3) := by decide +kernel
theorem dX8_book_60 : decode cX8_book 60 = .ok (.getfield 265, 3) := by decide +kernel
theorem dX8_book_63 : decode cX8_book 63 = .ok (.ireturn, 1) := by decide +kernel
theorem dX8_book_64 : decode cX8_book 64 = .ok (.aload_n 0, 1) := by decide +kernel
theorem dX8_book_65 : decode cX8_book 65 = .ok (.getfield 21, 3) := by decide +kernel
theorem dX8_book_68 : decode cX8_book 68 = .ok (.getfield 268, 3) := by decide +kernel
theorem dX8_book_71 : decode cX8_book 71 = .ok (.ireturn, 1) := by decide +kernel
theorem dX8_book_72 : decode cX8_book 72 = .ok (.aload_n 0, 1) := by decide +kernel
theorem dX8_book_73 : decode cX8_book 73 = .ok (.getfield 21, 3) := by decide +kernel
theorem dX8_book_76 : decode cX8_book 76 = .ok (.getfield 122, 3) := by decide +kernel
theorem dX8_book_79 : decode cX8_book 79 = .ok (.invokevirtual 271, 3) := by decide +kernel
theorem dX8_book_82 : decode cX8_book 82 = .ok (.ireturn, 1) := by decide +kernel
theorem dX8_book_83 : decode cX8_book 83 = .ok (.aload_n 0, 1) := by decide +kernel
theorem dX8_book_84 : decode cX8_book 84 = .ok (.getfield 21, 3) := by decide +kernel
theorem dX8_book_87 : decode cX8_book 87 = .ok (.getfield 86, 3) := by decide +kernel
theorem dX8_book_90 : decode cX8_book 90 = .ok (.ireturn, 1) := by decide +kernel
theorem dX8_book_91 : decode cX8_book 91 = .ok (.iconst (-1), 1) := by decide +kernel
theorem dX8_book_92 : decode cX8_book 92 = .ok (.ireturn, 1) := by decide +kernel
set_option maxRecDepth 20000 in
theorem ggX8_keep_X4_copyFrom : GoodIn wsX8_keep wsX4_copyFrom := goodIn_r _ [8, 9, 10, 11, 12, 13, 14, 15, 16, 17, 18, 19, 20, 21, 22, 23, 24, 25, 26, 27, 28, 29, 30, 31, 32, 33, 34, 35, 36, 37, 38, 39, 40, 41, 42, 43, 44, 45, 46, 47, 48, 49, 50, 51, 52, 53, 54, 55, 56, 57, 58, 59, 60, 68, 69, 70, 71, 72, 73, 74, 75, 76, 77, 78, 79, 80, 81, 82, 83, 84, 85, 86, 87, 88, 89, 90, 91, 92, 93, 94, 95, 96, 97, 98, 99] (by decide +kernel) (by decide +kernel)
set_option maxRecDepth 20000 in
theorem gX8_keep_X4_copyFrom : GoodIn wsX8_keep (wsV RX8 274 RX4 yX4_copyFrom wsX4_copyFrom) := goodIn_app (goodIn_of _ (by decide +kernel)) ggX8_keep_X4_copyFrom
theorem dX8_keep_0 : decode cX8_keep 0 = .ok (.aload_n 0, 1) := by decide +kernel
theorem dX8_keep_1 : decode cX8_keep 1 = .ok (.getfield 52, 3) := by decide +kernel
theorem dX8_keep_4 : decode cX8_keep 4 = .ok (.iconst 3, 1) := by decide +kernel
theorem dX8_keep_5 : decode cX8_keep 5 = .ok (.if_icmp .lt 6, 3) := by decide +kernel
theorem dX8_keep_8 : decode cX8_keep 8 = .ok (.bipush (-3), 2) := by decide +kernel
theorem dX8_keep_10 : decode cX8_keep 10 = .ok (.ireturn, 1) := by decide +kernel
theorem dX8_keep_11 : decode cX8_keep 11 = .ok (.aload_n 0, 1) := by decide +kernel
theorem dX8_keep_12 : decode cX8_keep 12 = .ok (.getfield 25, 3) := by decide +kernel
theorem dX8_keep_15 : decode cX8_keep 15 = .ok (.aload_n 0, 1) := by decide +kernel
theorem dX8_keep_16 : decode cX8_keep 16 = .ok (.getfield 52, 3) := by decide +kernel
theorem dX8_keep_19 : decode cX8_keep 19 = .ok (.aaload, 1) := by decide +kernel
theorem dX8_keep_20 : decode cX8_keep 20 = .ok (.aload_n 0, 1) := by decide +kernel
theorem dX8_keep_21 : decode cX8_keep 21 = .ok (.getfield 21, 3) := by decide +kernel
theorem dX8_keep_24 : decode cX8_keep 24 = .ok (.invokevirtual 274, 3) := by decide +kernel
theorem dX8_keep_27 : decode cX8_keep 27 = .ok (.aload_n 0, 1) := by decide +kernel
theorem dX8_keep_28 : decode cX8_keep 28 = .ok (.dup, 1) := by decide +kernel
theorem dX8_keep_29 : decode cX8_keep 29 = .ok (.getfield 52, 3) := by decide +kernel
theorem dX8_keep_32 : decode cX8_keep 32 = .ok (.iconst 1, 1) := by decide +kernel
theorem dX8_keep_33 : decode cX8_keep 33 = .ok (.iadd, 1) := by decide +kernel
theorem dX8_keep_34 : decode cX8_keep 34 = .ok (.putfield 52, 3) := by decide +kernel
theorem dX8_keep_37 : decode cX8_keep 37 = .ok (.aload_n 0, 1) := by decide +kernel
theorem dX8_keep_38 : decode cX8_keep 38 = .ok (.getfield 52, 3) := by decide +kernel
theorem dX8_keep_41 : decode cX8_keep 41 = .ok (.ireturn, 1) := by decide +kernel
set_option maxRecDepth 20000 in
theorem ggX8_back_X4_copyFrom : GoodIn wsX8_back wsX4_copyFrom := goodIn_r _ [8, 9, 10, 11, 12, 13, 14, 15, 16, 17, 18, 19, 20, 21, 22, 23, 24, 25, 26, 27, 28, 29, 30, 31, 32, 33, 34, 35, 36, 37, 38, 39, 40, 41, 42, 43, 44, 45, 46, 47, 48, 49, 50, 51, 52, 53, 54, 55, 56, 57, 58, 59, 60, 68, 69, 70, 71, 72, 73, 74, 75, 76, 77, 78, 79, 80, 81, 82, 83, 84, 85, 86, 87, 88, 89, 90, 91, 92, 93, 94, 95, 96, 97, 98, 99] (by decide +kernel) (by decide +kernel)
set_option maxRecDepth 20000 in
theorem gX8_back_X4_copyFrom : GoodIn wsX8_back (wsV RX8 274 RX4 yX4_copyFrom wsX4_copyFrom) := goodIn_app (goodIn_of _ (by decide +kernel)) ggX8_back_X4_copyFrom
theorem dX8_back_0 : decode cX8_back 0 = .ok (.aload_n 0, 1) := by decide +kernel
theorem dX8_back_1 : decode cX8_back 1 = .ok (.getfield 52, 3) := by decide +kernel
theorem dX8_back_4 : decode cX8_back 4 = .ok (.ifCond .gt 6, 3) := by decide +kernel
theorem dX8_back_7 : decode cX8_back 7 = .ok (.bipush (-2), 2) := by decide +kernel
theorem dX8_back_9 : decode cX8_back 9 = .ok (.ireturn, 1) := by decide +kernel
theorem dX8_back_10 : decode cX8_back 10 = .ok (.aload_n 0, 1) := by decide +kernel
theorem dX8_back_11 : decode cX8_back 11 = .ok (.dup, 1) := by decide +kernel
theorem dX8_back_12 : decode cX8_back 12 = .ok (.getfield 52, 3) := by decide +kernel
theorem dX8_back_15 : decode cX8_back 15 = .ok (.iconst 1, 1) := by decide +kernel
theorem dX8_back_16 : decode cX8_back 16 = .ok (.isub, 1) := by decide +kernel
theorem dX8_back_17 : decode cX8_back 17 = .ok (.putfield 52, 3) := by decide +kernel
theorem dX8_back_20 : decode cX8_back 20 = .ok (.aload_n 0, 1) := by decide +kernel
theorem dX8_back_21 : decode cX8_back 21 = .ok (.getfield 21, 3) := by decide +kernel
theorem dX8_back_24 : decode cX8_back 24 = .ok (.aload_n 0, 1) := by decide +kernel
theorem dX8_back_25 : decode cX8_back 25 = .ok (.getfield 25, 3) := by decide +kernel
theorem dX8_back_28 : decode cX8_back 28 = .ok (.aload_n 0, 1) := by decide +kernel
theorem dX8_back_29 : decode cX8_back 29 = .ok (.getfield 52, 3) := by decide +kernel
theorem dX8_back_32 : decode cX8_back 32 = .ok (.aaload, 1) := by decide +kernel
theorem dX8_back_33 : decode cX8_back 33 = .ok (.invokevirtual 274, 3) := by decide +kernel
theorem dX8_back_36 : decode cX8_back 36 = .ok (.aload_n 0, 1) := by decide +kernel
theorem dX8_back_37 : decode cX8_back 37 = .ok (.getfield 52, 3) := by decide +kernel
theorem dX8_back_40 : decode cX8_back 40 = .ok (.ireturn, 1) := by decide +kernel
set_option maxRecDepth 20000 in
theorem ggX8_count_J6_bitCount_0f7a4 : GoodIn wsX8_count wsJ6_bitCount_0f7a4 := goodIn_r _ [15, 16, 17, 18] (by decide +kernel) (by decide +kernel)
set_option maxRecDepth 20000 in
theorem gX8_count_J6_bitCount_0f7a4 : GoodIn wsX8_count (va_wsS RX8 229 yJ6_bitCount_0f7a4 wsJ6_bitCount_0f7a4) := goodIn_app (goodIn_of _ (by decide +kernel)) ggX8_count_J6_bitCount_0f7a4
set_option maxRecDepth 20000 in
theorem ggX8_count_X3_bitsOf : GoodIn wsX8_count wsX3_bitsOf := goodIn_r _ [23, 24, 25, 56, 57, 58, 59, 60, 61, 62, 63, 64] (by decide +kernel) (by decide +kernel)
set_option maxRecDepth 20000 in
theorem gX8_count_X3_bitsOf : GoodIn wsX8_count (wsV RX8 277 RX3 yX3_bitsOf wsX3_bitsOf) := goodIn_app (goodIn_of _ (by decide +kernel)) ggX8_count_X3_bitsOf
theorem dX8_count_0 : decode cX8_count 0 = .ok (.iload_n 1, 1) := by decide +kernel
theorem dX8_count_1 : decode cX8_count 1 = .ok (.tableswitch 166 0 8 #[51, 62, 87, 98, 112, 123, 138, 153, 161], 51) := by decide +kernel
theorem dX8_count_52 : decode cX8_count 52 = .ok (.aload_n 0, 1) := by decide +kernel
theorem dX8_count_53 : decode cX8_count 53 = .ok (.getfield 21, 3) := by decide +kernel
theorem dX8_count_56 : decode cX8_count 56 = .ok (.getfield 92, 3) := by decide +kernel
theorem dX8_count_59 : decode cX8_count 59 = .ok (.getfield 96, 3) := by decide +kernel
theorem dX8_count_62 : decode cX8_count 62 = .ok (.ireturn, 1) := by decide +kernel
theorem dX8_count_63 : decode cX8_count 63 = .ok (.aload_n 0, 1) := by decide +kernel
theorem dX8_count_64 : decode cX8_count 64 = .ok (.getfield 21, 3) := by decide +kernel
theorem dX8_count_67 : decode cX8_count 67 = .ok (.getfield 92, 3) := by decide +kernel
theorem dX8_count_70 : decode cX8_count 70 = .ok (.getfield 96, 3) := by decide +kernel
theorem dX8_count_73 : decode cX8_count 73 = .ok (.aload_n 0, 1) := by decide +kernel
theorem dX8_count_74 : decode cX8_count 74 = .ok (.getfield 21, 3) := by decide +kernel
theorem dX8_count_77 : decode cX8_count 77 = .ok (.getfield 92, 3) := by decide +kernel
theorem dX8_count_80 : decode cX8_count 80 = .ok (.getfield 101, 3) := by decide +kernel
theorem dX8_count_83 : decode cX8_count 83 = .ok (.invokestatic 229, 3) := by decide +kernel
theorem dX8_count_86 : decode cX8_count 86 = .ok (.isub, 1) := by decide +kernel
theorem dX8_count_87 : decode cX8_count 87 = .ok (.ireturn, 1) := by decide +kernel
theorem dX8_count_88 : decode cX8_count 88 = .ok (.aload_n 0, 1) := by decide +kernel
theorem dX8_count_89 : decode cX8_count 89 = .ok (.getfield 21, 3) := by decide +kernel
theorem dX8_count_92 : decode cX8_count 92 = .ok (.getfield 112, 3) := by decide +kernel
theorem dX8_count_95 : decode cX8_count 95 = .ok (.getfield 116, 3) := by decide +kernel
theorem dX8_count_98 : decode cX8_count 98 = .ok (.ireturn, 1) := by decide +kernel
theorem dX8_count_99 : decode cX8_count 99 = .ok (.aload_n 0, 1) := by decide +kernel
theorem dX8_count_100 : decode cX8_count 100 = .ok (.getfield 21, 3) := by decide +kernel
theorem dX8_count_103 : decode cX8_count 103 = .ok (.getfield 112, 3) := by decide +kernel
theorem dX8_count_106 : decode cX8_count 106 = .ok (.getfield 167, 3) := by decide +kernel
theorem dX8_count_109 : decode cX8_count 109 = .ok (.invokestatic 229, 3) := by decide +kernel
theorem dX8_count_112 : decode cX8_count 112 = .ok (.ireturn, 1) := by decide +kernel
theorem dX8_count_113 : decode cX8_count 113 = .ok (.aload_n 0, 1) := by decide +kernel
theorem dX8_count_114 : decode cX8_count 114 = .ok (.getfield 21, 3) := by decide +kernel
theorem dX8_count_117 : decode cX8_count 117 = .ok (.getfield 122, 3) := by decide +kernel
theorem dX8_count_120 : decode cX8_count 120 = .ok (.getfield 126, 3) := by decide +kernel
theorem dX8_count_123 : decode cX8_count 123 = .ok (.ireturn, 1) := by decide +kernel
theorem dX8_count_124 : decode cX8_count 124 = .ok (.aload_n 0, 1) := by decide +kernel
theorem dX8_count_125 : decode cX8_count 125 = .ok (.getfield 21, 3) := by decide +kernel
theorem dX8_count_128 : decode cX8_count 128 = .ok (.getfield 122, 3) := by decide +kernel
theorem dX8_count_131 : decode cX8_count 131 = .ok (.iconst 1, 1) := by decide +kernel
theorem dX8_count_132 : decode cX8_count 132 = .ok (.invokevirtual 277, 3) := by decide +kernel
theorem dX8_count_135 : decode cX8_count 135 = .ok (.invokestatic 229, 3) := by decide +kernel
theorem dX8_count_138 : decode cX8_count 138 = .ok (.ireturn, 1) := by decide +kernel
theorem dX8_count_139 : decode cX8_count 139 = .ok (.aload_n 0, 1) := by decide +kernel
theorem dX8_count_140 : decode cX8_count 140 = .ok (.getfield 21, 3) := by decide +kernel
theorem dX8_count_143 : decode cX8_count 143 = .ok (.getfield 122, 3) := by decide +kernel
theorem dX8_count_146 : decode cX8_count 146 = .ok (.iconst 2, 1) := by decide +kernel
theorem dX8_count_147 : decode cX8_count 147 = .ok (.invokevirtual 277, 3) := by decide +kernel
theorem dX8_count_150 : decode cX8_count 150 = .ok (.invokestatic 229, 3) := by decide +kernel
theorem dX8_count_153 : decode cX8_count 153 = .ok (.ireturn, 1) := by decide +kernel
theorem dX8_count_154 : decode cX8_count 154 = .ok (.aload_n 0, 1) := by decide +kernel
theorem dX8_count_155 : decode cX8_count 155 = .ok (.getfield 21, 3) := by decide +kernel
theorem dX8_count_158 : decode cX8_count 158 = .ok (.getfield 153, 3) := by decide +kernel
theorem dX8_count_161 : decode cX8_count 161 = .ok (.ireturn, 1) := by decide +kernel
theorem dX8_count_162 : decode cX8_count 162 = .ok (.aload_n 0, 1) := by decide +kernel
theorem dX8_count_163 : decode cX8_count 163 = .ok (.getfield 52, 3) := by decide +kernel
theorem dX8_count_166 : decode cX8_count 166 = .ok (.ireturn, 1) := by decide +kernel
theorem dX8_count_167 : decode cX8_count 167 = .ok (.iconst (-1), 1) := by decide +kernel
theorem dX8_count_168 : decode cX8_count 168 = .ok (.ireturn, 1) := by decide +kernel
theorem dX8_within_0 : decode cX8_within 0 = .ok (.iload_n 0, 1) := by decide +kernel
theorem dX8_within_1 : decode cX8_within 1 = .ok (.iload_n 1, 1) := by decide +kernel
theorem dX8_within_2 : decode cX8_within 2 = .ok (.if_icmp .lt 12, 3) := by decide +kernel
theorem dX8_within_5 : decode cX8_within 5 = .ok (.iload_n 0, 1) := by decide +kernel
theorem dX8_within_6 : decode cX8_within 6 = .ok (.iload_n 2, 1) := by decide +kernel
theorem dX8_within_7 : decode cX8_within 7 = .ok (.if_icmp .gt 7, 3) := by decide +kernel
theorem dX8_within_10 : decode cX8_within 10 = .ok (.iconst 1, 1) := by decide +kernel
theorem dX8_within_11 : decode cX8_within 11 = .ok (.goto 4, 3) := by decide +kernel
theorem dX8_within_14 : decode cX8_within 14 = .ok (.iconst 0, 1) := by decide +kernel
theorem dX8_within_15 : decode cX8_within 15 = .ok (.ireturn, 1) := by decide +kernel
theorem dX8_asNumber_0 : decode cX8_asNumber 0 = .ok (.iload_n 0, 1) := by decide +kernel
theorem dX8_asNumber_1 : decode cX8_asNumber 1 = .ok (.ifCond .eq 7, 3) := by decide +kernel
theorem dX8_asNumber_4 : decode cX8_asNumber 4 = .ok (.iconst 1, 1) := by decide +kernel
theorem dX8_asNumber_5 : decode cX8_asNumber 5 = .ok (.goto 4, 3) := by decide +kernel
theorem dX8_asNumber_8 : decode cX8_asNumber 8 = .ok (.iconst 0, 1) := by decide +kernel
theorem dX8_asNumber_9 : decode cX8_asNumber 9 = .ok (.ireturn, 1) := by decide +kernel
theorem dX8_draught_0 : decode cX8_draught 0 = .ok (.iload_n 0, 1) := by decide +kernel
theorem dX8_draught_1 : decode cX8_draught 1 = .ok (.bipush 20, 2) := by decide +kernel
theorem dX8_draught_3 : decode cX8_draught 3 = .ok (.idiv, 1) := by decide +kernel
theorem dX8_draught_4 : decode cX8_draught 4 = .ok (.ireturn, 1) := by decide +kernel
theorem dX8_hasBit_0 : decode cX8_hasBit 0 = .ok (.iload_n 0, 1) := by decide +kernel
theorem dX8_hasBit_1 : decode cX8_hasBit 1 = .ok (.iload_n 1, 1) := by decide +kernel
theorem dX8_hasBit_2 : decode cX8_hasBit 2 = .ok (.ishr, 1) := by decide +kernel
theorem dX8_hasBit_3 : decode cX8_hasBit 3 = .ok (.iconst 1, 1) := by decide +kernel
theorem dX8_hasBit_4 : decode cX8_hasBit 4 = .ok (.iand, 1) := by decide +kernel
theorem dX8_hasBit_5 : decode cX8_hasBit 5 = .ok (.ifCond .eq 7, 3) := by decide +kernel
theorem dX8_hasBit_8 : decode cX8_hasBit 8 = .ok (.iconst 1, 1) := by decide +kernel
theorem dX8_hasBit_9 : decode cX8_hasBit 9 = .ok (.goto 4, 3) := by decide +kernel
theorem dX8_hasBit_12 : decode cX8_hasBit 12 = .ok (.iconst 0, 1) := by decide +kernel
theorem dX8_hasBit_13 : decode cX8_hasBit 13 = .ok (.ireturn, 1) := by decide +kernel
theorem dX8_roundedUp_0 : decode cX8_roundedUp 0 = .ok (.iload_n 1, 1) := by decide +kernel
theorem dX8_roundedUp_1 : decode cX8_roundedUp 1 = .ok (.ifCond .gt 7, 3) := by decide +kernel
theorem dX8_roundedUp_4 : decode cX8_roundedUp 4 = .ok (.iconst 0, 1) := by decide +kernel
theorem dX8_roundedUp_5 : decode cX8_roundedUp 5 = .ok (.goto 10, 3) := by decide +kernel
theorem dX8_roundedUp_8 : decode cX8_roundedUp 8 = .ok (.iload_n 0, 1) := by decide +kernel
theorem dX8_roundedUp_9 : decode cX8_roundedUp 9 = .ok (.iload_n 1, 1) := by decide +kernel
theorem dX8_roundedUp_10 : decode cX8_roundedUp 10 = .ok (.iadd, 1) := by decide +kernel
theorem dX8_roundedUp_11 : decode cX8_roundedUp 11 = .ok (.iconst 1, 1) := by decide +kernel
theorem dX8_roundedUp_12 : decode cX8_roundedUp 12 = .ok (.isub, 1) := by decide +kernel
theorem dX8_roundedUp_13 : decode cX8_roundedUp 13 = .ok (.iload_n 1, 1) := by decide +kernel
theorem dX8_roundedUp_14 : decode cX8_roundedUp 14 = .ok (.idiv, 1) := by decide +kernel
theorem dX8_roundedUp_15 : decode cX8_roundedUp 15 = .ok (.ireturn, 1) := by decide +kernel
theorem dJ6_bitCount_0f7a4_0 : decode cJ6_bitCount_0f7a4 0 = .ok (.iload_n 0, 1) := by decide +kernel
theorem dJ6_bitCount_0f7a4_1 : decode cJ6_bitCount_0f7a4 1 = .ok (.iload_n 0, 1) := by decide +kernel
theorem dJ6_bitCount_0f7a4_2 : decode cJ6_bitCount_0f7a4 2 = .ok (.iconst 1, 1) := by decide +kernel
theorem dJ6_bitCount_0f7a4_3 : decode cJ6_bitCount_0f7a4 3 = .ok (.iushr, 1) := by decide +kernel
theorem dJ6_bitCount_0f7a4_4 : decode cJ6_bitCount_0f7a4 4 = .ok (.ldc_w 265, 3) := by decide +kernel
theorem dJ6_bitCount_0f7a4_7 : decode cJ6_bitCount_0f7a4 7 = .ok (.iand, 1) := by decide +kernel
theorem dJ6_bitCount_0f7a4_8 : decode cJ6_bitCount_0f7a4 8 = .ok (.isub, 1) := by decide +kernel
theorem dJ6_bitCount_0f7a4_9 : decode cJ6_bitCount_0f7a4 9 = .ok (.istore_n 0, 1) := by decide +kernel
theorem dJ6_bitCount_0f7a4_10 : decode cJ6_bitCount_0f7a4 10 = .ok (.iload_n 0, 1) := by decide +kernel
theorem dJ6_bitCount_0f7a4_11 : decode cJ6_bitCount_0f7a4 11 = .ok (.ldc_w 266, 3) := by decide +kernel
theorem dJ6_bitCount_0f7a4_14 : decode cJ6_bitCount_0f7a4 14 = .ok (.iand, 1) := by decide +kernel
theorem dJ6_bitCount_0f7a4_15 : decode cJ6_bitCount_0f7a4 15 = .ok (.iload_n 0, 1) := by decide +kernel
theorem dJ6_bitCount_0f7a4_16 : decode cJ6_bitCount_0f7a4 16 = .ok (.iconst 2, 1) := by decide +kernel
theorem dJ6_bitCount_0f7a4_17 : decode cJ6_bitCount_0f7a4 17 = .ok (.iushr, 1) := by decide +kernel
theorem dJ6_bitCount_0f7a4_18 : decode cJ6_bitCount_0f7a4 18 = .ok (.ldc_w 266, 3) := by decide +kernel
theorem dJ6_bitCount_0f7a4_21 : decode cJ6_bitCount_0f7a4 21 = .ok (.iand, 1) := by decide +kernel
theorem dJ6_bitCount_0f7a4_22 : decode cJ6_bitCount_0f7a4 22 = .ok (.iadd, 1) := by decide +kernel
theorem dJ6_bitCount_0f7a4_23 : decode cJ6_bitCount_0f7a4 23 = .ok (.istore_n 0, 1) := by decide +kernel
theorem dJ6_bitCount_0f7a4_24 : decode cJ6_bitCount_0f7a4 24 = .ok (.iload_n 0, 1) := by decide +kernel
theorem dJ6_bitCount_0f7a4_25 : decode cJ6_bitCount_0f7a4 25 = .ok (.iload_n 0, 1) := by decide +kernel
theorem dJ6_bitCount_0f7a4_26 : decode cJ6_bitCount_0f7a4 26 = .ok (.iconst 4, 1) := by decide +kernel
theorem dJ6_bitCount_0f7a4_27 : decode cJ6_bitCount_0f7a4 27 = .ok (.iushr, 1) := by decide +kernel
theorem dJ6_bitCount_0f7a4_28 : decode cJ6_bitCount_0f7a4 28 = .ok (.iadd, 1) := by decide +kernel
theorem dJ6_bitCount_0f7a4_29 : decode cJ6_bitCount_0f7a4 29 = .ok (.ldc_w 267, 3) := by decide +kernel
theorem dJ6_bitCount_0f7a4_32 : decode cJ6_bitCount_0f7a4 32 = .ok (.iand, 1) := by decide +kernel
theorem dJ6_bitCount_0f7a4_33 : decode cJ6_bitCount_0f7a4 33 = .ok (.istore_n 0, 1) := by decide +kernel
theorem dJ6_bitCount_0f7a4_34 : decode cJ6_bitCount_0f7a4 34 = .ok (.iload_n 0, 1) := by decide +kernel
theorem dJ6_bitCount_0f7a4_35 : decode cJ6_bitCount_0f7a4 35 = .ok (.iload_n 0, 1) := by decide +kernel
theorem dJ6_bitCount_0f7a4_36 : decode cJ6_bitCount_0f7a4 36 = .ok (.bipush 8, 2) := by decide +kernel
theorem dJ6_bitCount_0f7a4_38 : decode cJ6_bitCount_0f7a4 38 = .ok (.iushr, 1) := by decide +kernel
theorem dJ6_bitCount_0f7a4_39 : decode cJ6_bitCount_0f7a4 39 = .ok (.iadd, 1) := by decide +kernel
theorem dJ6_bitCount_0f7a4_40 : decode cJ6_bitCount_0f7a4 40 = .ok (.istore_n 0, 1) := by decide +kernel
theorem dJ6_bitCount_0f7a4_41 : decode cJ6_bitCount_0f7a4 41 = .ok (.iload_n 0, 1) := by decide +kernel
theorem dJ6_bitCount_0f7a4_42 : decode cJ6_bitCount_0f7a4 42 = .ok (.iload_n 0, 1) := by decide +kernel
theorem dJ6_bitCount_0f7a4_43 : decode cJ6_bitCount_0f7a4 43 = .ok (.bipush 16, 2) := by decide +kernel
theorem dJ6_bitCount_0f7a4_45 : decode cJ6_bitCount_0f7a4 45 = .ok (.iushr, 1) := by decide +kernel
theorem dJ6_bitCount_0f7a4_46 : decode cJ6_bitCount_0f7a4 46 = .ok (.iadd, 1) := by decide +kernel
theorem dJ6_bitCount_0f7a4_47 : decode cJ6_bitCount_0f7a4 47 = .ok (.istore_n 0, 1) := by decide +kernel
theorem dJ6_bitCount_0f7a4_48 : decode cJ6_bitCount_0f7a4 48 = .ok (.iload_n 0, 1) := by decide +kernel
theorem dJ6_bitCount_0f7a4_49 : decode cJ6_bitCount_0f7a4 49 = .ok (.bipush 63, 2) := by decide +kernel
theorem dJ6_bitCount_0f7a4_51 : decode cJ6_bitCount_0f7a4 51 = .ok (.iand, 1) := by decide +kernel
theorem dJ6_bitCount_0f7a4_52 : decode cJ6_bitCount_0f7a4 52 = .ok (.ireturn, 1) := by decide +kernel
