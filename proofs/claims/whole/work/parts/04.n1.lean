theorem dX3_init_0 : decode cX3_init 0 = .ok (.aload_n 0, 1) := by decide +kernel
theorem dX3_init_1 : decode cX3_init 1 = .ok (.invokespecial 3, 3) := by decide +kernel
theorem dX3_init_4 : decode cX3_init 4 = .ok (.aload_n 0, 1) := by decide +kernel
theorem dX3_init_5 : decode cX3_init 5 = .ok (.bipush 12, 2) := by decide +kernel
theorem dX3_init_7 : decode cX3_init 7 = .ok (.newarray .int, 2) := by decide +kernel
theorem dX3_init_9 : decode cX3_init 9 = .ok (.putfield 9, 3) := by decide +kernel
theorem dX3_init_12 : decode cX3_init 12 = .ok (.aload_n 0, 1) := by decide +kernel
theorem dX3_init_13 : decode cX3_init 13 = .ok (.bipush 12, 2) := by decide +kernel
theorem dX3_init_15 : decode cX3_init 15 = .ok (.newarray .int, 2) := by decide +kernel
theorem dX3_init_17 : decode cX3_init 17 = .ok (.putfield 15, 3) := by decide +kernel
theorem dX3_init_20 : decode cX3_init 20 = .ok (.aload_n 0, 1) := by decide +kernel
theorem dX3_init_21 : decode cX3_init 21 = .ok (.bipush 12, 2) := by decide +kernel
theorem dX3_init_23 : decode cX3_init 23 = .ok (.newarray .int, 2) := by decide +kernel
theorem dX3_init_25 : decode cX3_init 25 = .ok (.putfield 18, 3) := by decide +kernel
theorem dX3_init_28 : decode cX3_init 28 = .ok (.aload_n 0, 1) := by decide +kernel
theorem dX3_init_29 : decode cX3_init 29 = .ok (.bipush 12, 2) := by decide +kernel
theorem dX3_init_31 : decode cX3_init 31 = .ok (.newarray .int, 2) := by decide +kernel
theorem dX3_init_33 : decode cX3_init 33 = .ok (.putfield 21, 3) := by decide +kernel
theorem dX3_init_36 : decode cX3_init 36 = .ok (.aload_n 0, 1) := by decide +kernel
theorem dX3_init_37 : decode cX3_init 37 = .ok (.bipush 12, 2) := by decide +kernel
theorem dX3_init_39 : decode cX3_init 39 = .ok (.newarray .int, 2) := by decide +kernel
theorem dX3_init_41 : decode cX3_init 41 = .ok (.putfield 24, 3) := by decide +kernel
theorem dX3_init_44 : decode cX3_init 44 = .ok (.aload_n 0, 1) := by decide +kernel
theorem dX3_init_45 : decode cX3_init 45 = .ok (.bipush 12, 2) := by decide +kernel
theorem dX3_init_47 : decode cX3_init 47 = .ok (.newarray .int, 2) := by decide +kernel
theorem dX3_init_49 : decode cX3_init 49 = .ok (.putfield 27, 3) := by decide +kernel
theorem dX3_init_52 : decode cX3_init 52 = .ok (.aload_n 0, 1) := by decide +kernel
theorem dX3_init_53 : decode cX3_init 53 = .ok (.bipush 12, 2) := by decide +kernel
theorem dX3_init_55 : decode cX3_init 55 = .ok (.newarray .int, 2) := by decide +kernel
theorem dX3_init_57 : decode cX3_init 57 = .ok (.putfield 30, 3) := by decide +kernel
theorem dX3_init_60 : decode cX3_init 60 = .ok (.aload_n 0, 1) := by decide +kernel
theorem dX3_init_61 : decode cX3_init 61 = .ok (.bipush 12, 2) := by decide +kernel
theorem dX3_init_63 : decode cX3_init 63 = .ok (.newarray .int, 2) := by decide +kernel
theorem dX3_init_65 : decode cX3_init 65 = .ok (.putfield 33, 3) := by decide +kernel
theorem dX3_init_68 : decode cX3_init 68 = .ok (.return_, 1) := by decide +kernel
theorem dX3_add_0 : decode cX3_add 0 = .ok (.aload_n 0, 1) := by decide +kernel
theorem dX3_add_1 : decode cX3_add 1 = .ok (.getfield 9, 3) := by decide +kernel
theorem dX3_add_4 : decode cX3_add 4 = .ok (.aload_n 0, 1) := by decide +kernel
theorem dX3_add_5 : decode cX3_add 5 = .ok (.getfield 36, 3) := by decide +kernel
theorem dX3_add_8 : decode cX3_add 8 = .ok (.iload_n 1, 1) := by decide +kernel
theorem dX3_add_9 : decode cX3_add 9 = .ok (.iastore, 1) := by decide +kernel
theorem dX3_add_10 : decode cX3_add 10 = .ok (.aload_n 0, 1) := by decide +kernel
theorem dX3_add_11 : decode cX3_add 11 = .ok (.getfield 15, 3) := by decide +kernel
theorem dX3_add_14 : decode cX3_add 14 = .ok (.aload_n 0, 1) := by decide +kernel
theorem dX3_add_15 : decode cX3_add 15 = .ok (.getfield 36, 3) := by decide +kernel
theorem dX3_add_18 : decode cX3_add 18 = .ok (.iload_n 2, 1) := by decide +kernel
theorem dX3_add_19 : decode cX3_add 19 = .ok (.iastore, 1) := by decide +kernel
theorem dX3_add_20 : decode cX3_add 20 = .ok (.aload_n 0, 1) := by decide +kernel
theorem dX3_add_21 : decode cX3_add 21 = .ok (.getfield 18, 3) := by decide +kernel
theorem dX3_add_24 : decode cX3_add 24 = .ok (.aload_n 0, 1) := by decide +kernel
theorem dX3_add_25 : decode cX3_add 25 = .ok (.getfield 36, 3) := by decide +kernel
theorem dX3_add_28 : decode cX3_add 28 = .ok (.iload_n 3, 1) := by decide +kernel
theorem dX3_add_29 : decode cX3_add 29 = .ok (.iastore, 1) := by decide +kernel
theorem dX3_add_30 : decode cX3_add 30 = .ok (.aload_n 0, 1) := by decide +kernel
theorem dX3_add_31 : decode cX3_add 31 = .ok (.getfield 21, 3) := by decide +kernel
theorem dX3_add_34 : decode cX3_add 34 = .ok (.aload_n 0, 1) := by decide +kernel
theorem dX3_add_35 : decode cX3_add 35 = .ok (.getfield 36, 3) := by decide +kernel
theorem dX3_add_38 : decode cX3_add 38 = .ok (.iload 4, 2) := by decide +kernel
theorem dX3_add_40 : decode cX3_add 40 = .ok (.iastore, 1) := by decide +kernel
theorem dX3_add_41 : decode cX3_add 41 = .ok (.aload_n 0, 1) := by decide +kernel
theorem dX3_add_42 : decode cX3_add 42 = .ok (.getfield 24, 3) := by decide +kernel
theorem dX3_add_45 : decode cX3_add 45 = .ok (.aload_n 0, 1) := by decide +kernel
theorem dX3_add_46 : decode cX3_add 46 = .ok (.getfield 36, 3) := by decide +kernel
theorem dX3_add_49 : decode cX3_add 49 = .ok (.iload 5, 2) := by decide +kernel
theorem dX3_add_51 : decode cX3_add 51 = .ok (.iastore, 1) := by decide +kernel
theorem dX3_add_52 : decode cX3_add 52 = .ok (.aload_n 0, 1) := by decide +kernel
theorem dX3_add_53 : decode cX3_add 53 = .ok (.getfield 27, 3) := by decide +kernel
theorem dX3_add_56 : decode cX3_add 56 = .ok (.aload_n 0, 1) := by decide +kernel
theorem dX3_add_57 : decode cX3_add 57 = .ok (.getfield 36, 3) := by decide +kernel
theorem dX3_add_60 : decode cX3_add 60 = .ok (.iload 6, 2) := by decide +kernel
theorem dX3_add_62 : decode cX3_add 62 = .ok (.iastore, 1) := by decide +kernel
theorem dX3_add_63 : decode cX3_add 63 = .ok (.aload_n 0, 1) := by decide +kernel
theorem dX3_add_64 : decode cX3_add 64 = .ok (.getfield 30, 3) := by decide +kernel
theorem dX3_add_67 : decode cX3_add 67 = .ok (.aload_n 0, 1) := by decide +kernel
theorem dX3_add_68 : decode cX3_add 68 = .ok (.getfield 36, 3) := by decide +kernel
theorem dX3_add_71 : decode cX3_add 71 = .ok (.iconst 0, 1) := by decide +kernel
theorem dX3_add_72 : decode cX3_add 72 = .ok (.iastore, 1) := by decide +kernel
theorem dX3_add_73 : decode cX3_add 73 = .ok (.aload_n 0, 1) := by decide +kernel
theorem dX3_add_74 : decode cX3_add 74 = .ok (.getfield 33, 3) := by decide +kernel
theorem dX3_add_77 : decode cX3_add 77 = .ok (.aload_n 0, 1) := by decide +kernel
theorem dX3_add_78 : decode cX3_add 78 = .ok (.getfield 36, 3) := by decide +kernel
theorem dX3_add_81 : decode cX3_add 81 = .ok (.iconst 0, 1) := by decide +kernel
theorem dX3_add_82 : decode cX3_add 82 = .ok (.iastore, 1) := by decide +kernel
theorem dX3_add_83 : decode cX3_add 83 = .ok (.aload_n 0, 1) := by decide +kernel
theorem dX3_add_84 : decode cX3_add 84 = .ok (.dup, 1) := by decide +kernel
theorem dX3_add_85 : decode cX3_add 85 = .ok (.getfield 36, 3) := by decide +kernel
theorem dX3_add_88 : decode cX3_add 88 = .ok (.iconst 1, 1) := by decide +kernel
theorem dX3_add_89 : decode cX3_add 89 = .ok (.iadd, 1) := by decide +kernel
theorem dX3_add_90 : decode cX3_add 90 = .ok (.putfield 36, 3) := by decide +kernel
theorem dX3_add_93 : decode cX3_add 93 = .ok (.aload_n 0, 1) := by decide +kernel
theorem dX3_add_94 : decode cX3_add 94 = .ok (.getfield 36, 3) := by decide +kernel
theorem dX3_add_97 : decode cX3_add 97 = .ok (.iconst 1, 1) := by decide +kernel
theorem dX3_add_98 : decode cX3_add 98 = .ok (.isub, 1) := by decide +kernel
theorem dX3_add_99 : decode cX3_add 99 = .ok (.ireturn, 1) := by decide +kernel
theorem dX3_isBare_0 : decode cX3_isBare 0 = .ok (.iload_n 2, 1) := by decide +kernel
theorem dX3_isBare_1 : decode cX3_isBare 1 = .ok (.iconst 4, 1) := by decide +kernel
theorem dX3_isBare_2 : decode cX3_isBare 2 = .ok (.aload_n 0, 1) := by decide +kernel
theorem dX3_isBare_3 : decode cX3_isBare 3 = .ok (.getfield 9, 3) := by decide +kernel
theorem dX3_isBare_6 : decode cX3_isBare 6 = .ok (.iload_n 1, 1) := by decide +kernel
theorem dX3_isBare_7 : decode cX3_isBare 7 = .ok (.iaload, 1) := by decide +kernel
theorem dX3_isBare_8 : decode cX3_isBare 8 = .ok (.imul, 1) := by decide +kernel
theorem dX3_isBare_9 : decode cX3_isBare 9 = .ok (.aload_n 0, 1) := by decide +kernel
theorem dX3_isBare_10 : decode cX3_isBare 10 = .ok (.getfield 15, 3) := by decide +kernel
theorem dX3_isBare_13 : decode cX3_isBare 13 = .ok (.iload_n 1, 1) := by decide +kernel
theorem dX3_isBare_14 : decode cX3_isBare 14 = .ok (.iaload, 1) := by decide +kernel
theorem dX3_isBare_15 : decode cX3_isBare 15 = .ok (.ifCond .ne 9, 3) := by decide +kernel
theorem dX3_isBare_18 : decode cX3_isBare 18 = .ok (.iconst 3, 1) := by decide +kernel
theorem dX3_isBare_19 : decode cX3_isBare 19 = .ok (.iload_n 3, 1) := by decide +kernel
theorem dX3_isBare_20 : decode cX3_isBare 20 = .ok (.imul, 1) := by decide +kernel
theorem dX3_isBare_21 : decode cX3_isBare 21 = .ok (.goto 7, 3) := by decide +kernel
theorem dX3_isBare_24 : decode cX3_isBare 24 = .ok (.bipush (-3), 2) := by decide +kernel
theorem dX3_isBare_26 : decode cX3_isBare 26 = .ok (.iload_n 3, 1) := by decide +kernel
theorem dX3_isBare_27 : decode cX3_isBare 27 = .ok (.imul, 1) := by decide +kernel
theorem dX3_isBare_28 : decode cX3_isBare 28 = .ok (.iadd, 1) := by decide +kernel
theorem dX3_isBare_29 : decode cX3_isBare 29 = .ok (.if_icmp .ge 7, 3) := by decide +kernel
theorem dX3_isBare_32 : decode cX3_isBare 32 = .ok (.iconst 1, 1) := by decide +kernel
theorem dX3_isBare_33 : decode cX3_isBare 33 = .ok (.goto 4, 3) := by decide +kernel
theorem dX3_isBare_36 : decode cX3_isBare 36 = .ok (.iconst 0, 1) := by decide +kernel
theorem dX3_isBare_37 : decode cX3_isBare 37 = .ok (.ireturn, 1) := by decide +kernel
theorem dX3_bitsOf_0 : decode cX3_bitsOf 0 = .ok (.iconst 0, 1) := by decide +kernel
theorem dX3_bitsOf_1 : decode cX3_bitsOf 1 = .ok (.istore_n 2, 1) := by decide +kernel
theorem dX3_bitsOf_2 : decode cX3_bitsOf 2 = .ok (.iconst 0, 1) := by decide +kernel
theorem dX3_bitsOf_3 : decode cX3_bitsOf 3 = .ok (.istore_n 3, 1) := by decide +kernel
theorem dX3_bitsOf_4 : decode cX3_bitsOf 4 = .ok (.iload_n 3, 1) := by decide +kernel
theorem dX3_bitsOf_5 : decode cX3_bitsOf 5 = .ok (.aload_n 0, 1) := by decide +kernel
theorem dX3_bitsOf_6 : decode cX3_bitsOf 6 = .ok (.getfield 36, 3) := by decide +kernel
theorem dX3_bitsOf_9 : decode cX3_bitsOf 9 = .ok (.if_icmp .ge 29, 3) := by decide +kernel
theorem dX3_bitsOf_12 : decode cX3_bitsOf 12 = .ok (.iload_n 2, 1) := by decide +kernel
theorem dX3_bitsOf_13 : decode cX3_bitsOf 13 = .ok (.aload_n 0, 1) := by decide +kernel
theorem dX3_bitsOf_14 : decode cX3_bitsOf 14 = .ok (.getfield 30, 3) := by decide +kernel
theorem dX3_bitsOf_17 : decode cX3_bitsOf 17 = .ok (.iload_n 3, 1) := by decide +kernel
theorem dX3_bitsOf_18 : decode cX3_bitsOf 18 = .ok (.iaload, 1) := by decide +kernel
theorem dX3_bitsOf_19 : decode cX3_bitsOf 19 = .ok (.iload_n 1, 1) := by decide +kernel
theorem dX3_bitsOf_20 : decode cX3_bitsOf 20 = .ok (.if_icmp .ne 9, 3) := by decide +kernel
theorem dX3_bitsOf_23 : decode cX3_bitsOf 23 = .ok (.iconst 1, 1) := by decide +kernel
theorem dX3_bitsOf_24 : decode cX3_bitsOf 24 = .ok (.iload_n 3, 1) := by decide +kernel
theorem dX3_bitsOf_25 : decode cX3_bitsOf 25 = .ok (.ishl, 1) := by decide +kernel
theorem dX3_bitsOf_26 : decode cX3_bitsOf 26 = .ok (.goto 4, 3) := by decide +kernel
theorem dX3_bitsOf_29 : decode cX3_bitsOf 29 = .ok (.iconst 0, 1) := by decide +kernel
theorem dX3_bitsOf_30 : decode cX3_bitsOf 30 = .ok (.ior, 1) := by decide +kernel
theorem dX3_bitsOf_31 : decode cX3_bitsOf 31 = .ok (.istore_n 2, 1) := by decide +kernel
theorem dX3_bitsOf_32 : decode cX3_bitsOf 32 = .ok (.iinc 3 1, 3) := by decide +kernel
theorem dX3_bitsOf_35 : decode cX3_bitsOf 35 = .ok (.goto (-31), 3) := by decide +kernel
theorem dX3_bitsOf_38 : decode cX3_bitsOf 38 = .ok (.iload_n 2, 1) := by decide +kernel
theorem dX3_bitsOf_39 : decode cX3_bitsOf 39 = .ok (.ireturn, 1) := by decide +kernel
theorem dX3_worthTight_0 : decode cX3_worthTight 0 = .ok (.iconst 0, 1) := by decide +kernel
theorem dX3_worthTight_1 : decode cX3_worthTight 1 = .ok (.istore_n 1, 1) := by decide +kernel
theorem dX3_worthTight_2 : decode cX3_worthTight 2 = .ok (.iconst 0, 1) := by decide +kernel
theorem dX3_worthTight_3 : decode cX3_worthTight 3 = .ok (.istore_n 2, 1) := by decide +kernel
theorem dX3_worthTight_4 : decode cX3_worthTight 4 = .ok (.iload_n 2, 1) := by decide +kernel
theorem dX3_worthTight_5 : decode cX3_worthTight 5 = .ok (.aload_n 0, 1) := by decide +kernel
theorem dX3_worthTight_6 : decode cX3_worthTight 6 = .ok (.getfield 36, 3) := by decide +kernel
theorem dX3_worthTight_9 : decode cX3_worthTight 9 = .ok (.if_icmp .ge 32, 3) := by decide +kernel
theorem dX3_worthTight_12 : decode cX3_worthTight 12 = .ok (.iload_n 1, 1) := by decide +kernel
theorem dX3_worthTight_13 : decode cX3_worthTight 13 = .ok (.aload_n 0, 1) := by decide +kernel
theorem dX3_worthTight_14 : decode cX3_worthTight 14 = .ok (.getfield 30, 3) := by decide +kernel
theorem dX3_worthTight_17 : decode cX3_worthTight 17 = .ok (.iload_n 2, 1) := by decide +kernel
theorem dX3_worthTight_18 : decode cX3_worthTight 18 = .ok (.iaload, 1) := by decide +kernel
theorem dX3_worthTight_19 : decode cX3_worthTight 19 = .ok (.iconst 2, 1) := by decide +kernel
theorem dX3_worthTight_20 : decode cX3_worthTight 20 = .ok (.if_icmp .ne 12, 3) := by decide +kernel
theorem dX3_worthTight_23 : decode cX3_worthTight 23 = .ok (.aload_n 0, 1) := by decide +kernel
theorem dX3_worthTight_24 : decode cX3_worthTight 24 = .ok (.getfield 27, 3) := by decide +kernel
theorem dX3_worthTight_27 : decode cX3_worthTight 27 = .ok (.iload_n 2, 1) := by decide +kernel
theorem dX3_worthTight_28 : decode cX3_worthTight 28 = .ok (.iaload, 1) := by decide +kernel
theorem dX3_worthTight_29 : decode cX3_worthTight 29 = .ok (.goto 4, 3) := by decide +kernel
theorem dX3_worthTight_32 : decode cX3_worthTight 32 = .ok (.iconst 0, 1) := by decide +kernel
theorem dX3_worthTight_33 : decode cX3_worthTight 33 = .ok (.iadd, 1) := by decide +kernel
theorem dX3_worthTight_34 : decode cX3_worthTight 34 = .ok (.istore_n 1, 1) := by decide +kernel
theorem dX3_worthTight_35 : decode cX3_worthTight 35 = .ok (.iinc 2 1, 3) := by decide +kernel
theorem dX3_worthTight_38 : decode cX3_worthTight 38 = .ok (.goto (-34), 3) := by decide +kernel
theorem dX3_worthTight_41 : decode cX3_worthTight 41 = .ok (.iload_n 1, 1) := by decide +kernel
theorem dX3_worthTight_42 : decode cX3_worthTight 42 = .ok (.ireturn, 1) := by decide +kernel
theorem dX3_pitchLacking_0 : decode cX3_pitchLacking 0 = .ok (.aload_n 0, 1) := by decide +kernel
theorem dX3_pitchLacking_1 : decode cX3_pitchLacking 1 = .ok (.getfield 33, 3) := by decide +kernel
theorem dX3_pitchLacking_4 : decode cX3_pitchLacking 4 = .ok (.iload_n 1, 1) := by decide +kernel
theorem dX3_pitchLacking_5 : decode cX3_pitchLacking 5 = .ok (.iaload, 1) := by decide +kernel
theorem dX3_pitchLacking_6 : decode cX3_pitchLacking 6 = .ok (.ifCond .le 7, 3) := by decide +kernel
theorem dX3_pitchLacking_9 : decode cX3_pitchLacking 9 = .ok (.iconst 0, 1) := by decide +kernel
theorem dX3_pitchLacking_10 : decode cX3_pitchLacking 10 = .ok (.goto 9, 3) := by decide +kernel
theorem dX3_pitchLacking_13 : decode cX3_pitchLacking 13 = .ok (.aload_n 0, 1) := by decide +kernel
theorem dX3_pitchLacking_14 : decode cX3_pitchLacking 14 = .ok (.getfield 24, 3) := by decide +kernel
theorem dX3_pitchLacking_17 : decode cX3_pitchLacking 17 = .ok (.iload_n 1, 1) := by decide +kernel
theorem dX3_pitchLacking_18 : decode cX3_pitchLacking 18 = .ok (.iaload, 1) := by decide +kernel
theorem dX3_pitchLacking_19 : decode cX3_pitchLacking 19 = .ok (.ireturn, 1) := by decide +kernel
theorem dX3_hoursLacking_0 : decode cX3_hoursLacking 0 = .ok (.aload_n 0, 1) := by decide +kernel
theorem dX3_hoursLacking_1 : decode cX3_hoursLacking 1 = .ok (.getfield 30, 3) := by decide +kernel
theorem dX3_hoursLacking_4 : decode cX3_hoursLacking 4 = .ok (.iload_n 1, 1) := by decide +kernel
theorem dX3_hoursLacking_5 : decode cX3_hoursLacking 5 = .ok (.iaload, 1) := by decide +kernel
theorem dX3_hoursLacking_6 : decode cX3_hoursLacking 6 = .ok (.ifCond .ne 7, 3) := by decide +kernel
theorem dX3_hoursLacking_9 : decode cX3_hoursLacking 9 = .ok (.iconst 1, 1) := by decide +kernel
theorem dX3_hoursLacking_10 : decode cX3_hoursLacking 10 = .ok (.goto 4, 3) := by decide +kernel
theorem dX3_hoursLacking_13 : decode cX3_hoursLacking 13 = .ok (.iconst 0, 1) := by decide +kernel
theorem dX3_hoursLacking_14 : decode cX3_hoursLacking 14 = .ok (.aload_n 0, 1) := by decide +kernel
theorem dX3_hoursLacking_15 : decode cX3_hoursLacking 15 = .ok (.getfield 21, 3) := by decide +kernel
theorem dX3_hoursLacking_18 : decode cX3_hoursLacking 18 = .ok (.iload_n 1, 1) := by decide +kernel
theorem dX3_hoursLacking_19 : decode cX3_hoursLacking 19 = .ok (.iaload, 1) := by decide +kernel
theorem dX3_hoursLacking_20 : decode cX3_hoursLacking 20 = .ok (.iadd, 1) := by decide +kernel
theorem dX3_hoursLacking_21 : decode cX3_hoursLacking 21 = .ok (.aload_n 0, 1) := by decide +kernel
theorem dX3_hoursLacking_22 : decode cX3_hoursLacking 22 = .ok (.getfield 33, 3) := by decide +kernel
theorem dX3_hoursLacking_25 : decode cX3_hoursLacking 25 = .ok (.iload_n 1, 1) := by decide +kernel
theorem dX3_hoursLacking_26 : decode cX3_hoursLacking 26 = .ok (.iaload, 1) := by decide +kernel
theorem dX3_hoursLacking_27 : decode cX3_hoursLacking 27 = .ok (.isub, 1) := by decide +kernel
theorem dX3_hoursLacking_28 : decode cX3_hoursLacking 28 = .ok (.ireturn, 1) := by decide +kernel
theorem dX3_copyFrom_0 : decode cX3_copyFrom 0 = .ok (.aload_n 1, 1) := by decide +kernel
theorem dX3_copyFrom_1 : decode cX3_copyFrom 1 = .ok (.getfield 9, 3) := by decide +kernel
theorem dX3_copyFrom_4 : decode cX3_copyFrom 4 = .ok (.iconst 0, 1) := by decide +kernel
theorem dX3_copyFrom_5 : decode cX3_copyFrom 5 = .ok (.aload_n 0, 1) := by decide +kernel
theorem dX3_copyFrom_6 : decode cX3_copyFrom 6 = .ok (.getfield 9, 3) := by decide +kernel
theorem dX3_copyFrom_9 : decode cX3_copyFrom 9 = .ok (.iconst 0, 1) := by decide +kernel
theorem dX3_copyFrom_10 : decode cX3_copyFrom 10 = .ok (.bipush 12, 2) := by decide +kernel
theorem dX3_copyFrom_12 : decode cX3_copyFrom 12 = .ok (.invokestatic 40, 3) := by decide +kernel
theorem dX3_copyFrom_15 : decode cX3_copyFrom 15 = .ok (.aload_n 1, 1) := by decide +kernel
theorem dX3_copyFrom_16 : decode cX3_copyFrom 16 = .ok (.getfield 15, 3) := by decide +kernel
theorem dX3_copyFrom_19 : decode cX3_copyFrom 19 = .ok (.iconst 0, 1) := by decide +kernel
theorem dX3_copyFrom_20 : decode cX3_copyFrom 20 = .ok (.aload_n 0, 1) := by decide +kernel
theorem dX3_copyFrom_21 : decode cX3_copyFrom 21 = .ok (.getfield 15, 3) := by decide +kernel
theorem dX3_copyFrom_24 : decode cX3_copyFrom 24 = .ok (.iconst 0, 1) := by decide +kernel
theorem dX3_copyFrom_25 : decode cX3_copyFrom 25 = .ok (.bipush 12, 2) := by decide +kernel
theorem dX3_copyFrom_27 : decode cX3_copyFrom 27 = .ok (.invokestatic 40, 3) := by decide +kernel
theorem dX3_copyFrom_30 : decode cX3_copyFrom 30 = .ok (.aload_n 1, 1) := by decide +kernel
theorem dX3_copyFrom_31 : decode cX3_copyFrom 31 = .ok (.getfield 18, 3) := by decide +kernel
theorem dX3_copyFrom_34 : decode cX3_copyFrom 34 = .ok (.iconst 0, 1) := by decide +kernel
theorem dX3_copyFrom_35 : decode cX3_copyFrom 35 = .ok (.aload_n 0, 1) := by decide +kernel
theorem dX3_copyFrom_36 : decode cX3_copyFrom 36 = .ok (.getfield 18, 3) := by decide +kernel
theorem dX3_copyFrom_39 : decode cX3_copyFrom 39 = .ok (.iconst 0, 1) := by decide +kernel
theorem dX3_copyFrom_40 : decode cX3_copyFrom 40 = .ok (.bipush 12, 2) := by decide +kernel
theorem dX3_copyFrom_42 : decode cX3_copyFrom 42 = .ok (.invokestatic 40, 3) := by decide +kernel
theorem dX3_copyFrom_45 : decode cX3_copyFrom 45 = .ok (.aload_n 1, 1) := by decide +kernel
theorem dX3_copyFrom_46 : decode cX3_copyFrom 46 = .ok (.getfield 21, 3) := by decide +kernel
theorem dX3_copyFrom_49 : decode cX3_copyFrom 49 = .ok (.iconst 0, 1) := by decide +kernel
theorem dX3_copyFrom_50 : decode cX3_copyFrom 50 = .ok (.aload_n 0, 1) := by decide +kernel
theorem dX3_copyFrom_51 : decode cX3_copyFrom 51 = .ok (.getfield 21, 3) := by decide +kernel
theorem dX3_copyFrom_54 : decode cX3_copyFrom 54 = .ok (.iconst 0, 1) := by decide +kernel
theorem dX3_copyFrom_55 : decode cX3_copyFrom 55 = .ok (.bipush 12, 2) := by decide +kernel
theorem dX3_copyFrom_57 : decode cX3_copyFrom 57 = .ok (.invokestatic 40, 3) := by decide +kernel
theorem dX3_copyFrom_60 : decode cX3_copyFrom 60 = .ok (.aload_n 1, 1) := by decide +kernel
theorem dX3_copyFrom_61 : decode cX3_copyFrom 61 = .ok (.getfield 24, 3) := by decide +kernel
theorem dX3_copyFrom_64 : decode cX3_copyFrom 64 = .ok (.iconst 0, 1) := by decide +kernel
theorem dX3_copyFrom_65 : decode cX3_copyFrom 65 = .ok (.aload_n 0, 1) := by decide +kernel
theorem dX3_copyFrom_66 : decode cX3_copyFrom 66 = .ok (.getfield 24, 3) := by decide +kernel
theorem dX3_copyFrom_69 : decode cX3_copyFrom 69 = .ok (.iconst 0, 1) := by decide +kernel
theorem dX3_copyFrom_70 : decode cX3_copyFrom 70 = .ok (.bipush 12, 2) := by decide +kernel
theorem dX3_copyFrom_72 : decode cX3_copyFrom 72 = .ok (.invokestatic 40, 3) := by decide +kernel
theorem dX3_copyFrom_75 : decode cX3_copyFrom 75 = .ok (.aload_n 1, 1) := by decide +kernel
theorem dX3_copyFrom_76 : decode cX3_copyFrom 76 = .ok (.getfield 27, 3) := by decide +kernel
theorem dX3_copyFrom_79 : decode cX3_copyFrom 79 = .ok (.iconst 0, 1) := by decide +kernel
theorem dX3_copyFrom_80 : decode cX3_copyFrom 80 = .ok (.aload_n 0, 1) := by decide +kernel
theorem dX3_copyFrom_81 : decode cX3_copyFrom 81 = .ok (.getfield 27, 3) := by decide +kernel
theorem dX3_copyFrom_84 : decode cX3_copyFrom 84 = .ok (.iconst 0, 1) := by decide +kernel
theorem dX3_copyFrom_85 : decode cX3_copyFrom 85 = .ok (.bipush 12, 2) := by decide +kernel
theorem dX3_copyFrom_87 : decode cX3_copyFrom 87 = .ok (.invokestatic 40, 3) := by decide +kernel
theorem dX3_copyFrom_90 : decode cX3_copyFrom 90 = .ok (.aload_n 1, 1) := by decide +kernel
theorem dX3_copyFrom_91 : decode cX3_copyFrom 91 = .ok (.getfield 30, 3) := by decide +kernel
theorem dX3_copyFrom_94 : decode cX3_copyFrom 94 = .ok (.iconst 0, 1) := by decide +kernel
theorem dX3_copyFrom_95 : decode cX3_copyFrom 95 = .ok (.aload_n 0, 1) := by decide +kernel
theorem dX3_copyFrom_96 : decode cX3_copyFrom 96 = .ok (.getfield 30, 3) := by decide +kernel
theorem dX3_copyFrom_99 : decode cX3_copyFrom 99 = .ok (.iconst 0, 1) := by decide +kernel
theorem dX3_copyFrom_100 : decode cX3_copyFrom 100 = .ok (.bipush 12, 2) := by decide +kernel
theorem dX3_copyFrom_102 : decode cX3_copyFrom 102 = .ok (.invokestatic 40, 3) := by decide +kernel
theorem dX3_copyFrom_105 : decode cX3_copyFrom 105 = .ok (.aload_n 1, 1) := by decide +kernel
theorem dX3_copyFrom_106 : decode cX3_copyFrom 106 = .ok (.getfield 33, 3) := by decide +kernel
theorem dX3_copyFrom_109 : decode cX3_copyFrom 109 = .ok (.iconst 0, 1) := by decide +kernel
theorem dX3_copyFrom_110 : decode cX3_copyFrom 110 = .ok (.aload_n 0, 1) := by decide +kernel
theorem dX3_copyFrom_111 : decode cX3_copyFrom 111 = .ok (.getfield 33, 3) := by decide +kernel
theorem dX3_copyFrom_114 : decode cX3_copyFrom 114 = .ok (.iconst 0, 1) := by decide +kernel
theorem dX3_copyFrom_115 : decode cX3_copyFrom 115 = .ok (.bipush 12, 2) := by decide +kernel
theorem dX3_copyFrom_117 : decode cX3_copyFrom 117 = .ok (.invokestatic 40, 3) := by decide +kernel
theorem dX3_copyFrom_120 : decode cX3_copyFrom 120 = .ok (.aload_n 0, 1) := by decide +kernel
theorem dX3_copyFrom_121 : decode cX3_copyFrom 121 = .ok (.aload_n 1, 1) := by decide +kernel
theorem dX3_copyFrom_122 : decode cX3_copyFrom 122 = .ok (.getfield 36, 3) := by decide +kernel
theorem dX3_copyFrom_125 : decode cX3_copyFrom 125 = .ok (.putfield 36, 3) := by decide +kernel
theorem dX3_copyFrom_128 : decode cX3_copyFrom 128 = .ok (.return_, 1) := by decide +kernel
set_option maxRecDepth 20000 in
theorem ggX4_init_X7_init : GoodIn wsX4_init wsX7_init := goodIn_r _ [19, 20, 2, 3, 21, 22, 23, 41, 42, 43, 44] (by decide +kernel) (by decide +kernel)
set_option maxRecDepth 20000 in
theorem gX4_init_X7_init_n11 : GoodIn wsX4_init (wsX7_init) := ggX4_init_X7_init
set_option maxRecDepth 20000 in
theorem ggX4_init_X6_init : GoodIn wsX4_init wsX6_init := goodIn_r _ [25, 26, 2, 3, 21, 27, 28, 29, 59, 60, 61, 62, 63] (by decide +kernel) (by decide +kernel)
set_option maxRecDepth 20000 in
theorem gX4_init_X6_init_n20 : GoodIn wsX4_init (wsX6_init) := ggX4_init_X6_init
set_option maxRecDepth 20000 in
theorem ggX4_init_X3_init : GoodIn wsX4_init wsX3_init := goodIn_r _ [31, 32, 2, 3, 21, 33, 34, 35, 36, 37, 38, 39, 40, 64, 65, 66, 67, 68, 69, 70, 71, 72] (by decide +kernel) (by decide +kernel)
set_option maxRecDepth 20000 in
theorem gX4_init_X3_init_n27 : GoodIn wsX4_init (wsX3_init) := ggX4_init_X3_init
theorem dX4_init_0 : decode cX4_init 0 = .ok (.aload_n 0, 1) := by decide +kernel
theorem dX4_init_1 : decode cX4_init 1 = .ok (.invokespecial 3, 3) := by decide +kernel
theorem dX4_init_4 : decode cX4_init 4 = .ok (.aload_n 0, 1) := by decide +kernel
theorem dX4_init_5 : decode cX4_init 5 = .ok (.new 9, 3) := by decide +kernel
theorem dX4_init_8 : decode cX4_init 8 = .ok (.dup, 1) := by decide +kernel
theorem dX4_init_9 : decode cX4_init 9 = .ok (.invokespecial 11, 3) := by decide +kernel
theorem dX4_init_12 : decode cX4_init 12 = .ok (.putfield 12, 3) := by decide +kernel
theorem dX4_init_15 : decode cX4_init 15 = .ok (.aload_n 0, 1) := by decide +kernel
theorem dX4_init_16 : decode cX4_init 16 = .ok (.new 18, 3) := by decide +kernel
theorem dX4_init_19 : decode cX4_init 19 = .ok (.dup, 1) := by decide +kernel
theorem dX4_init_20 : decode cX4_init 20 = .ok (.invokespecial 20, 3) := by decide +kernel
theorem dX4_init_23 : decode cX4_init 23 = .ok (.putfield 21, 3) := by decide +kernel
theorem dX4_init_26 : decode cX4_init 26 = .ok (.aload_n 0, 1) := by decide +kernel
theorem dX4_init_27 : decode cX4_init 27 = .ok (.new 25, 3) := by decide +kernel
theorem dX4_init_30 : decode cX4_init 30 = .ok (.dup, 1) := by decide +kernel
theorem dX4_init_31 : decode cX4_init 31 = .ok (.invokespecial 27, 3) := by decide +kernel
theorem dX4_init_34 : decode cX4_init 34 = .ok (.putfield 28, 3) := by decide +kernel
theorem dX4_init_37 : decode cX4_init 37 = .ok (.aload_n 0, 1) := by decide +kernel
theorem dX4_init_38 : decode cX4_init 38 = .ok (.aload_n 1, 1) := by decide +kernel
theorem dX4_init_39 : decode cX4_init 39 = .ok (.putfield 32, 3) := by decide +kernel
theorem dX4_init_42 : decode cX4_init 42 = .ok (.aload_n 0, 1) := by decide +kernel
theorem dX4_init_43 : decode cX4_init 43 = .ok (.getstatic 36, 3) := by decide +kernel
theorem dX4_init_46 : decode cX4_init 46 = .ok (.iconst 4, 1) := by decide +kernel
theorem dX4_init_47 : decode cX4_init 47 = .ok (.iaload, 1) := by decide +kernel
theorem dX4_init_48 : decode cX4_init 48 = .ok (.putfield 40, 3) := by decide +kernel
theorem dX4_init_51 : decode cX4_init 51 = .ok (.return_, 1) := by decide +kernel
set_option maxRecDepth 20000 in
theorem ggX4_total_X7_weightOf : GoodIn wsX4_total wsX7_weightOf := goodIn_r _ [9, 10, 11, 12, 13, 14, 32, 33, 34, 35] (by decide +kernel) (by decide +kernel)
set_option maxRecDepth 20000 in
theorem gX4_total_X7_weightOf : GoodIn wsX4_total (wsV RX4 52 RX7 yX7_weightOf wsX7_weightOf) := goodIn_app (goodIn_of _ (by decide +kernel)) ggX4_total_X7_weightOf
theorem dX4_total_0 : decode cX4_total 0 = .ok (.aload_n 0, 1) := by decide +kernel
theorem dX4_total_1 : decode cX4_total 1 = .ok (.getfield 32, 3) := by decide +kernel
theorem dX4_total_4 : decode cX4_total 4 = .ok (.getfield 44, 3) := by decide +kernel
theorem dX4_total_7 : decode cX4_total 7 = .ok (.iconst 1, 1) := by decide +kernel
theorem dX4_total_8 : decode cX4_total 8 = .ok (.iaload, 1) := by decide +kernel
theorem dX4_total_9 : decode cX4_total 9 = .ok (.aload_n 0, 1) := by decide +kernel
theorem dX4_total_10 : decode cX4_total 10 = .ok (.getfield 12, 3) := by decide +kernel
theorem dX4_total_13 : decode cX4_total 13 = .ok (.aload_n 0, 1) := by decide +kernel
theorem dX4_total_14 : decode cX4_total 14 = .ok (.getfield 12, 3) := by decide +kernel
theorem dX4_total_17 : decode cX4_total 17 = .ok (.getfield 49, 3) := by decide +kernel
theorem dX4_total_20 : decode cX4_total 20 = .ok (.iconst (-1), 1) := by decide +kernel
theorem dX4_total_21 : decode cX4_total 21 = .ok (.ixor, 1) := by decide +kernel
theorem dX4_total_22 : decode cX4_total 22 = .ok (.invokevirtual 52, 3) := by decide +kernel
theorem dX4_total_25 : decode cX4_total 25 = .ok (.iadd, 1) := by decide +kernel
theorem dX4_total_26 : decode cX4_total 26 = .ok (.ireturn, 1) := by decide +kernel
set_option maxRecDepth 20000 in
theorem ggX4_force_X4_total : GoodIn wsX4_force wsX4_total := goodIn_r _ [9, 10, 11, 12, 13, 14, 15, 16, 17, 18, 19, 20, 21, 22, 23, 24, 25, 26, 27, 28, 29, 30, 31, 32, 33, 34, 35, 36, 37, 38, 39, 40, 41, 42, 43, 44] (by decide +kernel) (by decide +kernel)
set_option maxRecDepth 20000 in
theorem gX4_force_X4_total : GoodIn wsX4_force (wsV RX4 56 RX4 yX4_total wsX4_total) := goodIn_app (goodIn_of _ (by decide +kernel)) ggX4_force_X4_total
theorem dX4_force_0 : decode cX4_force 0 = .ok (.aload_n 0, 1) := by decide +kernel
theorem dX4_force_1 : decode cX4_force 1 = .ok (.invokevirtual 56, 3) := by decide +kernel
theorem dX4_force_4 : decode cX4_force 4 = .ok (.iload_n 1, 1) := by decide +kernel
theorem dX4_force_5 : decode cX4_force 5 = .ok (.invokestatic 60, 3) := by decide +kernel
theorem dX4_force_8 : decode cX4_force 8 = .ok (.imul, 1) := by decide +kernel
theorem dX4_force_9 : decode cX4_force 9 = .ok (.bipush 10, 2) := by decide +kernel
theorem dX4_force_11 : decode cX4_force 11 = .ok (.idiv, 1) := by decide +kernel
theorem dX4_force_12 : decode cX4_force 12 = .ok (.ireturn, 1) := by decide +kernel
set_option maxRecDepth 20000 in
theorem ggX4_holds_X4_force : GoodIn wsX4_holds wsX4_force := goodIn_r _ [9, 10, 11, 12, 13, 14, 15, 16, 8, 17, 3, 4, 18, 19, 20, 21, 22, 23, 24, 25, 26, 27, 28, 29, 73, 74, 75, 76, 77, 78, 79, 80, 81, 82, 83, 84, 85, 86, 92, 93, 94, 95, 96, 97, 98] (by decide +kernel) (by decide +kernel)
set_option maxRecDepth 20000 in
theorem gX4_holds_X4_force : GoodIn wsX4_holds (wsV RX4 65 RX4 yX4_force wsX4_force) := goodIn_app (goodIn_of _ (by decide +kernel)) ggX4_holds_X4_force
set_option maxRecDepth 20000 in
theorem ggX4_holds_X6_firstToPart : GoodIn wsX4_holds wsX6_firstToPart := goodIn_r _ [34, 35, 36, 37, 33, 38, 39, 40, 41, 42, 43, 44, 45, 46, 47, 28, 48, 49, 50, 51, 52, 53, 54, 55, 56, 57, 58, 59, 60, 61, 62, 63, 27, 29, 64, 65, 66, 67, 68, 69, 70, 71, 72, 87, 88, 89, 90, 91] (by decide +kernel) (by decide +kernel)
set_option maxRecDepth 20000 in
theorem gX4_holds_X6_firstToPart : GoodIn wsX4_holds (wsV RX4 71 RX6 yX6_firstToPart wsX6_firstToPart) := goodIn_app (goodIn_of _ (by decide +kernel)) ggX4_holds_X6_firstToPart
theorem dX4_holds_0 : decode cX4_holds 0 = .ok (.aload_n 0, 1) := by decide +kernel
theorem dX4_holds_1 : decode cX4_holds 1 = .ok (.iload_n 1, 1) := by decide +kernel
theorem dX4_holds_2 : decode cX4_holds 2 = .ok (.invokevirtual 65, 3) := by decide +kernel
theorem dX4_holds_5 : decode cX4_holds 5 = .ok (.istore_n 3, 1) := by decide +kernel
theorem dX4_holds_6 : decode cX4_holds 6 = .ok (.iload_n 3, 1) := by decide +kernel
theorem dX4_holds_7 : decode cX4_holds 7 = .ok (.ifCond .eq 32, 3) := by decide +kernel
theorem dX4_holds_10 : decode cX4_holds 10 = .ok (.aload_n 0, 1) := by decide +kernel
theorem dX4_holds_11 : decode cX4_holds 11 = .ok (.getfield 21, 3) := by decide +kernel
theorem dX4_holds_14 : decode cX4_holds 14 = .ok (.getfield 68, 3) := by decide +kernel
theorem dX4_holds_17 : decode cX4_holds 17 = .ok (.ifCond .eq 26, 3) := by decide +kernel
theorem dX4_holds_20 : decode cX4_holds 20 = .ok (.aload_n 0, 1) := by decide +kernel
theorem dX4_holds_21 : decode cX4_holds 21 = .ok (.getfield 21, 3) := by decide +kernel
theorem dX4_holds_24 : decode cX4_holds 24 = .ok (.iload_n 3, 1) := by decide +kernel
theorem dX4_holds_25 : decode cX4_holds 25 = .ok (.iload_n 2, 1) := by decide +kernel
theorem dX4_holds_26 : decode cX4_holds 26 = .ok (.aload_n 0, 1) := by decide +kernel
theorem dX4_holds_27 : decode cX4_holds 27 = .ok (.getfield 32, 3) := by decide +kernel
theorem dX4_holds_30 : decode cX4_holds 30 = .ok (.getfield 44, 3) := by decide +kernel
theorem dX4_holds_33 : decode cX4_holds 33 = .ok (.invokevirtual 71, 3) := by decide +kernel
theorem dX4_holds_36 : decode cX4_holds 36 = .ok (.ifCond .ge 7, 3) := by decide +kernel
theorem dX4_holds_39 : decode cX4_holds 39 = .ok (.iconst 1, 1) := by decide +kernel
theorem dX4_holds_40 : decode cX4_holds 40 = .ok (.goto 4, 3) := by decide +kernel
theorem dX4_holds_43 : decode cX4_holds 43 = .ok (.iconst 0, 1) := by decide +kernel
theorem dX4_holds_44 : decode cX4_holds 44 = .ok (.ireturn, 1) := by decide +kernel
set_option maxRecDepth 20000 in
theorem ggX4_floats_X4_total : GoodIn wsX4_floats wsX4_total := goodIn_r _ [10, 1, 2, 11, 12, 13, 14, 15, 16, 17, 18, 19, 20, 21, 22, 50, 51, 52, 53, 54, 55, 56, 57, 58, 59, 60, 61, 62, 63, 64, 65, 66, 67, 68, 69, 70] (by decide +kernel) (by decide +kernel)
set_option maxRecDepth 20000 in
theorem gX4_floats_X4_total : GoodIn wsX4_floats (wsV RX4 56 RX4 yX4_total wsX4_total) := goodIn_app (goodIn_of _ (by decide +kernel)) ggX4_floats_X4_total
set_option maxRecDepth 20000 in
theorem ggX4_floats_X5_tideIn : GoodIn wsX4_floats wsX5_tideIn := goodIn_r _ [27, 28, 29, 30, 31, 32, 33, 34, 35, 64, 65, 66] (by decide +kernel) (by decide +kernel)
set_option maxRecDepth 20000 in
theorem gX4_floats_X5_tideIn : GoodIn wsX4_floats (wsV RX4 78 RX5 yX5_tideIn wsX5_tideIn) := goodIn_app (goodIn_of _ (by decide +kernel)) ggX4_floats_X5_tideIn
set_option maxRecDepth 20000 in
theorem ggX4_floats_X5_tideNeeded : GoodIn wsX4_floats wsX5_tideNeeded := goodIn_r _ [39, 40, 41, 21, 42, 64, 65, 66] (by decide +kernel) (by decide +kernel)
set_option maxRecDepth 20000 in
theorem gX4_floats_X5_tideNeeded : GoodIn wsX4_floats (wsV RX4 81 RX5 yX5_tideNeeded wsX5_tideNeeded) := goodIn_app (goodIn_of _ (by decide +kernel)) ggX4_floats_X5_tideNeeded
set_option maxRecDepth 20000 in
theorem ggX4_floats_X3_bitsOf : GoodIn wsX4_floats wsX3_bitsOf := goodIn_r _ [47, 48, 49, 71, 72, 73, 74, 75, 76, 77, 78, 79] (by decide +kernel) (by decide +kernel)
set_option maxRecDepth 20000 in
theorem gX4_floats_X3_bitsOf : GoodIn wsX4_floats (wsV RX4 87 RX3 yX3_bitsOf wsX3_bitsOf) := goodIn_app (goodIn_of _ (by decide +kernel)) ggX4_floats_X3_bitsOf
theorem dX4_floats_0 : decode cX4_floats 0 = .ok (.aload_n 0, 1) := by decide +kernel
theorem dX4_floats_1 : decode cX4_floats 1 = .ok (.invokevirtual 56, 3) := by decide +kernel
theorem dX4_floats_4 : decode cX4_floats 4 = .ok (.istore_n 1, 1) := by decide +kernel
theorem dX4_floats_5 : decode cX4_floats 5 = .ok (.iload_n 1, 1) := by decide +kernel
theorem dX4_floats_6 : decode cX4_floats 6 = .ok (.aload_n 0, 1) := by decide +kernel
theorem dX4_floats_7 : decode cX4_floats 7 = .ok (.getfield 32, 3) := by decide +kernel
theorem dX4_floats_10 : decode cX4_floats 10 = .ok (.getfield 44, 3) := by decide +kernel
theorem dX4_floats_13 : decode cX4_floats 13 = .ok (.iconst 2, 1) := by decide +kernel
theorem dX4_floats_14 : decode cX4_floats 14 = .ok (.iaload, 1) := by decide +kernel
theorem dX4_floats_15 : decode cX4_floats 15 = .ok (.if_icmp .lt 29, 3) := by decide +kernel
theorem dX4_floats_18 : decode cX4_floats 18 = .ok (.aload_n 0, 1) := by decide +kernel
theorem dX4_floats_19 : decode cX4_floats 19 = .ok (.getfield 32, 3) := by decide +kernel
theorem dX4_floats_22 : decode cX4_floats 22 = .ok (.aload_n 0, 1) := by decide +kernel
theorem dX4_floats_23 : decode cX4_floats 23 = .ok (.getfield 75, 3) := by decide +kernel
theorem dX4_floats_26 : decode cX4_floats 26 = .ok (.invokevirtual 78, 3) := by decide +kernel
theorem dX4_floats_29 : decode cX4_floats 29 = .ok (.aload_n 0, 1) := by decide +kernel
theorem dX4_floats_30 : decode cX4_floats 30 = .ok (.getfield 32, 3) := by decide +kernel
theorem dX4_floats_33 : decode cX4_floats 33 = .ok (.iload_n 1, 1) := by decide +kernel
theorem dX4_floats_34 : decode cX4_floats 34 = .ok (.invokevirtual 81, 3) := by decide +kernel
theorem dX4_floats_37 : decode cX4_floats 37 = .ok (.if_icmp .lt 7, 3) := by decide +kernel
theorem dX4_floats_40 : decode cX4_floats 40 = .ok (.iconst 1, 1) := by decide +kernel
theorem dX4_floats_41 : decode cX4_floats 41 = .ok (.goto 4, 3) := by decide +kernel
theorem dX4_floats_44 : decode cX4_floats 44 = .ok (.iconst 0, 1) := by decide +kernel
theorem dX4_floats_45 : decode cX4_floats 45 = .ok (.istore_n 2, 1) := by decide +kernel
theorem dX4_floats_46 : decode cX4_floats 46 = .ok (.iload_n 2, 1) := by decide +kernel
theorem dX4_floats_47 : decode cX4_floats 47 = .ok (.ifCond .eq 25, 3) := by decide +kernel
theorem dX4_floats_50 : decode cX4_floats 50 = .ok (.aload_n 0, 1) := by decide +kernel
theorem dX4_floats_51 : decode cX4_floats 51 = .ok (.getfield 84, 3) := by decide +kernel
theorem dX4_floats_54 : decode cX4_floats 54 = .ok (.ifCond .ne 18, 3) := by decide +kernel
theorem dX4_floats_57 : decode cX4_floats 57 = .ok (.aload_n 0, 1) := by decide +kernel
theorem dX4_floats_58 : decode cX4_floats 58 = .ok (.getfield 28, 3) := by decide +kernel
theorem dX4_floats_61 : decode cX4_floats 61 = .ok (.iconst 1, 1) := by decide +kernel
theorem dX4_floats_62 : decode cX4_floats 62 = .ok (.invokevirtual 87, 3) := by decide +kernel
theorem dX4_floats_65 : decode cX4_floats 65 = .ok (.ifCond .ne 7, 3) := by decide +kernel
theorem dX4_floats_68 : decode cX4_floats 68 = .ok (.iconst 1, 1) := by decide +kernel
theorem dX4_floats_69 : decode cX4_floats 69 = .ok (.goto 4, 3) := by decide +kernel
theorem dX4_floats_72 : decode cX4_floats 72 = .ok (.iconst 0, 1) := by decide +kernel
theorem dX4_floats_73 : decode cX4_floats 73 = .ok (.ireturn, 1) := by decide +kernel
theorem dX4_isLost_0 : decode cX4_isLost 0 = .ok (.aload_n 0, 1) := by decide +kernel
theorem dX4_isLost_1 : decode cX4_isLost 1 = .ok (.getfield 90, 3) := by decide +kernel
theorem dX4_isLost_4 : decode cX4_isLost 4 = .ok (.bipush 100, 2) := by decide +kernel
theorem dX4_isLost_6 : decode cX4_isLost 6 = .ok (.if_icmp .le 7, 3) := by decide +kernel
theorem dX4_isLost_9 : decode cX4_isLost 9 = .ok (.iconst 1, 1) := by decide +kernel
theorem dX4_isLost_10 : decode cX4_isLost 10 = .ok (.goto 4, 3) := by decide +kernel
theorem dX4_isLost_13 : decode cX4_isLost 13 = .ok (.iconst 0, 1) := by decide +kernel
theorem dX4_isLost_14 : decode cX4_isLost 14 = .ok (.ireturn, 1) := by decide +kernel
set_option maxRecDepth 20000 in
theorem ggX4_isBare_X5_tideIn : GoodIn wsX4_isBare wsX5_tideIn := goodIn_r _ [8, 9, 10, 11, 12, 13, 14, 15, 16, 38, 39, 40] (by decide +kernel) (by decide +kernel)
set_option maxRecDepth 20000 in
theorem gX4_isBare_X5_tideIn : GoodIn wsX4_isBare (wsV RX4 78 RX5 yX5_tideIn wsX5_tideIn) := goodIn_app (goodIn_of _ (by decide +kernel)) ggX4_isBare_X5_tideIn
set_option maxRecDepth 20000 in
theorem ggX4_isBare_X3_isBare : GoodIn wsX4_isBare wsX3_isBare := goodIn_r _ [21, 22, 23, 41, 42, 43, 44, 45, 46, 47, 48, 49] (by decide +kernel) (by decide +kernel)
set_option maxRecDepth 20000 in
theorem gX4_isBare_X3_isBare : GoodIn wsX4_isBare (wsV RX4 93 RX3 yX3_isBare wsX3_isBare) := goodIn_app (goodIn_of _ (by decide +kernel)) ggX4_isBare_X3_isBare
theorem dX4_isBare_0 : decode cX4_isBare 0 = .ok (.aload_n 0, 1) := by decide +kernel
theorem dX4_isBare_1 : decode cX4_isBare 1 = .ok (.getfield 28, 3) := by decide +kernel
theorem dX4_isBare_4 : decode cX4_isBare 4 = .ok (.iload_n 1, 1) := by decide +kernel
theorem dX4_isBare_5 : decode cX4_isBare 5 = .ok (.aload_n 0, 1) := by decide +kernel
theorem dX4_isBare_6 : decode cX4_isBare 6 = .ok (.getfield 32, 3) := by decide +kernel
theorem dX4_isBare_9 : decode cX4_isBare 9 = .ok (.iload_n 2, 1) := by decide +kernel
theorem dX4_isBare_10 : decode cX4_isBare 10 = .ok (.invokevirtual 78, 3) := by decide +kernel
theorem dX4_isBare_13 : decode cX4_isBare 13 = .ok (.aload_n 0, 1) := by decide +kernel
theorem dX4_isBare_14 : decode cX4_isBare 14 = .ok (.getfield 84, 3) := by decide +kernel
theorem dX4_isBare_17 : decode cX4_isBare 17 = .ok (.invokevirtual 93, 3) := by decide +kernel
theorem dX4_isBare_20 : decode cX4_isBare 20 = .ok (.ireturn, 1) := by decide +kernel
set_option maxRecDepth 20000 in
theorem ggX4_hoursBare_X4_isBare : GoodIn wsX4_hoursBare wsX4_isBare := goodIn_r _ [6, 7, 8, 9, 10, 11, 12, 13, 14, 15, 16, 17, 18, 19, 20, 21, 22, 23, 24, 25, 26, 27, 28, 29, 30, 31, 32, 33, 34, 35, 36, 37, 38, 39, 40, 41, 42, 43, 44, 45, 46, 47, 48, 49, 50, 51, 52, 53, 54, 55] (by decide +kernel) (by decide +kernel)
set_option maxRecDepth 20000 in
theorem gX4_hoursBare_X4_isBare : GoodIn wsX4_hoursBare (wsV RX4 97 RX4 yX4_isBare wsX4_isBare) := goodIn_app (goodIn_of _ (by decide +kernel)) ggX4_hoursBare_X4_isBare
theorem dX4_hoursBare_0 : decode cX4_hoursBare 0 = .ok (.aload_n 0, 1) := by decide +kernel
theorem dX4_hoursBare_1 : decode cX4_hoursBare 1 = .ok (.getfield 75, 3) := by decide +kernel
theorem dX4_hoursBare_4 : decode cX4_hoursBare 4 = .ok (.istore_n 2, 1) := by decide +kernel
theorem dX4_hoursBare_5 : decode cX4_hoursBare 5 = .ok (.iload_n 2, 1) := by decide +kernel
theorem dX4_hoursBare_6 : decode cX4_hoursBare 6 = .ok (.bipush 96, 2) := by decide +kernel
theorem dX4_hoursBare_8 : decode cX4_hoursBare 8 = .ok (.if_icmp .ge 18, 3) := by decide +kernel
theorem dX4_hoursBare_11 : decode cX4_hoursBare 11 = .ok (.aload_n 0, 1) := by decide +kernel
theorem dX4_hoursBare_12 : decode cX4_hoursBare 12 = .ok (.iload_n 1, 1) := by decide +kernel
theorem dX4_hoursBare_13 : decode cX4_hoursBare 13 = .ok (.iload_n 2, 1) := by decide +kernel
theorem dX4_hoursBare_14 : decode cX4_hoursBare 14 = .ok (.invokevirtual 97, 3) := by decide +kernel
theorem dX4_hoursBare_17 : decode cX4_hoursBare 17 = .ok (.ifCond .eq 9, 3) := by decide +kernel
theorem dX4_hoursBare_20 : decode cX4_hoursBare 20 = .ok (.iinc 2 1, 3) := by decide +kernel
theorem dX4_hoursBare_23 : decode cX4_hoursBare 23 = .ok (.goto (-18), 3) := by decide +kernel
theorem dX4_hoursBare_26 : decode cX4_hoursBare 26 = .ok (.iload_n 2, 1) := by decide +kernel
theorem dX4_hoursBare_27 : decode cX4_hoursBare 27 = .ok (.aload_n 0, 1) := by decide +kernel
theorem dX4_hoursBare_28 : decode cX4_hoursBare 28 = .ok (.getfield 75, 3) := by decide +kernel
theorem dX4_hoursBare_31 : decode cX4_hoursBare 31 = .ok (.isub, 1) := by decide +kernel
theorem dX4_hoursBare_32 : decode cX4_hoursBare 32 = .ok (.ireturn, 1) := by decide +kernel
theorem dX4_moveByBoat_0 : decode cX4_moveByBoat 0 = .ok (.aload_n 0, 1) := by decide +kernel
theorem dX4_moveByBoat_1 : decode cX4_moveByBoat 1 = .ok (.getfield 12, 3) := by decide +kernel
theorem dX4_moveByBoat_4 : decode cX4_moveByBoat 4 = .ok (.dup, 1) := by decide +kernel
theorem dX4_moveByBoat_5 : decode cX4_moveByBoat 5 = .ok (.getfield 49, 3) := by decide +kernel
theorem dX4_moveByBoat_8 : decode cX4_moveByBoat 8 = .ok (.iconst 1, 1) := by decide +kernel
theorem dX4_moveByBoat_9 : decode cX4_moveByBoat 9 = .ok (.iload_n 1, 1) := by decide +kernel
theorem dX4_moveByBoat_10 : decode cX4_moveByBoat 10 = .ok (.ishl, 1) := by decide +kernel
theorem dX4_moveByBoat_11 : decode cX4_moveByBoat 11 = .ok (.ixor, 1) := by decide +kernel
theorem dX4_moveByBoat_12 : decode cX4_moveByBoat 12 = .ok (.putfield 49, 3) := by decide +kernel
theorem dX4_moveByBoat_15 : decode cX4_moveByBoat 15 = .ok (.aload_n 0, 1) := by decide +kernel
theorem dX4_moveByBoat_16 : decode cX4_moveByBoat 16 = .ok (.iconst 1, 1) := by decide +kernel
theorem dX4_moveByBoat_17 : decode cX4_moveByBoat 17 = .ok (.putfield 100, 3) := by decide +kernel
theorem dX4_moveByBoat_20 : decode cX4_moveByBoat 20 = .ok (.aload_n 0, 1) := by decide +kernel
theorem dX4_moveByBoat_21 : decode cX4_moveByBoat 21 = .ok (.dup, 1) := by decide +kernel
theorem dX4_moveByBoat_22 : decode cX4_moveByBoat 22 = .ok (.getfield 104, 3) := by decide +kernel
theorem dX4_moveByBoat_25 : decode cX4_moveByBoat 25 = .ok (.iconst 1, 1) := by decide +kernel
theorem dX4_moveByBoat_26 : decode cX4_moveByBoat 26 = .ok (.iadd, 1) := by decide +kernel
theorem dX4_moveByBoat_27 : decode cX4_moveByBoat 27 = .ok (.putfield 104, 3) := by decide +kernel
theorem dX4_moveByBoat_30 : decode cX4_moveByBoat 30 = .ok (.return_, 1) := by decide +kernel
set_option maxRecDepth 20000 in
theorem ggX4_passHour_X5_rainsIn : GoodIn wsX4_passHour wsX5_rainsIn := goodIn_r _ [9, 10, 11, 12, 13, 14, 15, 16, 17, 158, 159, 160] (by decide +kernel) (by decide +kernel)
set_option maxRecDepth 20000 in
theorem gX4_passHour_X5_rainsIn : GoodIn wsX4_passHour (wsV RX4 107 RX5 yX5_rainsIn wsX5_rainsIn) := goodIn_app (goodIn_of _ (by decide +kernel)) ggX4_passHour_X5_rainsIn
set_option maxRecDepth 20000 in
theorem ggX4_passHour_X4_work : GoodIn wsX4_passHour wsX4_work := goodIn_r _ [22, 1, 23, 24, 25, 26, 2, 27, 28, 29, 30, 31, 32, 33, 21, 34, 35, 36, 37, 38, 8, 39, 40, 11, 12, 13, 14, 15, 16, 17, 41, 42, 43, 44, 45, 46, 47, 48, 49, 50, 51, 52, 53, 54, 55, 56, 57, 58, 59, 60, 61, 62, 63, 64, 65, 66, 67, 144, 145, 146, 147, 148, 149, 150, 151, 152, 153, 154, 155, 156, 157, 158, 159, 160, 161, 162, 163, 164, 165, 166, 167, 168, 169] (by decide +kernel) (by decide +kernel)
set_option maxRecDepth 20000 in
theorem gX4_passHour_X4_work : GoodIn wsX4_passHour (wsV RX4 111 RX4 yX4_work wsX4_work) := goodIn_app (goodIn_of _ (by decide +kernel)) ggX4_passHour_X4_work
set_option maxRecDepth 20000 in
theorem ggX4_passHour_X4_flood : GoodIn wsX4_passHour wsX4_flood := goodIn_r _ [71, 24, 25, 52, 2, 72, 73, 16, 13, 17, 31, 32, 33, 21, 34, 1, 35, 36, 37, 38, 8, 39, 40, 11, 12, 14, 15, 41, 42, 43, 44, 45, 46, 47, 144, 145, 146, 147, 148, 149, 150, 151, 152, 153, 154, 155, 156, 157, 161, 162, 163, 164, 165, 166, 167, 168, 169, 158, 159, 160] (by decide +kernel) (by decide +kernel)
set_option maxRecDepth 20000 in
theorem gX4_passHour_X4_flood : GoodIn wsX4_passHour (wsV RX4 115 RX4 yX4_flood wsX4_flood) := goodIn_app (goodIn_of _ (by decide +kernel)) ggX4_passHour_X4_flood
set_option maxRecDepth 20000 in
theorem ggX4_passHour_X4_partTackles : GoodIn wsX4_passHour wsX4_partTackles := goodIn_r _ [77, 1, 2, 78, 35, 23, 79, 80, 5, 6, 7, 8, 9, 10, 11, 12, 13, 14, 15, 16, 17, 81, 82, 83, 21, 84, 85, 86, 87, 88, 89, 90, 91, 92, 93, 94, 95, 96, 97, 98, 99, 100, 28, 29, 30, 101, 102, 103, 104, 105, 106, 107, 108, 109, 110, 111, 112, 113, 114, 115, 116, 117, 118, 119, 120, 121, 122, 123, 124, 125, 126, 127, 128, 129, 130, 131, 132, 133, 134, 135, 136, 137, 138, 139, 140, 141, 142, 143, 144, 145, 146, 147, 148, 149, 150, 151, 152, 153, 154, 155, 156, 157, 158, 159, 160, 170, 171, 172, 173, 174, 175, 176, 177, 178] (by decide +kernel) (by decide +kernel)
set_option maxRecDepth 20000 in
theorem gX4_passHour_X4_partTackles : GoodIn wsX4_passHour (wsV RX4 118 RX4 yX4_partTackles wsX4_partTackles) := goodIn_app (goodIn_of _ (by decide +kernel)) ggX4_passHour_X4_partTackles
theorem dX4_passHour_0 : decode cX4_passHour 0 = .ok (.aload_n 0, 1) := by decide +kernel
theorem dX4_passHour_1 : decode cX4_passHour 1 = .ok (.getfield 32, 3) := by decide +kernel
theorem dX4_passHour_4 : decode cX4_passHour 4 = .ok (.aload_n 0, 1) := by decide +kernel
theorem dX4_passHour_5 : decode cX4_passHour 5 = .ok (.getfield 75, 3) := by decide +kernel
theorem dX4_passHour_8 : decode cX4_passHour 8 = .ok (.invokevirtual 107, 3) := by decide +kernel
theorem dX4_passHour_11 : decode cX4_passHour 11 = .ok (.ifCond .ne 8, 3) := by decide +kernel
theorem dX4_passHour_14 : decode cX4_passHour 14 = .ok (.aload_n 0, 1) := by decide +kernel
theorem dX4_passHour_15 : decode cX4_passHour 15 = .ok (.iload_n 1, 1) := by decide +kernel
theorem dX4_passHour_16 : decode cX4_passHour 16 = .ok (.invokevirtual 111, 3) := by decide +kernel
theorem dX4_passHour_19 : decode cX4_passHour 19 = .ok (.aload_n 0, 1) := by decide +kernel
theorem dX4_passHour_20 : decode cX4_passHour 20 = .ok (.invokevirtual 115, 3) := by decide +kernel
theorem dX4_passHour_23 : decode cX4_passHour 23 = .ok (.aload_n 0, 1) := by decide +kernel
theorem dX4_passHour_24 : decode cX4_passHour 24 = .ok (.invokevirtual 118, 3) := by decide +kernel
theorem dX4_passHour_27 : decode cX4_passHour 27 = .ok (.aload_n 0, 1) := by decide +kernel
theorem dX4_passHour_28 : decode cX4_passHour 28 = .ok (.dup, 1) := by decide +kernel
theorem dX4_passHour_29 : decode cX4_passHour 29 = .ok (.getfield 75, 3) := by decide +kernel
theorem dX4_passHour_32 : decode cX4_passHour 32 = .ok (.iconst 1, 1) := by decide +kernel
theorem dX4_passHour_33 : decode cX4_passHour 33 = .ok (.iadd, 1) := by decide +kernel
theorem dX4_passHour_34 : decode cX4_passHour 34 = .ok (.putfield 75, 3) := by decide +kernel
theorem dX4_passHour_37 : decode cX4_passHour 37 = .ok (.aload_n 0, 1) := by decide +kernel
theorem dX4_passHour_38 : decode cX4_passHour 38 = .ok (.iconst 0, 1) := by decide +kernel
theorem dX4_passHour_39 : decode cX4_passHour 39 = .ok (.putfield 100, 3) := by decide +kernel
theorem dX4_passHour_42 : decode cX4_passHour 42 = .ok (.aload_n 0, 1) := by decide +kernel
theorem dX4_passHour_43 : decode cX4_passHour 43 = .ok (.iconst 0, 1) := by decide +kernel
theorem dX4_passHour_44 : decode cX4_passHour 44 = .ok (.putfield 121, 3) := by decide +kernel
theorem dX4_passHour_47 : decode cX4_passHour 47 = .ok (.return_, 1) := by decide +kernel
set_option maxRecDepth 20000 in
theorem ggX4_work_X8_hasBit : GoodIn wsX4_work wsX8_hasBit := goodIn_r _ [10] (by decide +kernel) (by decide +kernel)
set_option maxRecDepth 20000 in
theorem gX4_work_X8_hasBit_n130 : GoodIn wsX4_work (wsX8_hasBit) := ggX4_work_X8_hasBit
set_option maxRecDepth 20000 in
theorem ggX4_work_X4_isBare : GoodIn wsX4_work wsX4_isBare := goodIn_r _ [15, 3, 1, 16, 17, 18, 19, 20, 21, 22, 23, 24, 25, 26, 27, 28, 29, 30, 31, 32, 33, 34, 35, 36, 57, 58, 59, 60, 61, 62, 63, 64, 65, 66, 67, 68, 69, 70, 71, 72, 73, 74, 75, 76, 77, 78, 79, 80, 81, 82] (by decide +kernel) (by decide +kernel)
set_option maxRecDepth 20000 in
theorem gX4_work_X4_isBare : GoodIn wsX4_work (wsV RX4 97 RX4 yX4_isBare wsX4_isBare) := goodIn_app (goodIn_of _ (by decide +kernel)) ggX4_work_X4_isBare
set_option maxRecDepth 20000 in
theorem ggX4_work_X4_isWorkDone : GoodIn wsX4_work wsX4_isWorkDone := goodIn_r _ [40, 3, 41, 42, 43, 44, 45, 46, 47, 33, 48, 49, 50, 51, 52, 53, 54, 55, 56, 57, 58, 59, 60, 61, 62, 63, 64, 65, 66, 67, 68, 69, 70, 74, 75, 76, 77, 78, 79, 80, 81, 82] (by decide +kernel) (by decide +kernel)
set_option maxRecDepth 20000 in
theorem gX4_work_X4_isWorkDone : GoodIn wsX4_work (wsV RX4 133 RX4 yX4_isWorkDone wsX4_isWorkDone) := goodIn_app (goodIn_of _ (by decide +kernel)) ggX4_work_X4_isWorkDone
theorem dX4_work_0 : decode cX4_work 0 = .ok (.aload_n 0, 1) := by decide +kernel
theorem dX4_work_1 : decode cX4_work 1 = .ok (.getfield 32, 3) := by decide +kernel
theorem dX4_work_4 : decode cX4_work 4 = .ok (.getfield 44, 3) := by decide +kernel
theorem dX4_work_7 : decode cX4_work 7 = .ok (.iconst 3, 1) := by decide +kernel
theorem dX4_work_8 : decode cX4_work 8 = .ok (.iaload, 1) := by decide +kernel
theorem dX4_work_9 : decode cX4_work 9 = .ok (.istore_n 2, 1) := by decide +kernel
theorem dX4_work_10 : decode cX4_work 10 = .ok (.iconst 0, 1) := by decide +kernel
theorem dX4_work_11 : decode cX4_work 11 = .ok (.istore_n 3, 1) := by decide +kernel
theorem dX4_work_12 : decode cX4_work 12 = .ok (.iload_n 3, 1) := by decide +kernel
theorem dX4_work_13 : decode cX4_work 13 = .ok (.aload_n 0, 1) := by decide +kernel
theorem dX4_work_14 : decode cX4_work 14 = .ok (.getfield 28, 3) := by decide +kernel
theorem dX4_work_17 : decode cX4_work 17 = .ok (.getfield 124, 3) := by decide +kernel
theorem dX4_work_20 : decode cX4_work 20 = .ok (.if_icmp .ge 70, 3) := by decide +kernel
theorem dX4_work_23 : decode cX4_work 23 = .ok (.aload_n 0, 1) := by decide +kernel
theorem dX4_work_24 : decode cX4_work 24 = .ok (.getfield 28, 3) := by decide +kernel
theorem dX4_work_27 : decode cX4_work 27 = .ok (.getfield 127, 3) := by decide +kernel
theorem dX4_work_30 : decode cX4_work 30 = .ok (.iload_n 3, 1) := by decide +kernel
theorem dX4_work_31 : decode cX4_work 31 = .ok (.iaload, 1) := by decide +kernel
theorem dX4_work_32 : decode cX4_work 32 = .ok (.istore 4, 2) := by decide +kernel
theorem dX4_work_34 : decode cX4_work 34 = .ok (.iload_n 1, 1) := by decide +kernel
theorem dX4_work_35 : decode cX4_work 35 = .ok (.iload_n 3, 1) := by decide +kernel
theorem dX4_work_36 : decode cX4_work 36 = .ok (.invokestatic 130, 3) := by decide +kernel
theorem dX4_work_39 : decode cX4_work 39 = .ok (.ifCond .eq 45, 3) := by decide +kernel
theorem dX4_work_42 : decode cX4_work 42 = .ok (.aload_n 0, 1) := by decide +kernel
theorem dX4_work_43 : decode cX4_work 43 = .ok (.iload_n 3, 1) := by decide +kernel
theorem dX4_work_44 : decode cX4_work 44 = .ok (.aload_n 0, 1) := by decide +kernel
theorem dX4_work_45 : decode cX4_work 45 = .ok (.getfield 75, 3) := by decide +kernel
theorem dX4_work_48 : decode cX4_work 48 = .ok (.invokevirtual 97, 3) := by decide +kernel
theorem dX4_work_51 : decode cX4_work 51 = .ok (.ifCond .eq 33, 3) := by decide +kernel
theorem dX4_work_54 : decode cX4_work 54 = .ok (.iload 4, 2) := by decide +kernel
theorem dX4_work_56 : decode cX4_work 56 = .ok (.iload_n 2, 1) := by decide +kernel
theorem dX4_work_57 : decode cX4_work 57 = .ok (.if_icmp .gt 27, 3) := by decide +kernel
theorem dX4_work_60 : decode cX4_work 60 = .ok (.aload_n 0, 1) := by decide +kernel
theorem dX4_work_61 : decode cX4_work 61 = .ok (.iload_n 3, 1) := by decide +kernel
theorem dX4_work_62 : decode cX4_work 62 = .ok (.invokevirtual 133, 3) := by decide +kernel
theorem dX4_work_65 : decode cX4_work 65 = .ok (.ifCond .eq 19, 3) := by decide +kernel
theorem dX4_work_68 : decode cX4_work 68 = .ok (.iload_n 2, 1) := by decide +kernel
theorem dX4_work_69 : decode cX4_work 69 = .ok (.iload 4, 2) := by decide +kernel
theorem dX4_work_71 : decode cX4_work 71 = .ok (.isub, 1) := by decide +kernel
theorem dX4_work_72 : decode cX4_work 72 = .ok (.istore_n 2, 1) := by decide +kernel
theorem dX4_work_73 : decode cX4_work 73 = .ok (.aload_n 0, 1) := by decide +kernel
theorem dX4_work_74 : decode cX4_work 74 = .ok (.dup, 1) := by decide +kernel
theorem dX4_work_75 : decode cX4_work 75 = .ok (.getfield 136, 3) := by decide +kernel
theorem dX4_work_78 : decode cX4_work 78 = .ok (.iload 4, 2) := by decide +kernel
theorem dX4_work_80 : decode cX4_work 80 = .ok (.iadd, 1) := by decide +kernel
theorem dX4_work_81 : decode cX4_work 81 = .ok (.putfield 136, 3) := by decide +kernel
theorem dX4_work_84 : decode cX4_work 84 = .ok (.iinc 3 1, 3) := by decide +kernel
theorem dX4_work_87 : decode cX4_work 87 = .ok (.goto (-75), 3) := by decide +kernel
theorem dX4_work_90 : decode cX4_work 90 = .ok (.return_, 1) := by decide +kernel
set_option maxRecDepth 20000 in
theorem ggX4_isWorkDone_X3_pitchLacking : GoodIn wsX4_isWorkDone wsX3_pitchLacking := goodIn_r _ [10, 11, 12, 33, 34, 35, 36, 37, 38, 39, 40, 41] (by decide +kernel) (by decide +kernel)
set_option maxRecDepth 20000 in
theorem gX4_isWorkDone_X3_pitchLacking : GoodIn wsX4_isWorkDone (wsV RX4 142 RX3 yX3_pitchLacking wsX3_pitchLacking) := goodIn_app (goodIn_of _ (by decide +kernel)) ggX4_isWorkDone_X3_pitchLacking
set_option maxRecDepth 20000 in
theorem ggX4_isWorkDone_X3_hoursLacking : GoodIn wsX4_isWorkDone wsX3_hoursLacking := goodIn_r _ [16, 17, 18, 11, 33, 34, 35, 36, 37, 38, 39, 40, 41] (by decide +kernel) (by decide +kernel)
set_option maxRecDepth 20000 in
theorem gX4_isWorkDone_X3_hoursLacking : GoodIn wsX4_isWorkDone (wsV RX4 151 RX3 yX3_hoursLacking wsX3_hoursLacking) := goodIn_app (goodIn_of _ (by decide +kernel)) ggX4_isWorkDone_X3_hoursLacking
theorem dX4_isWorkDone_0 : decode cX4_isWorkDone 0 = .ok (.aload_n 0, 1) := by decide +kernel
theorem dX4_isWorkDone_1 : decode cX4_isWorkDone 1 = .ok (.getfield 28, 3) := by decide +kernel
theorem dX4_isWorkDone_4 : decode cX4_isWorkDone 4 = .ok (.getfield 139, 3) := by decide +kernel
theorem dX4_isWorkDone_7 : decode cX4_isWorkDone 7 = .ok (.iload_n 1, 1) := by decide +kernel
theorem dX4_isWorkDone_8 : decode cX4_isWorkDone 8 = .ok (.iaload, 1) := by decide +kernel
theorem dX4_isWorkDone_9 : decode cX4_isWorkDone 9 = .ok (.ifCond .ne 15, 3) := by decide +kernel
theorem dX4_isWorkDone_12 : decode cX4_isWorkDone 12 = .ok (.aload_n 0, 1) := by decide +kernel
theorem dX4_isWorkDone_13 : decode cX4_isWorkDone 13 = .ok (.getfield 28, 3) := by decide +kernel
theorem dX4_isWorkDone_16 : decode cX4_isWorkDone 16 = .ok (.getfield 139, 3) := by decide +kernel
theorem dX4_isWorkDone_19 : decode cX4_isWorkDone 19 = .ok (.iload_n 1, 1) := by decide +kernel
theorem dX4_isWorkDone_20 : decode cX4_isWorkDone 20 = .ok (.iconst 1, 1) := by decide +kernel
theorem dX4_isWorkDone_21 : decode cX4_isWorkDone 21 = .ok (.iastore, 1) := by decide +kernel
theorem dX4_isWorkDone_22 : decode cX4_isWorkDone 22 = .ok (.iconst 1, 1) := by decide +kernel
theorem dX4_isWorkDone_23 : decode cX4_isWorkDone 23 = .ok (.ireturn, 1) := by decide +kernel
theorem dX4_isWorkDone_24 : decode cX4_isWorkDone 24 = .ok (.aload_n 0, 1) := by decide +kernel
theorem dX4_isWorkDone_25 : decode cX4_isWorkDone 25 = .ok (.getfield 28, 3) := by decide +kernel
theorem dX4_isWorkDone_28 : decode cX4_isWorkDone 28 = .ok (.iload_n 1, 1) := by decide +kernel
theorem dX4_isWorkDone_29 : decode cX4_isWorkDone 29 = .ok (.invokevirtual 142, 3) := by decide +kernel
theorem dX4_isWorkDone_32 : decode cX4_isWorkDone 32 = .ok (.istore_n 2, 1) := by decide +kernel
theorem dX4_isWorkDone_33 : decode cX4_isWorkDone 33 = .ok (.aload_n 0, 1) := by decide +kernel
theorem dX4_isWorkDone_34 : decode cX4_isWorkDone 34 = .ok (.getfield 28, 3) := by decide +kernel
theorem dX4_isWorkDone_37 : decode cX4_isWorkDone 37 = .ok (.getfield 139, 3) := by decide +kernel
theorem dX4_isWorkDone_40 : decode cX4_isWorkDone 40 = .ok (.iload_n 1, 1) := by decide +kernel
theorem dX4_isWorkDone_41 : decode cX4_isWorkDone 41 = .ok (.iaload, 1) := by decide +kernel
theorem dX4_isWorkDone_42 : decode cX4_isWorkDone 42 = .ok (.iconst 1, 1) := by decide +kernel
theorem dX4_isWorkDone_43 : decode cX4_isWorkDone 43 = .ok (.if_icmp .ne 11, 3) := by decide +kernel
theorem dX4_isWorkDone_46 : decode cX4_isWorkDone 46 = .ok (.iload_n 2, 1) := by decide +kernel
theorem dX4_isWorkDone_47 : decode cX4_isWorkDone 47 = .ok (.aload_n 0, 1) := by decide +kernel
theorem dX4_isWorkDone_48 : decode cX4_isWorkDone 48 = .ok (.getfield 40, 3) := by decide +kernel
theorem dX4_isWorkDone_51 : decode cX4_isWorkDone 51 = .ok (.if_icmp .le 5, 3) := by decide +kernel
theorem dX4_isWorkDone_54 : decode cX4_isWorkDone 54 = .ok (.iconst 0, 1) := by decide +kernel
theorem dX4_isWorkDone_55 : decode cX4_isWorkDone 55 = .ok (.ireturn, 1) := by decide +kernel
theorem dX4_isWorkDone_56 : decode cX4_isWorkDone 56 = .ok (.aload_n 0, 1) := by decide +kernel
theorem dX4_isWorkDone_57 : decode cX4_isWorkDone 57 = .ok (.dup, 1) := by decide +kernel
theorem dX4_isWorkDone_58 : decode cX4_isWorkDone 58 = .ok (.getfield 40, 3) := by decide +kernel
theorem dX4_isWorkDone_61 : decode cX4_isWorkDone 61 = .ok (.iload_n 2, 1) := by decide +kernel
theorem dX4_isWorkDone_62 : decode cX4_isWorkDone 62 = .ok (.isub, 1) := by decide +kernel
theorem dX4_isWorkDone_63 : decode cX4_isWorkDone 63 = .ok (.putfield 40, 3) := by decide +kernel
theorem dX4_isWorkDone_66 : decode cX4_isWorkDone 66 = .ok (.aload_n 0, 1) := by decide +kernel
theorem dX4_isWorkDone_67 : decode cX4_isWorkDone 67 = .ok (.dup, 1) := by decide +kernel
theorem dX4_isWorkDone_68 : decode cX4_isWorkDone 68 = .ok (.getfield 145, 3) := by decide +kernel
theorem dX4_isWorkDone_71 : decode cX4_isWorkDone 71 = .ok (.iload_n 2, 1) := by decide +kernel
theorem dX4_isWorkDone_72 : decode cX4_isWorkDone 72 = .ok (.iadd, 1) := by decide +kernel
theorem dX4_isWorkDone_73 : decode cX4_isWorkDone 73 = .ok (.putfield 145, 3) := by decide +kernel
theorem dX4_isWorkDone_76 : decode cX4_isWorkDone 76 = .ok (.aload_n 0, 1) := by decide +kernel
theorem dX4_isWorkDone_77 : decode cX4_isWorkDone 77 = .ok (.getfield 28, 3) := by decide +kernel
theorem dX4_isWorkDone_80 : decode cX4_isWorkDone 80 = .ok (.getfield 148, 3) := by decide +kernel
theorem dX4_isWorkDone_83 : decode cX4_isWorkDone 83 = .ok (.iload_n 1, 1) := by decide +kernel
theorem dX4_isWorkDone_84 : decode cX4_isWorkDone 84 = .ok (.dup2, 1) := by decide +kernel
theorem dX4_isWorkDone_85 : decode cX4_isWorkDone 85 = .ok (.iaload, 1) := by decide +kernel
theorem dX4_isWorkDone_86 : decode cX4_isWorkDone 86 = .ok (.iconst 1, 1) := by decide +kernel
theorem dX4_isWorkDone_87 : decode cX4_isWorkDone 87 = .ok (.iadd, 1) := by decide +kernel
theorem dX4_isWorkDone_88 : decode cX4_isWorkDone 88 = .ok (.iastore, 1) := by decide +kernel
theorem dX4_isWorkDone_89 : decode cX4_isWorkDone 89 = .ok (.aload_n 0, 1) := by decide +kernel
theorem dX4_isWorkDone_90 : decode cX4_isWorkDone 90 = .ok (.getfield 28, 3) := by decide +kernel
theorem dX4_isWorkDone_93 : decode cX4_isWorkDone 93 = .ok (.iload_n 1, 1) := by decide +kernel
theorem dX4_isWorkDone_94 : decode cX4_isWorkDone 94 = .ok (.invokevirtual 151, 3) := by decide +kernel
theorem dX4_isWorkDone_97 : decode cX4_isWorkDone 97 = .ok (.ifCond .ne 13, 3) := by decide +kernel
theorem dX4_isWorkDone_100 : decode cX4_isWorkDone 100 = .ok (.aload_n 0, 1) := by decide +kernel
theorem dX4_isWorkDone_101 : decode cX4_isWorkDone 101 = .ok (.getfield 28, 3) := by decide +kernel
theorem dX4_isWorkDone_104 : decode cX4_isWorkDone 104 = .ok (.getfield 139, 3) := by decide +kernel
theorem dX4_isWorkDone_107 : decode cX4_isWorkDone 107 = .ok (.iload_n 1, 1) := by decide +kernel
theorem dX4_isWorkDone_108 : decode cX4_isWorkDone 108 = .ok (.iconst 2, 1) := by decide +kernel
theorem dX4_isWorkDone_109 : decode cX4_isWorkDone 109 = .ok (.iastore, 1) := by decide +kernel
theorem dX4_isWorkDone_110 : decode cX4_isWorkDone 110 = .ok (.iconst 1, 1) := by decide +kernel
theorem dX4_isWorkDone_111 : decode cX4_isWorkDone 111 = .ok (.ireturn, 1) := by decide +kernel
set_option maxRecDepth 20000 in
theorem ggX4_flood_X4_isBare : GoodIn wsX4_flood wsX4_isBare := goodIn_r _ [14, 1, 15, 16, 17, 18, 19, 20, 21, 22, 23, 24, 8, 25, 26, 7, 9, 27, 28, 29, 30, 31, 32, 33, 34, 35, 36, 37, 38, 39, 40, 41, 42, 43, 44, 45, 46, 47, 57, 58, 59, 48, 49, 50, 51, 52, 53, 54, 55, 56] (by decide +kernel) (by decide +kernel)
set_option maxRecDepth 20000 in
theorem gX4_flood_X4_isBare : GoodIn wsX4_flood (wsV RX4 97 RX4 yX4_isBare wsX4_isBare) := goodIn_app (goodIn_of _ (by decide +kernel)) ggX4_flood_X4_isBare
theorem dX4_flood_0 : decode cX4_flood 0 = .ok (.iconst 0, 1) := by decide +kernel
theorem dX4_flood_1 : decode cX4_flood 1 = .ok (.istore_n 1, 1) := by decide +kernel
theorem dX4_flood_2 : decode cX4_flood 2 = .ok (.iconst 0, 1) := by decide +kernel
theorem dX4_flood_3 : decode cX4_flood 3 = .ok (.istore_n 2, 1) := by decide +kernel
theorem dX4_flood_4 : decode cX4_flood 4 = .ok (.iload_n 2, 1) := by decide +kernel
theorem dX4_flood_5 : decode cX4_flood 5 = .ok (.aload_n 0, 1) := by decide +kernel
theorem dX4_flood_6 : decode cX4_flood 6 = .ok (.getfield 28, 3) := by decide +kernel
theorem dX4_flood_9 : decode cX4_flood 9 = .ok (.getfield 124, 3) := by decide +kernel
theorem dX4_flood_12 : decode cX4_flood 12 = .ok (.if_icmp .ge 42, 3) := by decide +kernel
theorem dX4_flood_15 : decode cX4_flood 15 = .ok (.iload_n 1, 1) := by decide +kernel
theorem dX4_flood_16 : decode cX4_flood 16 = .ok (.aload_n 0, 1) := by decide +kernel
theorem dX4_flood_17 : decode cX4_flood 17 = .ok (.getfield 28, 3) := by decide +kernel
theorem dX4_flood_20 : decode cX4_flood 20 = .ok (.getfield 139, 3) := by decide +kernel
theorem dX4_flood_23 : decode cX4_flood 23 = .ok (.iload_n 2, 1) := by decide +kernel
theorem dX4_flood_24 : decode cX4_flood 24 = .ok (.iaload, 1) := by decide +kernel
theorem dX4_flood_25 : decode cX4_flood 25 = .ok (.iconst 1, 1) := by decide +kernel
theorem dX4_flood_26 : decode cX4_flood 26 = .ok (.if_icmp .ne 19, 3) := by decide +kernel
theorem dX4_flood_29 : decode cX4_flood 29 = .ok (.aload_n 0, 1) := by decide +kernel
theorem dX4_flood_30 : decode cX4_flood 30 = .ok (.iload_n 2, 1) := by decide +kernel
theorem dX4_flood_31 : decode cX4_flood 31 = .ok (.aload_n 0, 1) := by decide +kernel
theorem dX4_flood_32 : decode cX4_flood 32 = .ok (.getfield 75, 3) := by decide +kernel
theorem dX4_flood_35 : decode cX4_flood 35 = .ok (.invokevirtual 97, 3) := by decide +kernel
theorem dX4_flood_38 : decode cX4_flood 38 = .ok (.ifCond .ne 7, 3) := by decide +kernel
theorem dX4_flood_41 : decode cX4_flood 41 = .ok (.iconst 1, 1) := by decide +kernel
theorem dX4_flood_42 : decode cX4_flood 42 = .ok (.goto 4, 3) := by decide +kernel
theorem dX4_flood_45 : decode cX4_flood 45 = .ok (.iconst 0, 1) := by decide +kernel
theorem dX4_flood_46 : decode cX4_flood 46 = .ok (.iadd, 1) := by decide +kernel
theorem dX4_flood_47 : decode cX4_flood 47 = .ok (.istore_n 1, 1) := by decide +kernel
theorem dX4_flood_48 : decode cX4_flood 48 = .ok (.iinc 2 1, 3) := by decide +kernel
theorem dX4_flood_51 : decode cX4_flood 51 = .ok (.goto (-47), 3) := by decide +kernel
theorem dX4_flood_54 : decode cX4_flood 54 = .ok (.aload_n 0, 1) := by decide +kernel
theorem dX4_flood_55 : decode cX4_flood 55 = .ok (.iload_n 1, 1) := by decide +kernel
theorem dX4_flood_56 : decode cX4_flood 56 = .ok (.ifCond .le 15, 3) := by decide +kernel
theorem dX4_flood_59 : decode cX4_flood 59 = .ok (.aload_n 0, 1) := by decide +kernel
theorem dX4_flood_60 : decode cX4_flood 60 = .ok (.getfield 90, 3) := by decide +kernel
theorem dX4_flood_63 : decode cX4_flood 63 = .ok (.bipush 10, 2) := by decide +kernel
theorem dX4_flood_65 : decode cX4_flood 65 = .ok (.iload_n 1, 1) := by decide +kernel
theorem dX4_flood_66 : decode cX4_flood 66 = .ok (.imul, 1) := by decide +kernel
theorem dX4_flood_67 : decode cX4_flood 67 = .ok (.iadd, 1) := by decide +kernel
theorem dX4_flood_68 : decode cX4_flood 68 = .ok (.goto 13, 3) := by decide +kernel
theorem dX4_flood_71 : decode cX4_flood 71 = .ok (.iconst 0, 1) := by decide +kernel
theorem dX4_flood_72 : decode cX4_flood 72 = .ok (.aload_n 0, 1) := by decide +kernel
theorem dX4_flood_73 : decode cX4_flood 73 = .ok (.getfield 90, 3) := by decide +kernel
theorem dX4_flood_76 : decode cX4_flood 76 = .ok (.iconst 5, 1) := by decide +kernel
theorem dX4_flood_77 : decode cX4_flood 77 = .ok (.isub, 1) := by decide +kernel
theorem dX4_flood_78 : decode cX4_flood 78 = .ok (.invokestatic 154, 3) := by decide +kernel
theorem dX4_flood_81 : decode cX4_flood 81 = .ok (.putfield 90, 3) := by decide +kernel
theorem dX4_flood_84 : decode cX4_flood 84 = .ok (.return_, 1) := by decide +kernel
set_option maxRecDepth 20000 in
theorem ggX4_partTackles_X5_rainsIn : GoodIn wsX4_partTackles wsX5_rainsIn := goodIn_r _ [12, 13, 14, 15, 16, 17, 18, 19, 20, 102, 103, 104] (by decide +kernel) (by decide +kernel)
set_option maxRecDepth 20000 in
theorem gX4_partTackles_X5_rainsIn : GoodIn wsX4_partTackles (wsV RX4 107 RX5 yX5_rainsIn wsX5_rainsIn) := goodIn_app (goodIn_of _ (by decide +kernel)) ggX4_partTackles_X5_rainsIn
set_option maxRecDepth 20000 in
theorem ggX4_partTackles_X4_force : GoodIn wsX4_partTackles wsX4_force := goodIn_r _ [25, 26, 27, 16, 28, 29, 30, 31, 24, 32, 1, 5, 33, 34, 35, 36, 37, 38, 39, 40, 41, 42, 43, 44, 88, 89, 90, 91, 92, 93, 94, 95, 96, 97, 98, 99, 100, 101, 102, 103, 104, 110, 111, 112, 113] (by decide +kernel) (by decide +kernel)
set_option maxRecDepth 20000 in
theorem gX4_partTackles_X4_force : GoodIn wsX4_partTackles (wsV RX4 65 RX4 yX4_force wsX4_force) := goodIn_app (goodIn_of _ (by decide +kernel)) ggX4_partTackles_X4_force
set_option maxRecDepth 20000 in
theorem ggX4_partTackles_X6_firstToPart : GoodIn wsX4_partTackles wsX6_firstToPart := goodIn_r _ [49, 50, 51, 52, 48, 53, 54, 55, 56, 57, 58, 59, 60, 61, 62, 43, 63, 64, 65, 66, 67, 68, 69, 70, 71, 72, 73, 74, 75, 76, 77, 78, 42, 44, 79, 80, 81, 82, 83, 84, 85, 86, 87, 105, 106, 107, 108, 109] (by decide +kernel) (by decide +kernel)
set_option maxRecDepth 20000 in
theorem gX4_partTackles_X6_firstToPart : GoodIn wsX4_partTackles (wsV RX4 71 RX6 yX6_firstToPart wsX6_firstToPart) := goodIn_app (goodIn_of _ (by decide +kernel)) ggX4_partTackles_X6_firstToPart
theorem dX4_partTackles_0 : decode cX4_partTackles 0 = .ok (.aload_n 0, 1) := by decide +kernel
theorem dX4_partTackles_1 : decode cX4_partTackles 1 = .ok (.getfield 32, 3) := by decide +kernel
theorem dX4_partTackles_4 : decode cX4_partTackles 4 = .ok (.aload_n 0, 1) := by decide +kernel
theorem dX4_partTackles_5 : decode cX4_partTackles 5 = .ok (.getfield 75, 3) := by decide +kernel
theorem dX4_partTackles_8 : decode cX4_partTackles 8 = .ok (.invokevirtual 107, 3) := by decide +kernel
theorem dX4_partTackles_11 : decode cX4_partTackles 11 = .ok (.istore_n 1, 1) := by decide +kernel
theorem dX4_partTackles_12 : decode cX4_partTackles 12 = .ok (.iconst 0, 1) := by decide +kernel
theorem dX4_partTackles_13 : decode cX4_partTackles 13 = .ok (.istore_n 2, 1) := by decide +kernel
theorem dX4_partTackles_14 : decode cX4_partTackles 14 = .ok (.iload_n 2, 1) := by decide +kernel
theorem dX4_partTackles_15 : decode cX4_partTackles 15 = .ok (.bipush 6, 2) := by decide +kernel
theorem dX4_partTackles_17 : decode cX4_partTackles 17 = .ok (.if_icmp .ge 67, 3) := by decide +kernel
theorem dX4_partTackles_20 : decode cX4_partTackles 20 = .ok (.aload_n 0, 1) := by decide +kernel
theorem dX4_partTackles_21 : decode cX4_partTackles 21 = .ok (.getfield 21, 3) := by decide +kernel
theorem dX4_partTackles_24 : decode cX4_partTackles 24 = .ok (.aload_n 0, 1) := by decide +kernel
theorem dX4_partTackles_25 : decode cX4_partTackles 25 = .ok (.aload_n 0, 1) := by decide +kernel
theorem dX4_partTackles_26 : decode cX4_partTackles 26 = .ok (.getfield 84, 3) := by decide +kernel
theorem dX4_partTackles_29 : decode cX4_partTackles 29 = .ok (.invokevirtual 65, 3) := by decide +kernel
theorem dX4_partTackles_32 : decode cX4_partTackles 32 = .ok (.iload_n 1, 1) := by decide +kernel
theorem dX4_partTackles_33 : decode cX4_partTackles 33 = .ok (.aload_n 0, 1) := by decide +kernel
theorem dX4_partTackles_34 : decode cX4_partTackles 34 = .ok (.getfield 32, 3) := by decide +kernel
theorem dX4_partTackles_37 : decode cX4_partTackles 37 = .ok (.getfield 44, 3) := by decide +kernel
theorem dX4_partTackles_40 : decode cX4_partTackles 40 = .ok (.invokevirtual 71, 3) := by decide +kernel
theorem dX4_partTackles_43 : decode cX4_partTackles 43 = .ok (.istore_n 3, 1) := by decide +kernel
theorem dX4_partTackles_44 : decode cX4_partTackles 44 = .ok (.iload_n 3, 1) := by decide +kernel
theorem dX4_partTackles_45 : decode cX4_partTackles 45 = .ok (.ifCond .ge 6, 3) := by decide +kernel
theorem dX4_partTackles_48 : decode cX4_partTackles 48 = .ok (.goto 36, 3) := by decide +kernel
theorem dX4_partTackles_51 : decode cX4_partTackles 51 = .ok (.aload_n 0, 1) := by decide +kernel
theorem dX4_partTackles_52 : decode cX4_partTackles 52 = .ok (.getfield 21, 3) := by decide +kernel
theorem dX4_partTackles_55 : decode cX4_partTackles 55 = .ok (.dup, 1) := by decide +kernel
theorem dX4_partTackles_56 : decode cX4_partTackles 56 = .ok (.getfield 68, 3) := by decide +kernel
theorem dX4_partTackles_59 : decode cX4_partTackles 59 = .ok (.iconst 1, 1) := by decide +kernel
theorem dX4_partTackles_60 : decode cX4_partTackles 60 = .ok (.iload_n 3, 1) := by decide +kernel
theorem dX4_partTackles_61 : decode cX4_partTackles 61 = .ok (.ishl, 1) := by decide +kernel
theorem dX4_partTackles_62 : decode cX4_partTackles 62 = .ok (.iconst (-1), 1) := by decide +kernel
theorem dX4_partTackles_63 : decode cX4_partTackles 63 = .ok (.ixor, 1) := by decide +kernel
theorem dX4_partTackles_64 : decode cX4_partTackles 64 = .ok (.iand, 1) := by decide +kernel
theorem dX4_partTackles_65 : decode cX4_partTackles 65 = .ok (.putfield 68, 3) := by decide +kernel
theorem dX4_partTackles_68 : decode cX4_partTackles 68 = .ok (.aload_n 0, 1) := by decide +kernel
theorem dX4_partTackles_69 : decode cX4_partTackles 69 = .ok (.dup, 1) := by decide +kernel
theorem dX4_partTackles_70 : decode cX4_partTackles 70 = .ok (.getfield 158, 3) := by decide +kernel
theorem dX4_partTackles_73 : decode cX4_partTackles 73 = .ok (.iconst 1, 1) := by decide +kernel
theorem dX4_partTackles_74 : decode cX4_partTackles 74 = .ok (.iadd, 1) := by decide +kernel
theorem dX4_partTackles_75 : decode cX4_partTackles 75 = .ok (.putfield 158, 3) := by decide +kernel
theorem dX4_partTackles_78 : decode cX4_partTackles 78 = .ok (.iinc 2 1, 3) := by decide +kernel
theorem dX4_partTackles_81 : decode cX4_partTackles 81 = .ok (.goto (-67), 3) := by decide +kernel
theorem dX4_partTackles_84 : decode cX4_partTackles 84 = .ok (.aload_n 0, 1) := by decide +kernel
theorem dX4_partTackles_85 : decode cX4_partTackles 85 = .ok (.getfield 21, 3) := by decide +kernel
theorem dX4_partTackles_88 : decode cX4_partTackles 88 = .ok (.getfield 68, 3) := by decide +kernel
theorem dX4_partTackles_91 : decode cX4_partTackles 91 = .ok (.ifCond .ne 8, 3) := by decide +kernel
theorem dX4_partTackles_94 : decode cX4_partTackles 94 = .ok (.aload_n 0, 1) := by decide +kernel
theorem dX4_partTackles_95 : decode cX4_partTackles 95 = .ok (.iconst 0, 1) := by decide +kernel
theorem dX4_partTackles_96 : decode cX4_partTackles 96 = .ok (.putfield 84, 3) := by decide +kernel
theorem dX4_partTackles_99 : decode cX4_partTackles 99 = .ok (.return_, 1) := by decide +kernel
set_option maxRecDepth 20000 in
theorem ggX4_copyFrom_X7_copyFrom : GoodIn wsX4_copyFrom wsX7_copyFrom := goodIn_r _ [18, 19, 20, 21, 22, 23, 24, 25, 26, 67, 68, 69, 70] (by decide +kernel) (by decide +kernel)
set_option maxRecDepth 20000 in
theorem gX4_copyFrom_X7_copyFrom : GoodIn wsX4_copyFrom (wsV RX4 161 RX7 yX7_copyFrom wsX7_copyFrom) := goodIn_app (goodIn_of _ (by decide +kernel)) ggX4_copyFrom_X7_copyFrom
set_option maxRecDepth 20000 in
theorem ggX4_copyFrom_X6_copyFrom : GoodIn wsX4_copyFrom wsX6_copyFrom := goodIn_r _ [31, 32, 33, 21, 22, 23, 34, 35, 36, 37, 71, 72, 73, 74, 75] (by decide +kernel) (by decide +kernel)
set_option maxRecDepth 20000 in
theorem gX4_copyFrom_X6_copyFrom : GoodIn wsX4_copyFrom (wsV RX4 165 RX6 yX6_copyFrom wsX6_copyFrom) := goodIn_app (goodIn_of _ (by decide +kernel)) ggX4_copyFrom_X6_copyFrom
set_option maxRecDepth 20000 in
theorem ggX4_copyFrom_X3_copyFrom : GoodIn wsX4_copyFrom wsX3_copyFrom := goodIn_r _ [42, 43, 44, 21, 22, 23, 45, 46, 47, 48, 49, 50, 51, 52, 76, 77, 78, 79, 80, 81, 82, 83, 84] (by decide +kernel) (by decide +kernel)
set_option maxRecDepth 20000 in
theorem gX4_copyFrom_X3_copyFrom : GoodIn wsX4_copyFrom (wsV RX4 168 RX3 yX3_copyFrom wsX3_copyFrom) := goodIn_app (goodIn_of _ (by decide +kernel)) ggX4_copyFrom_X3_copyFrom
theorem dX4_copyFrom_0 : decode cX4_copyFrom 0 = .ok (.aload_n 0, 1) := by decide +kernel
theorem dX4_copyFrom_1 : decode cX4_copyFrom 1 = .ok (.getfield 12, 3) := by decide +kernel
theorem dX4_copyFrom_4 : decode cX4_copyFrom 4 = .ok (.aload_n 1, 1) := by decide +kernel
theorem dX4_copyFrom_5 : decode cX4_copyFrom 5 = .ok (.getfield 12, 3) := by decide +kernel
theorem dX4_copyFrom_8 : decode cX4_copyFrom 8 = .ok (.invokevirtual 161, 3) := by decide +kernel
theorem dX4_copyFrom_11 : decode cX4_copyFrom 11 = .ok (.aload_n 0, 1) := by decide +kernel
theorem dX4_copyFrom_12 : decode cX4_copyFrom 12 = .ok (.getfield 21, 3) := by decide +kernel
theorem dX4_copyFrom_15 : decode cX4_copyFrom 15 = .ok (.aload_n 1, 1) := by decide +kernel
theorem dX4_copyFrom_16 : decode cX4_copyFrom 16 = .ok (.getfield 21, 3) := by decide +kernel
theorem dX4_copyFrom_19 : decode cX4_copyFrom 19 = .ok (.invokevirtual 165, 3) := by decide +kernel
theorem dX4_copyFrom_22 : decode cX4_copyFrom 22 = .ok (.aload_n 0, 1) := by decide +kernel
theorem dX4_copyFrom_23 : decode cX4_copyFrom 23 = .ok (.getfield 28, 3) := by decide +kernel
theorem dX4_copyFrom_26 : decode cX4_copyFrom 26 = .ok (.aload_n 1, 1) := by decide +kernel
theorem dX4_copyFrom_27 : decode cX4_copyFrom 27 = .ok (.getfield 28, 3) := by decide +kernel
theorem dX4_copyFrom_30 : decode cX4_copyFrom 30 = .ok (.invokevirtual 168, 3) := by decide +kernel
theorem dX4_copyFrom_33 : decode cX4_copyFrom 33 = .ok (.aload_n 0, 1) := by decide +kernel
theorem dX4_copyFrom_34 : decode cX4_copyFrom 34 = .ok (.aload_n 1, 1) := by decide +kernel
theorem dX4_copyFrom_35 : decode cX4_copyFrom 35 = .ok (.getfield 75, 3) := by decide +kernel
theorem dX4_copyFrom_38 : decode cX4_copyFrom 38 = .ok (.putfield 75, 3) := by decide +kernel
theorem dX4_copyFrom_41 : decode cX4_copyFrom 41 = .ok (.aload_n 0, 1) := by decide +kernel
theorem dX4_copyFrom_42 : decode cX4_copyFrom 42 = .ok (.aload_n 1, 1) := by decide +kernel
theorem dX4_copyFrom_43 : decode cX4_copyFrom 43 = .ok (.getfield 84, 3) := by decide +kernel
theorem dX4_copyFrom_46 : decode cX4_copyFrom 46 = .ok (.putfield 84, 3) := by decide +kernel
theorem dX4_copyFrom_49 : decode cX4_copyFrom 49 = .ok (.aload_n 0, 1) := by decide +kernel
theorem dX4_copyFrom_50 : decode cX4_copyFrom 50 = .ok (.aload_n 1, 1) := by decide +kernel
theorem dX4_copyFrom_51 : decode cX4_copyFrom 51 = .ok (.getfield 90, 3) := by decide +kernel
theorem dX4_copyFrom_54 : decode cX4_copyFrom 54 = .ok (.putfield 90, 3) := by decide +kernel
theorem dX4_copyFrom_57 : decode cX4_copyFrom 57 = .ok (.aload_n 0, 1) := by decide +kernel
theorem dX4_copyFrom_58 : decode cX4_copyFrom 58 = .ok (.aload_n 1, 1) := by decide +kernel
theorem dX4_copyFrom_59 : decode cX4_copyFrom 59 = .ok (.getfield 40, 3) := by decide +kernel
theorem dX4_copyFrom_62 : decode cX4_copyFrom 62 = .ok (.putfield 40, 3) := by decide +kernel
theorem dX4_copyFrom_65 : decode cX4_copyFrom 65 = .ok (.aload_n 0, 1) := by decide +kernel
theorem dX4_copyFrom_66 : decode cX4_copyFrom 66 = .ok (.aload_n 1, 1) := by decide +kernel
theorem dX4_copyFrom_67 : decode cX4_copyFrom 67 = .ok (.getfield 100, 3) := by decide +kernel
theorem dX4_copyFrom_70 : decode cX4_copyFrom 70 = .ok (.putfield 100, 3) := by decide +kernel
theorem dX4_copyFrom_73 : decode cX4_copyFrom 73 = .ok (.aload_n 0, 1) := by decide +kernel
theorem dX4_copyFrom_74 : decode cX4_copyFrom 74 = .ok (.aload_n 1, 1) := by decide +kernel
theorem dX4_copyFrom_75 : decode cX4_copyFrom 75 = .ok (.getfield 121, 3) := by decide +kernel
theorem dX4_copyFrom_78 : decode cX4_copyFrom 78 = .ok (.putfield 121, 3) := by decide +kernel
theorem dX4_copyFrom_81 : decode cX4_copyFrom 81 = .ok (.aload_n 0, 1) := by decide +kernel
theorem dX4_copyFrom_82 : decode cX4_copyFrom 82 = .ok (.aload_n 1, 1) := by decide +kernel
theorem dX4_copyFrom_83 : decode cX4_copyFrom 83 = .ok (.getfield 145, 3) := by decide +kernel
theorem dX4_copyFrom_86 : decode cX4_copyFrom 86 = .ok (.putfield 145, 3) := by decide +kernel
theorem dX4_copyFrom_89 : decode cX4_copyFrom 89 = .ok (.aload_n 0, 1) := by decide +kernel
theorem dX4_copyFrom_90 : decode cX4_copyFrom 90 = .ok (.aload_n 1, 1) := by decide +kernel
theorem dX4_copyFrom_91 : decode cX4_copyFrom 91 = .ok (.getfield 136, 3) := by decide +kernel
theorem dX4_copyFrom_94 : decode cX4_copyFrom 94 = .ok (.putfield 136, 3) := by decide +kernel
theorem dX4_copyFrom_97 : decode cX4_copyFrom 97 = .ok (.aload_n 0, 1) := by decide +kernel
theorem dX4_copyFrom_98 : decode cX4_copyFrom 98 = .ok (.aload_n 1, 1) := by decide +kernel
theorem dX4_copyFrom_99 : decode cX4_copyFrom 99 = .ok (.getfield 158, 3) := by decide +kernel
theorem dX4_copyFrom_102 : decode cX4_copyFrom 102 = .ok (.putfield 158, 3) := by decide +kernel
theorem dX4_copyFrom_105 : decode cX4_copyFrom 105 = .ok (.aload_n 0, 1) := by decide +kernel
theorem dX4_copyFrom_106 : decode cX4_copyFrom 106 = .ok (.aload_n 1, 1) := by decide +kernel
theorem dX4_copyFrom_107 : decode cX4_copyFrom 107 = .ok (.getfield 104, 3) := by decide +kernel
theorem dX4_copyFrom_110 : decode cX4_copyFrom 110 = .ok (.putfield 104, 3) := by decide +kernel
theorem dX4_copyFrom_113 : decode cX4_copyFrom 113 = .ok (.return_, 1) := by decide +kernel
theorem dX5_init_0 : decode cX5_init 0 = .ok (.aload_n 0, 1) := by decide +kernel
theorem dX5_init_1 : decode cX5_init 1 = .ok (.invokespecial 3, 3) := by decide +kernel
theorem dX5_init_4 : decode cX5_init 4 = .ok (.aload_n 0, 1) := by decide +kernel
theorem dX5_init_5 : decode cX5_init 5 = .ok (.bipush 96, 2) := by decide +kernel
theorem dX5_init_7 : decode cX5_init 7 = .ok (.newarray .int, 2) := by decide +kernel
theorem dX5_init_9 : decode cX5_init 9 = .ok (.putfield 9, 3) := by decide +kernel
theorem dX5_init_12 : decode cX5_init 12 = .ok (.aload_n 0, 1) := by decide +kernel
theorem dX5_init_13 : decode cX5_init 13 = .ok (.bipush 96, 2) := by decide +kernel
theorem dX5_init_15 : decode cX5_init 15 = .ok (.newarray .boolean, 2) := by decide +kernel
theorem dX5_init_17 : decode cX5_init 17 = .ok (.putfield 15, 3) := by decide +kernel
theorem dX5_init_20 : decode cX5_init 20 = .ok (.aload_n 0, 1) := by decide +kernel
theorem dX5_init_21 : decode cX5_init 21 = .ok (.getstatic 19, 3) := by decide +kernel
theorem dX5_init_24 : decode cX5_init 24 = .ok (.arraylength, 1) := by decide +kernel
theorem dX5_init_25 : decode cX5_init 25 = .ok (.newarray .int, 2) := by decide +kernel
theorem dX5_init_27 : decode cX5_init 27 = .ok (.putfield 22, 3) := by decide +kernel
theorem dX5_init_30 : decode cX5_init 30 = .ok (.iconst 0, 1) := by decide +kernel
theorem dX5_init_31 : decode cX5_init 31 = .ok (.istore_n 1, 1) := by decide +kernel
theorem dX5_init_32 : decode cX5_init 32 = .ok (.iload_n 1, 1) := by decide +kernel
theorem dX5_init_33 : decode cX5_init 33 = .ok (.bipush 96, 2) := by decide +kernel
theorem dX5_init_35 : decode cX5_init 35 = .ok (.if_icmp .ge 17, 3) := by decide +kernel
theorem dX5_init_38 : decode cX5_init 38 = .ok (.aload_n 0, 1) := by decide +kernel
theorem dX5_init_39 : decode cX5_init 39 = .ok (.getfield 9, 3) := by decide +kernel
theorem dX5_init_42 : decode cX5_init 42 = .ok (.iload_n 1, 1) := by decide +kernel
theorem dX5_init_43 : decode cX5_init 43 = .ok (.bipush 30, 2) := by decide +kernel
theorem dX5_init_45 : decode cX5_init 45 = .ok (.iastore, 1) := by decide +kernel
theorem dX5_init_46 : decode cX5_init 46 = .ok (.iinc 1 1, 3) := by decide +kernel
theorem dX5_init_49 : decode cX5_init 49 = .ok (.goto (-17), 3) := by decide +kernel
theorem dX5_init_52 : decode cX5_init 52 = .ok (.iconst 0, 1) := by decide +kernel
theorem dX5_init_53 : decode cX5_init 53 = .ok (.istore_n 1, 1) := by decide +kernel
theorem dX5_init_54 : decode cX5_init 54 = .ok (.iload_n 1, 1) := by decide +kernel
theorem dX5_init_55 : decode cX5_init 55 = .ok (.aload_n 0, 1) := by decide +kernel
theorem dX5_init_56 : decode cX5_init 56 = .ok (.getfield 22, 3) := by decide +kernel
theorem dX5_init_59 : decode cX5_init 59 = .ok (.arraylength, 1) := by decide +kernel
theorem dX5_init_60 : decode cX5_init 60 = .ok (.if_icmp .ge 20, 3) := by decide +kernel
theorem dX5_init_63 : decode cX5_init 63 = .ok (.aload_n 0, 1) := by decide +kernel
theorem dX5_init_64 : decode cX5_init 64 = .ok (.getfield 22, 3) := by decide +kernel
theorem dX5_init_67 : decode cX5_init 67 = .ok (.iload_n 1, 1) := by decide +kernel
theorem dX5_init_68 : decode cX5_init 68 = .ok (.getstatic 19, 3) := by decide +kernel
theorem dX5_init_71 : decode cX5_init 71 = .ok (.iload_n 1, 1) := by decide +kernel
theorem dX5_init_72 : decode cX5_init 72 = .ok (.iaload, 1) := by decide +kernel
theorem dX5_init_73 : decode cX5_init 73 = .ok (.iastore, 1) := by decide +kernel
theorem dX5_init_74 : decode cX5_init 74 = .ok (.iinc 1 1, 3) := by decide +kernel
theorem dX5_init_77 : decode cX5_init 77 = .ok (.goto (-23), 3) := by decide +kernel
theorem dX5_init_80 : decode cX5_init 80 = .ok (.return_, 1) := by decide +kernel
theorem dX5_tideIn_0 : decode cX5_tideIn 0 = .ok (.aload_n 0, 1) := by decide +kernel
theorem dX5_tideIn_1 : decode cX5_tideIn 1 = .ok (.getfield 9, 3) := by decide +kernel
theorem dX5_tideIn_4 : decode cX5_tideIn 4 = .ok (.iconst 0, 1) := by decide +kernel
theorem dX5_tideIn_5 : decode cX5_tideIn 5 = .ok (.iload_n 1, 1) := by decide +kernel
theorem dX5_tideIn_6 : decode cX5_tideIn 6 = .ok (.bipush 95, 2) := by decide +kernel
theorem dX5_tideIn_8 : decode cX5_tideIn 8 = .ok (.invokestatic 25, 3) := by decide +kernel
theorem dX5_tideIn_11 : decode cX5_tideIn 11 = .ok (.invokestatic 31, 3) := by decide +kernel
theorem dX5_tideIn_14 : decode cX5_tideIn 14 = .ok (.iaload, 1) := by decide +kernel
theorem dX5_tideIn_15 : decode cX5_tideIn 15 = .ok (.ireturn, 1) := by decide +kernel
theorem dX5_rainsIn_0 : decode cX5_rainsIn 0 = .ok (.aload_n 0, 1) := by decide +kernel
theorem dX5_rainsIn_1 : decode cX5_rainsIn 1 = .ok (.getfield 15, 3) := by decide +kernel
theorem dX5_rainsIn_4 : decode cX5_rainsIn 4 = .ok (.iconst 0, 1) := by decide +kernel
theorem dX5_rainsIn_5 : decode cX5_rainsIn 5 = .ok (.iload_n 1, 1) := by decide +kernel
theorem dX5_rainsIn_6 : decode cX5_rainsIn 6 = .ok (.bipush 95, 2) := by decide +kernel
theorem dX5_rainsIn_8 : decode cX5_rainsIn 8 = .ok (.invokestatic 25, 3) := by decide +kernel
theorem dX5_rainsIn_11 : decode cX5_rainsIn 11 = .ok (.invokestatic 31, 3) := by decide +kernel
theorem dX5_rainsIn_14 : decode cX5_rainsIn 14 = .ok (.baload, 1) := by decide +kernel
theorem dX5_rainsIn_15 : decode cX5_rainsIn 15 = .ok (.ireturn, 1) := by decide +kernel
set_option maxRecDepth 20000 in
theorem ggX5_tideNeeded_X8_draught : GoodIn wsX5_tideNeeded wsX8_draught := goodIn_r _ [4] (by decide +kernel) (by decide +kernel)
set_option maxRecDepth 20000 in
theorem gX5_tideNeeded_X8_draught_n34 : GoodIn wsX5_tideNeeded (wsX8_draught) := ggX5_tideNeeded_X8_draught
theorem dX5_tideNeeded_0 : decode cX5_tideNeeded 0 = .ok (.iload_n 1, 1) := by decide +kernel
theorem dX5_tideNeeded_1 : decode cX5_tideNeeded 1 = .ok (.invokestatic 34, 3) := by decide +kernel
theorem dX5_tideNeeded_4 : decode cX5_tideNeeded 4 = .ok (.aload_n 0, 1) := by decide +kernel
theorem dX5_tideNeeded_5 : decode cX5_tideNeeded 5 = .ok (.getfield 22, 3) := by decide +kernel
theorem dX5_tideNeeded_8 : decode cX5_tideNeeded 8 = .ok (.iconst 0, 1) := by decide +kernel
theorem dX5_tideNeeded_9 : decode cX5_tideNeeded 9 = .ok (.iaload, 1) := by decide +kernel
theorem dX5_tideNeeded_10 : decode cX5_tideNeeded 10 = .ok (.iadd, 1) := by decide +kernel
theorem dX5_tideNeeded_11 : decode cX5_tideNeeded 11 = .ok (.ireturn, 1) := by decide +kernel
theorem dX6_init_0 : decode cX6_init 0 = .ok (.aload_n 0, 1) := by decide +kernel
theorem dX6_init_1 : decode cX6_init 1 = .ok (.invokespecial 3, 3) := by decide +kernel
theorem dX6_init_4 : decode cX6_init 4 = .ok (.aload_n 0, 1) := by decide +kernel
theorem dX6_init_5 : decode cX6_init 5 = .ok (.bipush 6, 2) := by decide +kernel
theorem dX6_init_7 : decode cX6_init 7 = .ok (.newarray .int, 2) := by decide +kernel
theorem dX6_init_9 : decode cX6_init 9 = .ok (.putfield 9, 3) := by decide +kernel
theorem dX6_init_12 : decode cX6_init 12 = .ok (.aload_n 0, 1) := by decide +kernel
theorem dX6_init_13 : decode cX6_init 13 = .ok (.bipush 6, 2) := by decide +kernel
theorem dX6_init_15 : decode cX6_init 15 = .ok (.newarray .int, 2) := by decide +kernel
theorem dX6_init_17 : decode cX6_init 17 = .ok (.putfield 15, 3) := by decide +kernel
theorem dX6_init_20 : decode cX6_init 20 = .ok (.aload_n 0, 1) := by decide +kernel
theorem dX6_init_21 : decode cX6_init 21 = .ok (.bipush 6, 2) := by decide +kernel
theorem dX6_init_23 : decode cX6_init 23 = .ok (.newarray .int, 2) := by decide +kernel
theorem dX6_init_25 : decode cX6_init 25 = .ok (.putfield 18, 3) := by decide +kernel
theorem dX6_init_28 : decode cX6_init 28 = .ok (.return_, 1) := by decide +kernel
theorem dX6_add_0 : decode cX6_add 0 = .ok (.aload_n 0, 1) := by decide +kernel
theorem dX6_add_1 : decode cX6_add 1 = .ok (.getfield 9, 3) := by decide +kernel
theorem dX6_add_4 : decode cX6_add 4 = .ok (.aload_n 0, 1) := by decide +kernel
theorem dX6_add_5 : decode cX6_add 5 = .ok (.getfield 21, 3) := by decide +kernel
theorem dX6_add_8 : decode cX6_add 8 = .ok (.iload_n 1, 1) := by decide +kernel
theorem dX6_add_9 : decode cX6_add 9 = .ok (.iastore, 1) := by decide +kernel
theorem dX6_add_10 : decode cX6_add 10 = .ok (.aload_n 0, 1) := by decide +kernel
theorem dX6_add_11 : decode cX6_add 11 = .ok (.getfield 15, 3) := by decide +kernel
theorem dX6_add_14 : decode cX6_add 14 = .ok (.aload_n 0, 1) := by decide +kernel
theorem dX6_add_15 : decode cX6_add 15 = .ok (.getfield 21, 3) := by decide +kernel
theorem dX6_add_18 : decode cX6_add 18 = .ok (.iload_n 2, 1) := by decide +kernel
theorem dX6_add_19 : decode cX6_add 19 = .ok (.iastore, 1) := by decide +kernel
theorem dX6_add_20 : decode cX6_add 20 = .ok (.aload_n 0, 1) := by decide +kernel
theorem dX6_add_21 : decode cX6_add 21 = .ok (.getfield 18, 3) := by decide +kernel
theorem dX6_add_24 : decode cX6_add 24 = .ok (.aload_n 0, 1) := by decide +kernel
theorem dX6_add_25 : decode cX6_add 25 = .ok (.getfield 21, 3) := by decide +kernel
theorem dX6_add_28 : decode cX6_add 28 = .ok (.iload_n 3, 1) := by decide +kernel
theorem dX6_add_29 : decode cX6_add 29 = .ok (.iastore, 1) := by decide +kernel
theorem dX6_add_30 : decode cX6_add 30 = .ok (.aload_n 0, 1) := by decide +kernel
theorem dX6_add_31 : decode cX6_add 31 = .ok (.dup, 1) := by decide +kernel
theorem dX6_add_32 : decode cX6_add 32 = .ok (.getfield 25, 3) := by decide +kernel
theorem dX6_add_35 : decode cX6_add 35 = .ok (.iconst 1, 1) := by decide +kernel
theorem dX6_add_36 : decode cX6_add 36 = .ok (.aload_n 0, 1) := by decide +kernel
theorem dX6_add_37 : decode cX6_add 37 = .ok (.getfield 21, 3) := by decide +kernel
theorem dX6_add_40 : decode cX6_add 40 = .ok (.ishl, 1) := by decide +kernel
theorem dX6_add_41 : decode cX6_add 41 = .ok (.ior, 1) := by decide +kernel
theorem dX6_add_42 : decode cX6_add 42 = .ok (.putfield 25, 3) := by decide +kernel
theorem dX6_add_45 : decode cX6_add 45 = .ok (.aload_n 0, 1) := by decide +kernel
theorem dX6_add_46 : decode cX6_add 46 = .ok (.dup, 1) := by decide +kernel
theorem dX6_add_47 : decode cX6_add 47 = .ok (.getfield 21, 3) := by decide +kernel
theorem dX6_add_50 : decode cX6_add 50 = .ok (.iconst 1, 1) := by decide +kernel
theorem dX6_add_51 : decode cX6_add 51 = .ok (.iadd, 1) := by decide +kernel
theorem dX6_add_52 : decode cX6_add 52 = .ok (.putfield 21, 3) := by decide +kernel
theorem dX6_add_55 : decode cX6_add 55 = .ok (.aload_n 0, 1) := by decide +kernel
theorem dX6_add_56 : decode cX6_add 56 = .ok (.getfield 21, 3) := by decide +kernel
theorem dX6_add_59 : decode cX6_add 59 = .ok (.iconst 1, 1) := by decide +kernel
theorem dX6_add_60 : decode cX6_add 60 = .ok (.isub, 1) := by decide +kernel
theorem dX6_add_61 : decode cX6_add 61 = .ok (.ireturn, 1) := by decide +kernel
set_option maxRecDepth 20000 in
theorem ggX6_share_J6_bitCount_0f7a4 : GoodIn wsX6_share wsJ6_bitCount_0f7a4 := goodIn_r _ [5, 6, 7, 8] (by decide +kernel) (by decide +kernel)
set_option maxRecDepth 20000 in
theorem gX6_share_J6_bitCount_0f7a4 : GoodIn wsX6_share (va_wsS RX6 28 yJ6_bitCount_0f7a4 wsJ6_bitCount_0f7a4) := goodIn_app (goodIn_of _ (by decide +kernel)) ggX6_share_J6_bitCount_0f7a4
set_option maxRecDepth 20000 in
theorem ggX6_share_X8_roundedUp : GoodIn wsX6_share wsX8_roundedUp := goodIn_r _ [11] (by decide +kernel) (by decide +kernel)
set_option maxRecDepth 20000 in
theorem gX6_share_X8_roundedUp_n34 : GoodIn wsX6_share (wsX8_roundedUp) := ggX6_share_X8_roundedUp
theorem dX6_share_0 : decode cX6_share 0 = .ok (.iload_n 1, 1) := by decide +kernel
theorem dX6_share_1 : decode cX6_share 1 = .ok (.aload_n 0, 1) := by decide +kernel
theorem dX6_share_2 : decode cX6_share 2 = .ok (.getfield 25, 3) := by decide +kernel
theorem dX6_share_5 : decode cX6_share 5 = .ok (.invokestatic 28, 3) := by decide +kernel
theorem dX6_share_8 : decode cX6_share 8 = .ok (.invokestatic 34, 3) := by decide +kernel
theorem dX6_share_11 : decode cX6_share 11 = .ok (.ireturn, 1) := by decide +kernel
set_option maxRecDepth 20000 in
theorem ggX6_ropeTakes_X8_roundedUp : GoodIn wsX6_ropeTakes wsX8_roundedUp := goodIn_r _ [4] (by decide +kernel) (by decide +kernel)
set_option maxRecDepth 20000 in
theorem gX6_ropeTakes_X8_roundedUp_n34 : GoodIn wsX6_ropeTakes (wsX8_roundedUp) := ggX6_ropeTakes_X8_roundedUp
theorem dX6_ropeTakes_0 : decode cX6_ropeTakes 0 = .ok (.iload_n 2, 1) := by decide +kernel
theorem dX6_ropeTakes_1 : decode cX6_ropeTakes 1 = .ok (.aload_n 0, 1) := by decide +kernel
theorem dX6_ropeTakes_2 : decode cX6_ropeTakes 2 = .ok (.getfield 15, 3) := by decide +kernel
theorem dX6_ropeTakes_5 : decode cX6_ropeTakes 5 = .ok (.iload_n 1, 1) := by decide +kernel
theorem dX6_ropeTakes_6 : decode cX6_ropeTakes 6 = .ok (.iaload, 1) := by decide +kernel
theorem dX6_ropeTakes_7 : decode cX6_ropeTakes 7 = .ok (.invokestatic 34, 3) := by decide +kernel
theorem dX6_ropeTakes_10 : decode cX6_ropeTakes 10 = .ok (.ireturn, 1) := by decide +kernel
theorem dX6_ropeMay_0 : decode cX6_ropeMay 0 = .ok (.iload_n 2, 1) := by decide +kernel
theorem dX6_ropeMay_1 : decode cX6_ropeMay 1 = .ok (.ifCond .eq 16, 3) := by decide +kernel
theorem dX6_ropeMay_4 : decode cX6_ropeMay 4 = .ok (.aload_n 0, 1) := by decide +kernel
theorem dX6_ropeMay_5 : decode cX6_ropeMay 5 = .ok (.getfield 18, 3) := by decide +kernel
theorem dX6_ropeMay_8 : decode cX6_ropeMay 8 = .ok (.iload_n 1, 1) := by decide +kernel
theorem dX6_ropeMay_9 : decode cX6_ropeMay 9 = .ok (.iaload, 1) := by decide +kernel
theorem dX6_ropeMay_10 : decode cX6_ropeMay 10 = .ok (.iconst 3, 1) := by decide +kernel
theorem dX6_ropeMay_11 : decode cX6_ropeMay 11 = .ok (.imul, 1) := by decide +kernel
theorem dX6_ropeMay_12 : decode cX6_ropeMay 12 = .ok (.iconst 4, 1) := by decide +kernel
theorem dX6_ropeMay_13 : decode cX6_ropeMay 13 = .ok (.idiv, 1) := by decide +kernel
theorem dX6_ropeMay_14 : decode cX6_ropeMay 14 = .ok (.goto 9, 3) := by decide +kernel
theorem dX6_ropeMay_17 : decode cX6_ropeMay 17 = .ok (.aload_n 0, 1) := by decide +kernel
theorem dX6_ropeMay_18 : decode cX6_ropeMay 18 = .ok (.getfield 18, 3) := by decide +kernel
theorem dX6_ropeMay_21 : decode cX6_ropeMay 21 = .ok (.iload_n 1, 1) := by decide +kernel
theorem dX6_ropeMay_22 : decode cX6_ropeMay 22 = .ok (.iaload, 1) := by decide +kernel
theorem dX6_ropeMay_23 : decode cX6_ropeMay 23 = .ok (.ireturn, 1) := by decide +kernel
set_option maxRecDepth 20000 in
theorem ggX6_firstToPart_X6_share : GoodIn wsX6_firstToPart wsX6_share := goodIn_r _ [5, 6, 7, 8, 9, 10, 11, 12, 13, 14, 15, 16, 43, 44, 45, 46, 47] (by decide +kernel) (by decide +kernel)
set_option maxRecDepth 20000 in
theorem gX6_firstToPart_X6_share : GoodIn wsX6_firstToPart (wsV RX6 38 RX6 yX6_share wsX6_share) := goodIn_app (goodIn_of _ (by decide +kernel)) ggX6_firstToPart_X6_share
set_option maxRecDepth 20000 in
theorem ggX6_firstToPart_X6_ropeMostOver : GoodIn wsX6_firstToPart wsX6_ropeMostOver := goodIn_r _ [20, 21, 6, 22, 23, 24, 4, 25, 26, 14, 15, 16, 27, 28, 29, 30, 31, 32, 33, 43, 44, 45, 46, 47] (by decide +kernel) (by decide +kernel)
set_option maxRecDepth 20000 in
theorem gX6_firstToPart_X6_ropeMostOver : GoodIn wsX6_firstToPart (wsV RX6 41 RX6 yX6_ropeMostOver wsX6_ropeMostOver) := goodIn_app (goodIn_of _ (by decide +kernel)) ggX6_firstToPart_X6_ropeMostOver
set_option maxRecDepth 20000 in
theorem ggX6_firstToPart_X6_onMast : GoodIn wsX6_firstToPart wsX6_onMast := goodIn_r _ [37, 21, 6, 38, 32, 15, 33, 43, 44, 45, 46, 47] (by decide +kernel) (by decide +kernel)
set_option maxRecDepth 20000 in
theorem gX6_firstToPart_X6_onMast : GoodIn wsX6_firstToPart (wsV RX6 45 RX6 yX6_onMast wsX6_onMast) := goodIn_app (goodIn_of _ (by decide +kernel)) ggX6_firstToPart_X6_onMast
set_option maxRecDepth 20000 in
theorem ggX6_firstToPart_X6_lowestOn : GoodIn wsX6_firstToPart wsX6_lowestOn := goodIn_r _ [42, 21, 6, 38, 32, 15, 33, 43, 44, 45, 46, 47] (by decide +kernel) (by decide +kernel)
set_option maxRecDepth 20000 in
theorem gX6_firstToPart_X6_lowestOn : GoodIn wsX6_firstToPart (wsV RX6 48 RX6 yX6_lowestOn wsX6_lowestOn) := goodIn_app (goodIn_of _ (by decide +kernel)) ggX6_firstToPart_X6_lowestOn
theorem dX6_firstToPart_0 : decode cX6_firstToPart 0 = .ok (.aload_n 0, 1) := by decide +kernel
theorem dX6_firstToPart_1 : decode cX6_firstToPart 1 = .ok (.iload_n 1, 1) := by decide +kernel
theorem dX6_firstToPart_2 : decode cX6_firstToPart 2 = .ok (.invokevirtual 38, 3) := by decide +kernel
theorem dX6_firstToPart_5 : decode cX6_firstToPart 5 = .ok (.istore 4, 2) := by decide +kernel
theorem dX6_firstToPart_7 : decode cX6_firstToPart 7 = .ok (.aload_n 0, 1) := by decide +kernel
theorem dX6_firstToPart_8 : decode cX6_firstToPart 8 = .ok (.iload 4, 2) := by decide +kernel
theorem dX6_firstToPart_10 : decode cX6_firstToPart 10 = .ok (.iload_n 2, 1) := by decide +kernel
theorem dX6_firstToPart_11 : decode cX6_firstToPart 11 = .ok (.invokevirtual 41, 3) := by decide +kernel
theorem dX6_firstToPart_14 : decode cX6_firstToPart 14 = .ok (.istore 5, 2) := by decide +kernel
theorem dX6_firstToPart_16 : decode cX6_firstToPart 16 = .ok (.iconst 0, 1) := by decide +kernel
theorem dX6_firstToPart_17 : decode cX6_firstToPart 17 = .ok (.istore 6, 2) := by decide +kernel
theorem dX6_firstToPart_19 : decode cX6_firstToPart 19 = .ok (.iload 6, 2) := by decide +kernel
theorem dX6_firstToPart_21 : decode cX6_firstToPart 21 = .ok (.iconst 3, 1) := by decide +kernel
theorem dX6_firstToPart_22 : decode cX6_firstToPart 22 = .ok (.if_icmp .ge 40, 3) := by decide +kernel
theorem dX6_firstToPart_25 : decode cX6_firstToPart 25 = .ok (.iload 5, 2) := by decide +kernel
theorem dX6_firstToPart_27 : decode cX6_firstToPart 27 = .ok (.ifCond .ge 35, 3) := by decide +kernel
theorem dX6_firstToPart_30 : decode cX6_firstToPart 30 = .ok (.aload_n 0, 1) := by decide +kernel
theorem dX6_firstToPart_31 : decode cX6_firstToPart 31 = .ok (.iload 6, 2) := by decide +kernel
theorem dX6_firstToPart_33 : decode cX6_firstToPart 33 = .ok (.invokevirtual 45, 3) := by decide +kernel
theorem dX6_firstToPart_36 : decode cX6_firstToPart 36 = .ok (.iload 4, 2) := by decide +kernel
theorem dX6_firstToPart_38 : decode cX6_firstToPart 38 = .ok (.imul, 1) := by decide +kernel
theorem dX6_firstToPart_39 : decode cX6_firstToPart 39 = .ok (.aload_n 3, 1) := by decide +kernel
theorem dX6_firstToPart_40 : decode cX6_firstToPart 40 = .ok (.iconst 5, 1) := by decide +kernel
theorem dX6_firstToPart_41 : decode cX6_firstToPart 41 = .ok (.iload 6, 2) := by decide +kernel
theorem dX6_firstToPart_43 : decode cX6_firstToPart 43 = .ok (.iadd, 1) := by decide +kernel
theorem dX6_firstToPart_44 : decode cX6_firstToPart 44 = .ok (.iaload, 1) := by decide +kernel
theorem dX6_firstToPart_45 : decode cX6_firstToPart 45 = .ok (.if_icmp .le 11, 3) := by decide +kernel
theorem dX6_firstToPart_48 : decode cX6_firstToPart 48 = .ok (.aload_n 0, 1) := by decide +kernel
theorem dX6_firstToPart_49 : decode cX6_firstToPart 49 = .ok (.iload 6, 2) := by decide +kernel
theorem dX6_firstToPart_51 : decode cX6_firstToPart 51 = .ok (.invokevirtual 48, 3) := by decide +kernel
theorem dX6_firstToPart_54 : decode cX6_firstToPart 54 = .ok (.istore 5, 2) := by decide +kernel
theorem dX6_firstToPart_56 : decode cX6_firstToPart 56 = .ok (.iinc 6 1, 3) := by decide +kernel
theorem dX6_firstToPart_59 : decode cX6_firstToPart 59 = .ok (.goto (-40), 3) := by decide +kernel
theorem dX6_firstToPart_62 : decode cX6_firstToPart 62 = .ok (.iload 5, 2) := by decide +kernel
theorem dX6_firstToPart_64 : decode cX6_firstToPart 64 = .ok (.ireturn, 1) := by decide +kernel
set_option maxRecDepth 20000 in
theorem ggX6_ropeMostOver_X6_ropeTakes : GoodIn wsX6_ropeMostOver wsX6_ropeTakes := goodIn_r _ [7, 8, 9, 10, 11, 19, 20, 21, 22, 23] (by decide +kernel) (by decide +kernel)
set_option maxRecDepth 20000 in
theorem gX6_ropeMostOver_X6_ropeTakes : GoodIn wsX6_ropeMostOver (wsV RX6 51 RX6 yX6_ropeTakes wsX6_ropeTakes) := goodIn_app (goodIn_of _ (by decide +kernel)) ggX6_ropeMostOver_X6_ropeTakes
set_option maxRecDepth 20000 in
theorem ggX6_ropeMostOver_X6_ropeMay : GoodIn wsX6_ropeMostOver wsX6_ropeMay := goodIn_r _ [15, 16, 19, 20, 21, 22, 23] (by decide +kernel) (by decide +kernel)
set_option maxRecDepth 20000 in
theorem gX6_ropeMostOver_X6_ropeMay : GoodIn wsX6_ropeMostOver (wsV RX6 54 RX6 yX6_ropeMay wsX6_ropeMay) := goodIn_app (goodIn_of _ (by decide +kernel)) ggX6_ropeMostOver_X6_ropeMay
set_option maxRecDepth 20000 in
theorem ggX6_ropeMostOver_X8_hasBit : GoodIn wsX6_ropeMostOver wsX8_hasBit := goodIn_r _ [18] (by decide +kernel) (by decide +kernel)
set_option maxRecDepth 20000 in
theorem gX6_ropeMostOver_X8_hasBit_n57 : GoodIn wsX6_ropeMostOver (wsX8_hasBit) := ggX6_ropeMostOver_X8_hasBit
theorem dX6_ropeMostOver_0 : decode cX6_ropeMostOver 0 = .ok (.iconst 0, 1) := by decide +kernel
theorem dX6_ropeMostOver_1 : decode cX6_ropeMostOver 1 = .ok (.istore_n 3, 1) := by decide +kernel
theorem dX6_ropeMostOver_2 : decode cX6_ropeMostOver 2 = .ok (.iconst (-1), 1) := by decide +kernel
theorem dX6_ropeMostOver_3 : decode cX6_ropeMostOver 3 = .ok (.istore 4, 2) := by decide +kernel
theorem dX6_ropeMostOver_5 : decode cX6_ropeMostOver 5 = .ok (.iconst 0, 1) := by decide +kernel
theorem dX6_ropeMostOver_6 : decode cX6_ropeMostOver 6 = .ok (.istore 5, 2) := by decide +kernel
theorem dX6_ropeMostOver_8 : decode cX6_ropeMostOver 8 = .ok (.iload 5, 2) := by decide +kernel
theorem dX6_ropeMostOver_10 : decode cX6_ropeMostOver 10 = .ok (.aload_n 0, 1) := by decide +kernel
theorem dX6_ropeMostOver_11 : decode cX6_ropeMostOver 11 = .ok (.getfield 21, 3) := by decide +kernel
theorem dX6_ropeMostOver_14 : decode cX6_ropeMostOver 14 = .ok (.if_icmp .ge 51, 3) := by decide +kernel
theorem dX6_ropeMostOver_17 : decode cX6_ropeMostOver 17 = .ok (.aload_n 0, 1) := by decide +kernel
theorem dX6_ropeMostOver_18 : decode cX6_ropeMostOver 18 = .ok (.iload 5, 2) := by decide +kernel
theorem dX6_ropeMostOver_20 : decode cX6_ropeMostOver 20 = .ok (.iload_n 1, 1) := by decide +kernel
theorem dX6_ropeMostOver_21 : decode cX6_ropeMostOver 21 = .ok (.invokevirtual 51, 3) := by decide +kernel
theorem dX6_ropeMostOver_24 : decode cX6_ropeMostOver 24 = .ok (.aload_n 0, 1) := by decide +kernel
theorem dX6_ropeMostOver_25 : decode cX6_ropeMostOver 25 = .ok (.iload 5, 2) := by decide +kernel
theorem dX6_ropeMostOver_27 : decode cX6_ropeMostOver 27 = .ok (.iload_n 2, 1) := by decide +kernel
theorem dX6_ropeMostOver_28 : decode cX6_ropeMostOver 28 = .ok (.invokevirtual 54, 3) := by decide +kernel
theorem dX6_ropeMostOver_31 : decode cX6_ropeMostOver 31 = .ok (.isub, 1) := by decide +kernel
theorem dX6_ropeMostOver_32 : decode cX6_ropeMostOver 32 = .ok (.istore 6, 2) := by decide +kernel
theorem dX6_ropeMostOver_34 : decode cX6_ropeMostOver 34 = .ok (.aload_n 0, 1) := by decide +kernel
theorem dX6_ropeMostOver_35 : decode cX6_ropeMostOver 35 = .ok (.getfield 25, 3) := by decide +kernel
theorem dX6_ropeMostOver_38 : decode cX6_ropeMostOver 38 = .ok (.iload 5, 2) := by decide +kernel
theorem dX6_ropeMostOver_40 : decode cX6_ropeMostOver 40 = .ok (.invokestatic 57, 3) := by decide +kernel
theorem dX6_ropeMostOver_43 : decode cX6_ropeMostOver 43 = .ok (.ifCond .eq 16, 3) := by decide +kernel
theorem dX6_ropeMostOver_46 : decode cX6_ropeMostOver 46 = .ok (.iload 6, 2) := by decide +kernel
theorem dX6_ropeMostOver_48 : decode cX6_ropeMostOver 48 = .ok (.iload_n 3, 1) := by decide +kernel
theorem dX6_ropeMostOver_49 : decode cX6_ropeMostOver 49 = .ok (.if_icmp .le 10, 3) := by decide +kernel
theorem dX6_ropeMostOver_52 : decode cX6_ropeMostOver 52 = .ok (.iload 6, 2) := by decide +kernel
theorem dX6_ropeMostOver_54 : decode cX6_ropeMostOver 54 = .ok (.istore_n 3, 1) := by decide +kernel
theorem dX6_ropeMostOver_55 : decode cX6_ropeMostOver 55 = .ok (.iload 5, 2) := by decide +kernel
theorem dX6_ropeMostOver_57 : decode cX6_ropeMostOver 57 = .ok (.istore 4, 2) := by decide +kernel
theorem dX6_ropeMostOver_59 : decode cX6_ropeMostOver 59 = .ok (.iinc 5 1, 3) := by decide +kernel
theorem dX6_ropeMostOver_62 : decode cX6_ropeMostOver 62 = .ok (.goto (-54), 3) := by decide +kernel
theorem dX6_ropeMostOver_65 : decode cX6_ropeMostOver 65 = .ok (.iload 4, 2) := by decide +kernel
theorem dX6_ropeMostOver_67 : decode cX6_ropeMostOver 67 = .ok (.ireturn, 1) := by decide +kernel
set_option maxRecDepth 20000 in
theorem ggX6_onMast_X8_hasBit : GoodIn wsX6_onMast wsX8_hasBit := goodIn_r _ [6] (by decide +kernel) (by decide +kernel)
set_option maxRecDepth 20000 in
theorem gX6_onMast_X8_hasBit_n57 : GoodIn wsX6_onMast (wsX8_hasBit) := ggX6_onMast_X8_hasBit
theorem dX6_onMast_0 : decode cX6_onMast 0 = .ok (.iconst 0, 1) := by decide +kernel
theorem dX6_onMast_1 : decode cX6_onMast 1 = .ok (.istore_n 2, 1) := by decide +kernel
theorem dX6_onMast_2 : decode cX6_onMast 2 = .ok (.iconst 0, 1) := by decide +kernel
theorem dX6_onMast_3 : decode cX6_onMast 3 = .ok (.istore_n 3, 1) := by decide +kernel
theorem dX6_onMast_4 : decode cX6_onMast 4 = .ok (.iload_n 3, 1) := by decide +kernel
theorem dX6_onMast_5 : decode cX6_onMast 5 = .ok (.aload_n 0, 1) := by decide +kernel
theorem dX6_onMast_6 : decode cX6_onMast 6 = .ok (.getfield 21, 3) := by decide +kernel
theorem dX6_onMast_9 : decode cX6_onMast 9 = .ok (.if_icmp .ge 38, 3) := by decide +kernel
theorem dX6_onMast_12 : decode cX6_onMast 12 = .ok (.iload_n 2, 1) := by decide +kernel
theorem dX6_onMast_13 : decode cX6_onMast 13 = .ok (.aload_n 0, 1) := by decide +kernel
theorem dX6_onMast_14 : decode cX6_onMast 14 = .ok (.getfield 25, 3) := by decide +kernel
theorem dX6_onMast_17 : decode cX6_onMast 17 = .ok (.iload_n 3, 1) := by decide +kernel
theorem dX6_onMast_18 : decode cX6_onMast 18 = .ok (.invokestatic 57, 3) := by decide +kernel
theorem dX6_onMast_21 : decode cX6_onMast 21 = .ok (.ifCond .eq 17, 3) := by decide +kernel
theorem dX6_onMast_24 : decode cX6_onMast 24 = .ok (.aload_n 0, 1) := by decide +kernel
theorem dX6_onMast_25 : decode cX6_onMast 25 = .ok (.getfield 9, 3) := by decide +kernel
theorem dX6_onMast_28 : decode cX6_onMast 28 = .ok (.iload_n 3, 1) := by decide +kernel
theorem dX6_onMast_29 : decode cX6_onMast 29 = .ok (.iaload, 1) := by decide +kernel
theorem dX6_onMast_30 : decode cX6_onMast 30 = .ok (.iload_n 1, 1) := by decide +kernel
theorem dX6_onMast_31 : decode cX6_onMast 31 = .ok (.if_icmp .ne 7, 3) := by decide +kernel
theorem dX6_onMast_34 : decode cX6_onMast 34 = .ok (.iconst 1, 1) := by decide +kernel
theorem dX6_onMast_35 : decode cX6_onMast 35 = .ok (.goto 4, 3) := by decide +kernel
theorem dX6_onMast_38 : decode cX6_onMast 38 = .ok (.iconst 0, 1) := by decide +kernel
theorem dX6_onMast_39 : decode cX6_onMast 39 = .ok (.iadd, 1) := by decide +kernel
theorem dX6_onMast_40 : decode cX6_onMast 40 = .ok (.istore_n 2, 1) := by decide +kernel
theorem dX6_onMast_41 : decode cX6_onMast 41 = .ok (.iinc 3 1, 3) := by decide +kernel
theorem dX6_onMast_44 : decode cX6_onMast 44 = .ok (.goto (-40), 3) := by decide +kernel
theorem dX6_onMast_47 : decode cX6_onMast 47 = .ok (.iload_n 2, 1) := by decide +kernel
theorem dX6_onMast_48 : decode cX6_onMast 48 = .ok (.ireturn, 1) := by decide +kernel
set_option maxRecDepth 20000 in
theorem ggX6_lowestOn_X8_hasBit : GoodIn wsX6_lowestOn wsX8_hasBit := goodIn_r _ [6] (by decide +kernel) (by decide +kernel)
set_option maxRecDepth 20000 in
theorem gX6_lowestOn_X8_hasBit_n57 : GoodIn wsX6_lowestOn (wsX8_hasBit) := ggX6_lowestOn_X8_hasBit
theorem dX6_lowestOn_0 : decode cX6_lowestOn 0 = .ok (.iconst 0, 1) := by decide +kernel
theorem dX6_lowestOn_1 : decode cX6_lowestOn 1 = .ok (.istore_n 2, 1) := by decide +kernel
theorem dX6_lowestOn_2 : decode cX6_lowestOn 2 = .ok (.iload_n 2, 1) := by decide +kernel
theorem dX6_lowestOn_3 : decode cX6_lowestOn 3 = .ok (.aload_n 0, 1) := by decide +kernel
theorem dX6_lowestOn_4 : decode cX6_lowestOn 4 = .ok (.getfield 21, 3) := by decide +kernel
theorem dX6_lowestOn_7 : decode cX6_lowestOn 7 = .ok (.if_icmp .ge 32, 3) := by decide +kernel
theorem dX6_lowestOn_10 : decode cX6_lowestOn 10 = .ok (.aload_n 0, 1) := by decide +kernel
theorem dX6_lowestOn_11 : decode cX6_lowestOn 11 = .ok (.getfield 25, 3) := by decide +kernel
theorem dX6_lowestOn_14 : decode cX6_lowestOn 14 = .ok (.iload_n 2, 1) := by decide +kernel
theorem dX6_lowestOn_15 : decode cX6_lowestOn 15 = .ok (.invokestatic 57, 3) := by decide +kernel
theorem dX6_lowestOn_18 : decode cX6_lowestOn 18 = .ok (.ifCond .eq 15, 3) := by decide +kernel
theorem dX6_lowestOn_21 : decode cX6_lowestOn 21 = .ok (.aload_n 0, 1) := by decide +kernel
theorem dX6_lowestOn_22 : decode cX6_lowestOn 22 = .ok (.getfield 9, 3) := by decide +kernel
theorem dX6_lowestOn_25 : decode cX6_lowestOn 25 = .ok (.iload_n 2, 1) := by decide +kernel
theorem dX6_lowestOn_26 : decode cX6_lowestOn 26 = .ok (.iaload, 1) := by decide +kernel
theorem dX6_lowestOn_27 : decode cX6_lowestOn 27 = .ok (.iload_n 1, 1) := by decide +kernel
theorem dX6_lowestOn_28 : decode cX6_lowestOn 28 = .ok (.if_icmp .ne 5, 3) := by decide +kernel
theorem dX6_lowestOn_31 : decode cX6_lowestOn 31 = .ok (.iload_n 2, 1) := by decide +kernel
theorem dX6_lowestOn_32 : decode cX6_lowestOn 32 = .ok (.ireturn, 1) := by decide +kernel
theorem dX6_lowestOn_33 : decode cX6_lowestOn 33 = .ok (.iinc 2 1, 3) := by decide +kernel
theorem dX6_lowestOn_36 : decode cX6_lowestOn 36 = .ok (.goto (-34), 3) := by decide +kernel
theorem dX6_lowestOn_39 : decode cX6_lowestOn 39 = .ok (.iconst (-1), 1) := by decide +kernel
theorem dX6_lowestOn_40 : decode cX6_lowestOn 40 = .ok (.ireturn, 1) := by decide +kernel
theorem dX6_copyFrom_0 : decode cX6_copyFrom 0 = .ok (.aload_n 1, 1) := by decide +kernel
theorem dX6_copyFrom_1 : decode cX6_copyFrom 1 = .ok (.getfield 9, 3) := by decide +kernel
theorem dX6_copyFrom_4 : decode cX6_copyFrom 4 = .ok (.iconst 0, 1) := by decide +kernel
theorem dX6_copyFrom_5 : decode cX6_copyFrom 5 = .ok (.aload_n 0, 1) := by decide +kernel
theorem dX6_copyFrom_6 : decode cX6_copyFrom 6 = .ok (.getfield 9, 3) := by decide +kernel
theorem dX6_copyFrom_9 : decode cX6_copyFrom 9 = .ok (.iconst 0, 1) := by decide +kernel
theorem dX6_copyFrom_10 : decode cX6_copyFrom 10 = .ok (.bipush 6, 2) := by decide +kernel
theorem dX6_copyFrom_12 : decode cX6_copyFrom 12 = .ok (.invokestatic 61, 3) := by decide +kernel
theorem dX6_copyFrom_15 : decode cX6_copyFrom 15 = .ok (.aload_n 1, 1) := by decide +kernel
theorem dX6_copyFrom_16 : decode cX6_copyFrom 16 = .ok (.getfield 15, 3) := by decide +kernel
theorem dX6_copyFrom_19 : decode cX6_copyFrom 19 = .ok (.iconst 0, 1) := by decide +kernel
theorem dX6_copyFrom_20 : decode cX6_copyFrom 20 = .ok (.aload_n 0, 1) := by decide +kernel
theorem dX6_copyFrom_21 : decode cX6_copyFrom 21 = .ok (.getfield 15, 3) := by decide +kernel
theorem dX6_copyFrom_24 : decode cX6_copyFrom 24 = .ok (.iconst 0, 1) := by decide +kernel
theorem dX6_copyFrom_25 : decode cX6_copyFrom 25 = .ok (.bipush 6, 2) := by decide +kernel
theorem dX6_copyFrom_27 : decode cX6_copyFrom 27 = .ok (.invokestatic 61, 3) := by decide +kernel
theorem dX6_copyFrom_30 : decode cX6_copyFrom 30 = .ok (.aload_n 1, 1) := by decide +kernel
theorem dX6_copyFrom_31 : decode cX6_copyFrom 31 = .ok (.getfield 18, 3) := by decide +kernel
theorem dX6_copyFrom_34 : decode cX6_copyFrom 34 = .ok (.iconst 0, 1) := by decide +kernel
theorem dX6_copyFrom_35 : decode cX6_copyFrom 35 = .ok (.aload_n 0, 1) := by decide +kernel
theorem dX6_copyFrom_36 : decode cX6_copyFrom 36 = .ok (.getfield 18, 3) := by decide +kernel
theorem dX6_copyFrom_39 : decode cX6_copyFrom 39 = .ok (.iconst 0, 1) := by decide +kernel
theorem dX6_copyFrom_40 : decode cX6_copyFrom 40 = .ok (.bipush 6, 2) := by decide +kernel
theorem dX6_copyFrom_42 : decode cX6_copyFrom 42 = .ok (.invokestatic 61, 3) := by decide +kernel
theorem dX6_copyFrom_45 : decode cX6_copyFrom 45 = .ok (.aload_n 0, 1) := by decide +kernel
theorem dX6_copyFrom_46 : decode cX6_copyFrom 46 = .ok (.aload_n 1, 1) := by decide +kernel
theorem dX6_copyFrom_47 : decode cX6_copyFrom 47 = .ok (.getfield 25, 3) := by decide +kernel
theorem dX6_copyFrom_50 : decode cX6_copyFrom 50 = .ok (.putfield 25, 3) := by decide +kernel
theorem dX6_copyFrom_53 : decode cX6_copyFrom 53 = .ok (.aload_n 0, 1) := by decide +kernel
theorem dX6_copyFrom_54 : decode cX6_copyFrom 54 = .ok (.aload_n 1, 1) := by decide +kernel
theorem dX6_copyFrom_55 : decode cX6_copyFrom 55 = .ok (.getfield 21, 3) := by decide +kernel
theorem dX6_copyFrom_58 : decode cX6_copyFrom 58 = .ok (.putfield 21, 3) := by decide +kernel
theorem dX6_copyFrom_61 : decode cX6_copyFrom 61 = .ok (.return_, 1) := by decide +kernel
theorem dX7_init_0 : decode cX7_init 0 = .ok (.aload_n 0, 1) := by decide +kernel
theorem dX7_init_1 : decode cX7_init 1 = .ok (.invokespecial 3, 3) := by decide +kernel
theorem dX7_init_4 : decode cX7_init 4 = .ok (.aload_n 0, 1) := by decide +kernel
theorem dX7_init_5 : decode cX7_init 5 = .ok (.bipush 12, 2) := by decide +kernel
theorem dX7_init_7 : decode cX7_init 7 = .ok (.newarray .int, 2) := by decide +kernel
theorem dX7_init_9 : decode cX7_init 9 = .ok (.putfield 9, 3) := by decide +kernel
theorem dX7_init_12 : decode cX7_init 12 = .ok (.aload_n 0, 1) := by decide +kernel
theorem dX7_init_13 : decode cX7_init 13 = .ok (.bipush 12, 2) := by decide +kernel
theorem dX7_init_15 : decode cX7_init 15 = .ok (.newarray .int, 2) := by decide +kernel
theorem dX7_init_17 : decode cX7_init 17 = .ok (.putfield 15, 3) := by decide +kernel
theorem dX7_init_20 : decode cX7_init 20 = .ok (.return_, 1) := by decide +kernel
theorem dX7_add_0 : decode cX7_add 0 = .ok (.aload_n 0, 1) := by decide +kernel
theorem dX7_add_1 : decode cX7_add 1 = .ok (.getfield 9, 3) := by decide +kernel
theorem dX7_add_4 : decode cX7_add 4 = .ok (.aload_n 0, 1) := by decide +kernel
theorem dX7_add_5 : decode cX7_add 5 = .ok (.getfield 18, 3) := by decide +kernel
theorem dX7_add_8 : decode cX7_add 8 = .ok (.iload_n 1, 1) := by decide +kernel
theorem dX7_add_9 : decode cX7_add 9 = .ok (.iastore, 1) := by decide +kernel
theorem dX7_add_10 : decode cX7_add 10 = .ok (.aload_n 0, 1) := by decide +kernel
theorem dX7_add_11 : decode cX7_add 11 = .ok (.getfield 15, 3) := by decide +kernel
theorem dX7_add_14 : decode cX7_add 14 = .ok (.aload_n 0, 1) := by decide +kernel
theorem dX7_add_15 : decode cX7_add 15 = .ok (.getfield 18, 3) := by decide +kernel
theorem dX7_add_18 : decode cX7_add 18 = .ok (.iload_n 2, 1) := by decide +kernel
theorem dX7_add_19 : decode cX7_add 19 = .ok (.iastore, 1) := by decide +kernel
theorem dX7_add_20 : decode cX7_add 20 = .ok (.aload_n 0, 1) := by decide +kernel
theorem dX7_add_21 : decode cX7_add 21 = .ok (.dup, 1) := by decide +kernel
theorem dX7_add_22 : decode cX7_add 22 = .ok (.getfield 18, 3) := by decide +kernel
theorem dX7_add_25 : decode cX7_add 25 = .ok (.iconst 1, 1) := by decide +kernel
theorem dX7_add_26 : decode cX7_add 26 = .ok (.iadd, 1) := by decide +kernel
theorem dX7_add_27 : decode cX7_add 27 = .ok (.putfield 18, 3) := by decide +kernel
theorem dX7_add_30 : decode cX7_add 30 = .ok (.aload_n 0, 1) := by decide +kernel
theorem dX7_add_31 : decode cX7_add 31 = .ok (.getfield 18, 3) := by decide +kernel
theorem dX7_add_34 : decode cX7_add 34 = .ok (.iconst 1, 1) := by decide +kernel
theorem dX7_add_35 : decode cX7_add 35 = .ok (.isub, 1) := by decide +kernel
theorem dX7_add_36 : decode cX7_add 36 = .ok (.ireturn, 1) := by decide +kernel
set_option maxRecDepth 20000 in
theorem ggX7_weightOf_X8_hasBit : GoodIn wsX7_weightOf wsX8_hasBit := goodIn_r _ [5] (by decide +kernel) (by decide +kernel)
set_option maxRecDepth 20000 in
theorem gX7_weightOf_X8_hasBit_n22 : GoodIn wsX7_weightOf (wsX8_hasBit) := ggX7_weightOf_X8_hasBit
theorem dX7_weightOf_0 : decode cX7_weightOf 0 = .ok (.iconst 0, 1) := by decide +kernel
theorem dX7_weightOf_1 : decode cX7_weightOf 1 = .ok (.istore_n 2, 1) := by decide +kernel
theorem dX7_weightOf_2 : decode cX7_weightOf 2 = .ok (.iconst 0, 1) := by decide +kernel
theorem dX7_weightOf_3 : decode cX7_weightOf 3 = .ok (.istore_n 3, 1) := by decide +kernel
theorem dX7_weightOf_4 : decode cX7_weightOf 4 = .ok (.iload_n 3, 1) := by decide +kernel
theorem dX7_weightOf_5 : decode cX7_weightOf 5 = .ok (.aload_n 0, 1) := by decide +kernel
theorem dX7_weightOf_6 : decode cX7_weightOf 6 = .ok (.getfield 18, 3) := by decide +kernel
theorem dX7_weightOf_9 : decode cX7_weightOf 9 = .ok (.if_icmp .ge 30, 3) := by decide +kernel
theorem dX7_weightOf_12 : decode cX7_weightOf 12 = .ok (.iload_n 2, 1) := by decide +kernel
theorem dX7_weightOf_13 : decode cX7_weightOf 13 = .ok (.iload_n 1, 1) := by decide +kernel
theorem dX7_weightOf_14 : decode cX7_weightOf 14 = .ok (.iload_n 3, 1) := by decide +kernel
theorem dX7_weightOf_15 : decode cX7_weightOf 15 = .ok (.invokestatic 22, 3) := by decide +kernel
theorem dX7_weightOf_18 : decode cX7_weightOf 18 = .ok (.ifCond .eq 12, 3) := by decide +kernel
theorem dX7_weightOf_21 : decode cX7_weightOf 21 = .ok (.aload_n 0, 1) := by decide +kernel
theorem dX7_weightOf_22 : decode cX7_weightOf 22 = .ok (.getfield 9, 3) := by decide +kernel
theorem dX7_weightOf_25 : decode cX7_weightOf 25 = .ok (.iload_n 3, 1) := by decide +kernel
theorem dX7_weightOf_26 : decode cX7_weightOf 26 = .ok (.iaload, 1) := by decide +kernel
theorem dX7_weightOf_27 : decode cX7_weightOf 27 = .ok (.goto 4, 3) := by decide +kernel
theorem dX7_weightOf_30 : decode cX7_weightOf 30 = .ok (.iconst 0, 1) := by decide +kernel
theorem dX7_weightOf_31 : decode cX7_weightOf 31 = .ok (.iadd, 1) := by decide +kernel
theorem dX7_weightOf_32 : decode cX7_weightOf 32 = .ok (.istore_n 2, 1) := by decide +kernel
theorem dX7_weightOf_33 : decode cX7_weightOf 33 = .ok (.iinc 3 1, 3) := by decide +kernel
theorem dX7_weightOf_36 : decode cX7_weightOf 36 = .ok (.goto (-32), 3) := by decide +kernel
theorem dX7_weightOf_39 : decode cX7_weightOf 39 = .ok (.iload_n 2, 1) := by decide +kernel
theorem dX7_weightOf_40 : decode cX7_weightOf 40 = .ok (.ireturn, 1) := by decide +kernel
set_option maxRecDepth 20000 in
theorem ggX7_mayMove_X8_hasBit : GoodIn wsX7_mayMove wsX8_hasBit := goodIn_r _ [4] (by decide +kernel) (by decide +kernel)
set_option maxRecDepth 20000 in
theorem gX7_mayMove_X8_hasBit_n22 : GoodIn wsX7_mayMove (wsX8_hasBit) := ggX7_mayMove_X8_hasBit
set_option maxRecDepth 20000 in
theorem ggX7_mayMove_X7_mayComeIn : GoodIn wsX7_mayMove wsX7_mayComeIn := goodIn_r _ [9, 1, 10, 11, 2, 3, 4, 16, 17, 18, 19] (by decide +kernel) (by decide +kernel)
set_option maxRecDepth 20000 in
theorem gX7_mayMove_X7_mayComeIn : GoodIn wsX7_mayMove (wsV RX7 29 RX7 yX7_mayComeIn wsX7_mayComeIn) := goodIn_app (goodIn_of _ (by decide +kernel)) ggX7_mayMove_X7_mayComeIn
set_option maxRecDepth 20000 in
theorem ggX7_mayMove_X7_bearsAny : GoodIn wsX7_mayMove wsX7_bearsAny := goodIn_r _ [15, 10, 1, 11, 2, 3, 4, 16, 17, 18, 19] (by decide +kernel) (by decide +kernel)
set_option maxRecDepth 20000 in
theorem gX7_mayMove_X7_bearsAny : GoodIn wsX7_mayMove (wsV RX7 33 RX7 yX7_bearsAny wsX7_bearsAny) := goodIn_app (goodIn_of _ (by decide +kernel)) ggX7_mayMove_X7_bearsAny
theorem dX7_mayMove_0 : decode cX7_mayMove 0 = .ok (.aload_n 0, 1) := by decide +kernel
theorem dX7_mayMove_1 : decode cX7_mayMove 1 = .ok (.getfield 26, 3) := by decide +kernel
theorem dX7_mayMove_4 : decode cX7_mayMove 4 = .ok (.iload_n 1, 1) := by decide +kernel
theorem dX7_mayMove_5 : decode cX7_mayMove 5 = .ok (.invokestatic 22, 3) := by decide +kernel
theorem dX7_mayMove_8 : decode cX7_mayMove 8 = .ok (.ifCond .eq 13, 3) := by decide +kernel
theorem dX7_mayMove_11 : decode cX7_mayMove 11 = .ok (.aload_n 0, 1) := by decide +kernel
theorem dX7_mayMove_12 : decode cX7_mayMove 12 = .ok (.iconst 1, 1) := by decide +kernel
theorem dX7_mayMove_13 : decode cX7_mayMove 13 = .ok (.iload_n 1, 1) := by decide +kernel
theorem dX7_mayMove_14 : decode cX7_mayMove 14 = .ok (.ishl, 1) := by decide +kernel
theorem dX7_mayMove_15 : decode cX7_mayMove 15 = .ok (.invokevirtual 29, 3) := by decide +kernel
theorem dX7_mayMove_18 : decode cX7_mayMove 18 = .ok (.goto 16, 3) := by decide +kernel
theorem dX7_mayMove_21 : decode cX7_mayMove 21 = .ok (.aload_n 0, 1) := by decide +kernel
theorem dX7_mayMove_22 : decode cX7_mayMove 22 = .ok (.iload_n 1, 1) := by decide +kernel
theorem dX7_mayMove_23 : decode cX7_mayMove 23 = .ok (.invokevirtual 33, 3) := by decide +kernel
theorem dX7_mayMove_26 : decode cX7_mayMove 26 = .ok (.ifCond .ne 7, 3) := by decide +kernel
theorem dX7_mayMove_29 : decode cX7_mayMove 29 = .ok (.iconst 1, 1) := by decide +kernel
theorem dX7_mayMove_30 : decode cX7_mayMove 30 = .ok (.goto 4, 3) := by decide +kernel
theorem dX7_mayMove_33 : decode cX7_mayMove 33 = .ok (.iconst 0, 1) := by decide +kernel
theorem dX7_mayMove_34 : decode cX7_mayMove 34 = .ok (.ireturn, 1) := by decide +kernel
set_option maxRecDepth 20000 in
theorem ggX7_bearsAny_X8_hasBit : GoodIn wsX7_bearsAny wsX8_hasBit := goodIn_r _ [6] (by decide +kernel) (by decide +kernel)
set_option maxRecDepth 20000 in
theorem gX7_bearsAny_X8_hasBit_n22 : GoodIn wsX7_bearsAny (wsX8_hasBit) := ggX7_bearsAny_X8_hasBit
theorem dX7_bearsAny_0 : decode cX7_bearsAny 0 = .ok (.iconst 0, 1) := by decide +kernel
theorem dX7_bearsAny_1 : decode cX7_bearsAny 1 = .ok (.istore_n 2, 1) := by decide +kernel
theorem dX7_bearsAny_2 : decode cX7_bearsAny 2 = .ok (.iload_n 2, 1) := by decide +kernel
theorem dX7_bearsAny_3 : decode cX7_bearsAny 3 = .ok (.aload_n 0, 1) := by decide +kernel
theorem dX7_bearsAny_4 : decode cX7_bearsAny 4 = .ok (.getfield 18, 3) := by decide +kernel
theorem dX7_bearsAny_7 : decode cX7_bearsAny 7 = .ok (.if_icmp .ge 32, 3) := by decide +kernel
theorem dX7_bearsAny_10 : decode cX7_bearsAny 10 = .ok (.aload_n 0, 1) := by decide +kernel
theorem dX7_bearsAny_11 : decode cX7_bearsAny 11 = .ok (.getfield 26, 3) := by decide +kernel
theorem dX7_bearsAny_14 : decode cX7_bearsAny 14 = .ok (.iload_n 2, 1) := by decide +kernel
theorem dX7_bearsAny_15 : decode cX7_bearsAny 15 = .ok (.invokestatic 22, 3) := by decide +kernel
theorem dX7_bearsAny_18 : decode cX7_bearsAny 18 = .ok (.ifCond .ne 15, 3) := by decide +kernel
theorem dX7_bearsAny_21 : decode cX7_bearsAny 21 = .ok (.aload_n 0, 1) := by decide +kernel
theorem dX7_bearsAny_22 : decode cX7_bearsAny 22 = .ok (.getfield 15, 3) := by decide +kernel
theorem dX7_bearsAny_25 : decode cX7_bearsAny 25 = .ok (.iload_n 2, 1) := by decide +kernel
theorem dX7_bearsAny_26 : decode cX7_bearsAny 26 = .ok (.iaload, 1) := by decide +kernel
theorem dX7_bearsAny_27 : decode cX7_bearsAny 27 = .ok (.iload_n 1, 1) := by decide +kernel
theorem dX7_bearsAny_28 : decode cX7_bearsAny 28 = .ok (.if_icmp .ne 5, 3) := by decide +kernel
theorem dX7_bearsAny_31 : decode cX7_bearsAny 31 = .ok (.iconst 1, 1) := by decide +kernel
theorem dX7_bearsAny_32 : decode cX7_bearsAny 32 = .ok (.ireturn, 1) := by decide +kernel
theorem dX7_bearsAny_33 : decode cX7_bearsAny 33 = .ok (.iinc 2 1, 3) := by decide +kernel
theorem dX7_bearsAny_36 : decode cX7_bearsAny 36 = .ok (.goto (-34), 3) := by decide +kernel
theorem dX7_bearsAny_39 : decode cX7_bearsAny 39 = .ok (.iconst 0, 1) := by decide +kernel
theorem dX7_bearsAny_40 : decode cX7_bearsAny 40 = .ok (.ireturn, 1) := by decide +kernel
set_option maxRecDepth 20000 in
theorem ggX7_mayComeIn_X8_hasBit : GoodIn wsX7_mayComeIn wsX8_hasBit := goodIn_r _ [6] (by decide +kernel) (by decide +kernel)
set_option maxRecDepth 20000 in
theorem gX7_mayComeIn_X8_hasBit_n22 : GoodIn wsX7_mayComeIn (wsX8_hasBit) := ggX7_mayComeIn_X8_hasBit
theorem dX7_mayComeIn_0 : decode cX7_mayComeIn 0 = .ok (.aload_n 0, 1) := by decide +kernel
theorem dX7_mayComeIn_1 : decode cX7_mayComeIn 1 = .ok (.getfield 26, 3) := by decide +kernel
theorem dX7_mayComeIn_4 : decode cX7_mayComeIn 4 = .ok (.iload_n 1, 1) := by decide +kernel
theorem dX7_mayComeIn_5 : decode cX7_mayComeIn 5 = .ok (.iconst (-1), 1) := by decide +kernel
theorem dX7_mayComeIn_6 : decode cX7_mayComeIn 6 = .ok (.ixor, 1) := by decide +kernel
theorem dX7_mayComeIn_7 : decode cX7_mayComeIn 7 = .ok (.iand, 1) := by decide +kernel
theorem dX7_mayComeIn_8 : decode cX7_mayComeIn 8 = .ok (.istore_n 2, 1) := by decide +kernel
theorem dX7_mayComeIn_9 : decode cX7_mayComeIn 9 = .ok (.iconst 0, 1) := by decide +kernel
theorem dX7_mayComeIn_10 : decode cX7_mayComeIn 10 = .ok (.istore_n 3, 1) := by decide +kernel
theorem dX7_mayComeIn_11 : decode cX7_mayComeIn 11 = .ok (.iload_n 3, 1) := by decide +kernel
theorem dX7_mayComeIn_12 : decode cX7_mayComeIn 12 = .ok (.aload_n 0, 1) := by decide +kernel
theorem dX7_mayComeIn_13 : decode cX7_mayComeIn 13 = .ok (.getfield 18, 3) := by decide +kernel
theorem dX7_mayComeIn_16 : decode cX7_mayComeIn 16 = .ok (.if_icmp .ge 41, 3) := by decide +kernel
theorem dX7_mayComeIn_19 : decode cX7_mayComeIn 19 = .ok (.iload_n 1, 1) := by decide +kernel
theorem dX7_mayComeIn_20 : decode cX7_mayComeIn 20 = .ok (.iload_n 3, 1) := by decide +kernel
theorem dX7_mayComeIn_21 : decode cX7_mayComeIn 21 = .ok (.invokestatic 22, 3) := by decide +kernel
theorem dX7_mayComeIn_24 : decode cX7_mayComeIn 24 = .ok (.ifCond .eq 27, 3) := by decide +kernel
theorem dX7_mayComeIn_27 : decode cX7_mayComeIn 27 = .ok (.aload_n 0, 1) := by decide +kernel
theorem dX7_mayComeIn_28 : decode cX7_mayComeIn 28 = .ok (.getfield 15, 3) := by decide +kernel
theorem dX7_mayComeIn_31 : decode cX7_mayComeIn 31 = .ok (.iload_n 3, 1) := by decide +kernel
theorem dX7_mayComeIn_32 : decode cX7_mayComeIn 32 = .ok (.iaload, 1) := by decide +kernel
theorem dX7_mayComeIn_33 : decode cX7_mayComeIn 33 = .ok (.ifCond .lt 18, 3) := by decide +kernel
theorem dX7_mayComeIn_36 : decode cX7_mayComeIn 36 = .ok (.iload_n 2, 1) := by decide +kernel
theorem dX7_mayComeIn_37 : decode cX7_mayComeIn 37 = .ok (.aload_n 0, 1) := by decide +kernel
theorem dX7_mayComeIn_38 : decode cX7_mayComeIn 38 = .ok (.getfield 15, 3) := by decide +kernel
theorem dX7_mayComeIn_41 : decode cX7_mayComeIn 41 = .ok (.iload_n 3, 1) := by decide +kernel
theorem dX7_mayComeIn_42 : decode cX7_mayComeIn 42 = .ok (.iaload, 1) := by decide +kernel
theorem dX7_mayComeIn_43 : decode cX7_mayComeIn 43 = .ok (.invokestatic 22, 3) := by decide +kernel
theorem dX7_mayComeIn_46 : decode cX7_mayComeIn 46 = .ok (.ifCond .eq 5, 3) := by decide +kernel
theorem dX7_mayComeIn_49 : decode cX7_mayComeIn 49 = .ok (.iconst 0, 1) := by decide +kernel
theorem dX7_mayComeIn_50 : decode cX7_mayComeIn 50 = .ok (.ireturn, 1) := by decide +kernel
theorem dX7_mayComeIn_51 : decode cX7_mayComeIn 51 = .ok (.iinc 3 1, 3) := by decide +kernel
theorem dX7_mayComeIn_54 : decode cX7_mayComeIn 54 = .ok (.goto (-43), 3) := by decide +kernel
theorem dX7_mayComeIn_57 : decode cX7_mayComeIn 57 = .ok (.iconst 1, 1) := by decide +kernel
theorem dX7_mayComeIn_58 : decode cX7_mayComeIn 58 = .ok (.ireturn, 1) := by decide +kernel
theorem dX7_copyFrom_0 : decode cX7_copyFrom 0 = .ok (.aload_n 1, 1) := by decide +kernel
theorem dX7_copyFrom_1 : decode cX7_copyFrom 1 = .ok (.getfield 9, 3) := by decide +kernel
theorem dX7_copyFrom_4 : decode cX7_copyFrom 4 = .ok (.iconst 0, 1) := by decide +kernel
theorem dX7_copyFrom_5 : decode cX7_copyFrom 5 = .ok (.aload_n 0, 1) := by decide +kernel
theorem dX7_copyFrom_6 : decode cX7_copyFrom 6 = .ok (.getfield 9, 3) := by decide +kernel
theorem dX7_copyFrom_9 : decode cX7_copyFrom 9 = .ok (.iconst 0, 1) := by decide +kernel
theorem dX7_copyFrom_10 : decode cX7_copyFrom 10 = .ok (.bipush 12, 2) := by decide +kernel
theorem dX7_copyFrom_12 : decode cX7_copyFrom 12 = .ok (.invokestatic 36, 3) := by decide +kernel
theorem dX7_copyFrom_15 : decode cX7_copyFrom 15 = .ok (.aload_n 1, 1) := by decide +kernel
theorem dX7_copyFrom_16 : decode cX7_copyFrom 16 = .ok (.getfield 15, 3) := by decide +kernel
theorem dX7_copyFrom_19 : decode cX7_copyFrom 19 = .ok (.iconst 0, 1) := by decide +kernel
theorem dX7_copyFrom_20 : decode cX7_copyFrom 20 = .ok (.aload_n 0, 1) := by decide +kernel
theorem dX7_copyFrom_21 : decode cX7_copyFrom 21 = .ok (.getfield 15, 3) := by decide +kernel
theorem dX7_copyFrom_24 : decode cX7_copyFrom 24 = .ok (.iconst 0, 1) := by decide +kernel
theorem dX7_copyFrom_25 : decode cX7_copyFrom 25 = .ok (.bipush 12, 2) := by decide +kernel
theorem dX7_copyFrom_27 : decode cX7_copyFrom 27 = .ok (.invokestatic 36, 3) := by decide +kernel
theorem dX7_copyFrom_30 : decode cX7_copyFrom 30 = .ok (.aload_n 0, 1) := by decide +kernel
theorem dX7_copyFrom_31 : decode cX7_copyFrom 31 = .ok (.aload_n 1, 1) := by decide +kernel
theorem dX7_copyFrom_32 : decode cX7_copyFrom 32 = .ok (.getfield 26, 3) := by decide +kernel
theorem dX7_copyFrom_35 : decode cX7_copyFrom 35 = .ok (.putfield 26, 3) := by decide +kernel
theorem dX7_copyFrom_38 : decode cX7_copyFrom 38 = .ok (.aload_n 0, 1) := by decide +kernel
theorem dX7_copyFrom_39 : decode cX7_copyFrom 39 = .ok (.aload_n 1, 1) := by decide +kernel
theorem dX7_copyFrom_40 : decode cX7_copyFrom 40 = .ok (.getfield 18, 3) := by decide +kernel
theorem dX7_copyFrom_43 : decode cX7_copyFrom 43 = .ok (.putfield 18, 3) := by decide +kernel
theorem dX7_copyFrom_46 : decode cX7_copyFrom 46 = .ok (.return_, 1) := by decide +kernel
