theorem dX3_init_0 : decode cX3_init 0 = .ok (.aload_n 0, 1) := by decide +kernel
theorem dX3_init_1 : decode cX3_init 1 = .ok (.invokespecial 3, 3) := by decide +kernel
theorem dX3_init_4 : decode cX3_init 4 = .ok (.aload_n 0, 1) := by decide +kernel
theorem dX3_init_5 : decode cX3_init 5 = .ok (.bipush 20, 2) := by decide +kernel
theorem dX3_init_7 : decode cX3_init 7 = .ok (.bipush 20, 2) := by decide +kernel
theorem dX3_init_9 : decode cX3_init 9 = .ok (.multianewarray 9 2, 4) := by decide +kernel
theorem dX3_init_13 : decode cX3_init 13 = .ok (.putfield 11, 3) := by decide +kernel
theorem dX3_init_16 : decode cX3_init 16 = .ok (.aload_n 0, 1) := by decide +kernel
theorem dX3_init_17 : decode cX3_init 17 = .ok (.bipush 20, 2) := by decide +kernel
theorem dX3_init_19 : decode cX3_init 19 = .ok (.newarray .int, 2) := by decide +kernel
theorem dX3_init_21 : decode cX3_init 21 = .ok (.putfield 16, 3) := by decide +kernel
theorem dX3_init_24 : decode cX3_init 24 = .ok (.aload_n 0, 1) := by decide +kernel
theorem dX3_init_25 : decode cX3_init 25 = .ok (.bipush 20, 2) := by decide +kernel
theorem dX3_init_27 : decode cX3_init 27 = .ok (.newarray .int, 2) := by decide +kernel
theorem dX3_init_29 : decode cX3_init 29 = .ok (.putfield 20, 3) := by decide +kernel
theorem dX3_init_32 : decode cX3_init 32 = .ok (.return_, 1) := by decide +kernel
theorem dX3_has_0 : decode cX3_has 0 = .ok (.iload_n 1, 1) := by decide +kernel
theorem dX3_has_1 : decode cX3_has 1 = .ok (.ifCond .lt 15, 3) := by decide +kernel
theorem dX3_has_4 : decode cX3_has 4 = .ok (.iload_n 1, 1) := by decide +kernel
theorem dX3_has_5 : decode cX3_has 5 = .ok (.aload_n 0, 1) := by decide +kernel
theorem dX3_has_6 : decode cX3_has 6 = .ok (.getfield 23, 3) := by decide +kernel
theorem dX3_has_9 : decode cX3_has 9 = .ok (.if_icmp .ge 7, 3) := by decide +kernel
theorem dX3_has_12 : decode cX3_has 12 = .ok (.iconst 1, 1) := by decide +kernel
theorem dX3_has_13 : decode cX3_has 13 = .ok (.goto 4, 3) := by decide +kernel
theorem dX3_has_16 : decode cX3_has 16 = .ok (.iconst 0, 1) := by decide +kernel
theorem dX3_has_17 : decode cX3_has 17 = .ok (.ireturn, 1) := by decide +kernel
theorem dX3_allBits_0 : decode cX3_allBits 0 = .ok (.iconst 1, 1) := by decide +kernel
theorem dX3_allBits_1 : decode cX3_allBits 1 = .ok (.aload_n 0, 1) := by decide +kernel
theorem dX3_allBits_2 : decode cX3_allBits 2 = .ok (.getfield 23, 3) := by decide +kernel
theorem dX3_allBits_5 : decode cX3_allBits 5 = .ok (.ishl, 1) := by decide +kernel
theorem dX3_allBits_6 : decode cX3_allBits 6 = .ok (.iconst 1, 1) := by decide +kernel
theorem dX3_allBits_7 : decode cX3_allBits 7 = .ok (.isub, 1) := by decide +kernel
theorem dX3_allBits_8 : decode cX3_allBits 8 = .ok (.ireturn, 1) := by decide +kernel
theorem dX3_startAnew_0 : decode cX3_startAnew 0 = .ok (.aload_n 0, 1) := by decide +kernel
theorem dX3_startAnew_1 : decode cX3_startAnew 1 = .ok (.iload_n 1, 1) := by decide +kernel
theorem dX3_startAnew_2 : decode cX3_startAnew 2 = .ok (.putfield 23, 3) := by decide +kernel
theorem dX3_startAnew_5 : decode cX3_startAnew 5 = .ok (.iconst 0, 1) := by decide +kernel
theorem dX3_startAnew_6 : decode cX3_startAnew 6 = .ok (.istore_n 2, 1) := by decide +kernel
theorem dX3_startAnew_7 : decode cX3_startAnew 7 = .ok (.iload_n 2, 1) := by decide +kernel
theorem dX3_startAnew_8 : decode cX3_startAnew 8 = .ok (.bipush 20, 2) := by decide +kernel
theorem dX3_startAnew_10 : decode cX3_startAnew 10 = .ok (.if_icmp .ge 46, 3) := by decide +kernel
theorem dX3_startAnew_13 : decode cX3_startAnew 13 = .ok (.aload_n 0, 1) := by decide +kernel
theorem dX3_startAnew_14 : decode cX3_startAnew 14 = .ok (.getfield 16, 3) := by decide +kernel
theorem dX3_startAnew_17 : decode cX3_startAnew 17 = .ok (.iload_n 2, 1) := by decide +kernel
theorem dX3_startAnew_18 : decode cX3_startAnew 18 = .ok (.iconst 0, 1) := by decide +kernel
theorem dX3_startAnew_19 : decode cX3_startAnew 19 = .ok (.iastore, 1) := by decide +kernel
theorem dX3_startAnew_20 : decode cX3_startAnew 20 = .ok (.aload_n 0, 1) := by decide +kernel
theorem dX3_startAnew_21 : decode cX3_startAnew 21 = .ok (.getfield 20, 3) := by decide +kernel
theorem dX3_startAnew_24 : decode cX3_startAnew 24 = .ok (.iload_n 2, 1) := by decide +kernel
theorem dX3_startAnew_25 : decode cX3_startAnew 25 = .ok (.iconst 0, 1) := by decide +kernel
theorem dX3_startAnew_26 : decode cX3_startAnew 26 = .ok (.iastore, 1) := by decide +kernel
theorem dX3_startAnew_27 : decode cX3_startAnew 27 = .ok (.iconst 0, 1) := by decide +kernel
theorem dX3_startAnew_28 : decode cX3_startAnew 28 = .ok (.istore_n 3, 1) := by decide +kernel
theorem dX3_startAnew_29 : decode cX3_startAnew 29 = .ok (.iload_n 3, 1) := by decide +kernel
theorem dX3_startAnew_30 : decode cX3_startAnew 30 = .ok (.bipush 20, 2) := by decide +kernel
theorem dX3_startAnew_32 : decode cX3_startAnew 32 = .ok (.if_icmp .ge 18, 3) := by decide +kernel
theorem dX3_startAnew_35 : decode cX3_startAnew 35 = .ok (.aload_n 0, 1) := by decide +kernel
theorem dX3_startAnew_36 : decode cX3_startAnew 36 = .ok (.getfield 11, 3) := by decide +kernel
theorem dX3_startAnew_39 : decode cX3_startAnew 39 = .ok (.iload_n 2, 1) := by decide +kernel
theorem dX3_startAnew_40 : decode cX3_startAnew 40 = .ok (.aaload, 1) := by decide +kernel
theorem dX3_startAnew_41 : decode cX3_startAnew 41 = .ok (.iload_n 3, 1) := by decide +kernel
theorem dX3_startAnew_42 : decode cX3_startAnew 42 = .ok (.iconst 0, 1) := by decide +kernel
theorem dX3_startAnew_43 : decode cX3_startAnew 43 = .ok (.iastore, 1) := by decide +kernel
theorem dX3_startAnew_44 : decode cX3_startAnew 44 = .ok (.iinc 3 1, 3) := by decide +kernel
theorem dX3_startAnew_47 : decode cX3_startAnew 47 = .ok (.goto (-18), 3) := by decide +kernel
theorem dX3_startAnew_50 : decode cX3_startAnew 50 = .ok (.iinc 2 1, 3) := by decide +kernel
theorem dX3_startAnew_53 : decode cX3_startAnew 53 = .ok (.goto (-46), 3) := by decide +kernel
theorem dX3_startAnew_56 : decode cX3_startAnew 56 = .ok (.return_, 1) := by decide +kernel
theorem dX3_setApart_0 : decode cX3_setApart 0 = .ok (.aload_n 0, 1) := by decide +kernel
theorem dX3_setApart_1 : decode cX3_setApart 1 = .ok (.getfield 11, 3) := by decide +kernel
theorem dX3_setApart_4 : decode cX3_setApart 4 = .ok (.iload_n 1, 1) := by decide +kernel
theorem dX3_setApart_5 : decode cX3_setApart 5 = .ok (.aaload, 1) := by decide +kernel
theorem dX3_setApart_6 : decode cX3_setApart 6 = .ok (.iload_n 2, 1) := by decide +kernel
theorem dX3_setApart_7 : decode cX3_setApart 7 = .ok (.iload_n 3, 1) := by decide +kernel
theorem dX3_setApart_8 : decode cX3_setApart 8 = .ok (.iastore, 1) := by decide +kernel
theorem dX3_setApart_9 : decode cX3_setApart 9 = .ok (.aload_n 0, 1) := by decide +kernel
theorem dX3_setApart_10 : decode cX3_setApart 10 = .ok (.getfield 11, 3) := by decide +kernel
theorem dX3_setApart_13 : decode cX3_setApart 13 = .ok (.iload_n 2, 1) := by decide +kernel
theorem dX3_setApart_14 : decode cX3_setApart 14 = .ok (.aaload, 1) := by decide +kernel
theorem dX3_setApart_15 : decode cX3_setApart 15 = .ok (.iload_n 1, 1) := by decide +kernel
theorem dX3_setApart_16 : decode cX3_setApart 16 = .ok (.iload_n 3, 1) := by decide +kernel
theorem dX3_setApart_17 : decode cX3_setApart 17 = .ok (.iastore, 1) := by decide +kernel
theorem dX3_setApart_18 : decode cX3_setApart 18 = .ok (.return_, 1) := by decide +kernel
theorem dX3_measureAll_0 : decode cX3_measureAll 0 = .ok (.iconst 1, 1) := by decide +kernel
theorem dX3_measureAll_1 : decode cX3_measureAll 1 = .ok (.istore_n 2, 1) := by decide +kernel
theorem dX3_measureAll_2 : decode cX3_measureAll 2 = .ok (.iload_n 2, 1) := by decide +kernel
theorem dX3_measureAll_3 : decode cX3_measureAll 3 = .ok (.aload_n 0, 1) := by decide +kernel
theorem dX3_measureAll_4 : decode cX3_measureAll 4 = .ok (.getfield 23, 3) := by decide +kernel
theorem dX3_measureAll_7 : decode cX3_measureAll 7 = .ok (.if_icmp .ge 64, 3) := by decide +kernel
theorem dX3_measureAll_10 : decode cX3_measureAll 10 = .ok (.iconst 0, 1) := by decide +kernel
theorem dX3_measureAll_11 : decode cX3_measureAll 11 = .ok (.istore_n 3, 1) := by decide +kernel
theorem dX3_measureAll_12 : decode cX3_measureAll 12 = .ok (.iload_n 3, 1) := by decide +kernel
theorem dX3_measureAll_13 : decode cX3_measureAll 13 = .ok (.iload_n 2, 1) := by decide +kernel
theorem dX3_measureAll_14 : decode cX3_measureAll 14 = .ok (.if_icmp .ge 51, 3) := by decide +kernel
theorem dX3_measureAll_17 : decode cX3_measureAll 17 = .ok (.aload_n 0, 1) := by decide +kernel
theorem dX3_measureAll_18 : decode cX3_measureAll 18 = .ok (.iload_n 2, 1) := by decide +kernel
theorem dX3_measureAll_19 : decode cX3_measureAll 19 = .ok (.iload_n 3, 1) := by decide +kernel
theorem dX3_measureAll_20 : decode cX3_measureAll 20 = .ok (.iload_n 1, 1) := by decide +kernel
theorem dX3_measureAll_21 : decode cX3_measureAll 21 = .ok (.aload_n 0, 1) := by decide +kernel
theorem dX3_measureAll_22 : decode cX3_measureAll 22 = .ok (.getfield 16, 3) := by decide +kernel
theorem dX3_measureAll_25 : decode cX3_measureAll 25 = .ok (.iload_n 2, 1) := by decide +kernel
theorem dX3_measureAll_26 : decode cX3_measureAll 26 = .ok (.iaload, 1) := by decide +kernel
theorem dX3_measureAll_27 : decode cX3_measureAll 27 = .ok (.aload_n 0, 1) := by decide +kernel
theorem dX3_measureAll_28 : decode cX3_measureAll 28 = .ok (.getfield 16, 3) := by decide +kernel
theorem dX3_measureAll_31 : decode cX3_measureAll 31 = .ok (.iload_n 3, 1) := by decide +kernel
theorem dX3_measureAll_32 : decode cX3_measureAll 32 = .ok (.iaload, 1) := by decide +kernel
theorem dX3_measureAll_33 : decode cX3_measureAll 33 = .ok (.isub, 1) := by decide +kernel
theorem dX3_measureAll_34 : decode cX3_measureAll 34 = .ok (.invokestatic 27, 3) := by decide +kernel
theorem dX3_measureAll_37 : decode cX3_measureAll 37 = .ok (.aload_n 0, 1) := by decide +kernel
theorem dX3_measureAll_38 : decode cX3_measureAll 38 = .ok (.getfield 20, 3) := by decide +kernel
theorem dX3_measureAll_41 : decode cX3_measureAll 41 = .ok (.iload_n 2, 1) := by decide +kernel
theorem dX3_measureAll_42 : decode cX3_measureAll 42 = .ok (.iaload, 1) := by decide +kernel
theorem dX3_measureAll_43 : decode cX3_measureAll 43 = .ok (.aload_n 0, 1) := by decide +kernel
theorem dX3_measureAll_44 : decode cX3_measureAll 44 = .ok (.getfield 20, 3) := by decide +kernel
theorem dX3_measureAll_47 : decode cX3_measureAll 47 = .ok (.iload_n 3, 1) := by decide +kernel
theorem dX3_measureAll_48 : decode cX3_measureAll 48 = .ok (.iaload, 1) := by decide +kernel
theorem dX3_measureAll_49 : decode cX3_measureAll 49 = .ok (.isub, 1) := by decide +kernel
theorem dX3_measureAll_50 : decode cX3_measureAll 50 = .ok (.invokestatic 27, 3) := by decide +kernel
theorem dX3_measureAll_53 : decode cX3_measureAll 53 = .ok (.invokestatic 33, 3) := by decide +kernel
theorem dX3_measureAll_56 : decode cX3_measureAll 56 = .ok (.invokevirtual 37, 3) := by decide +kernel
theorem dX3_measureAll_59 : decode cX3_measureAll 59 = .ok (.iinc 3 1, 3) := by decide +kernel
theorem dX3_measureAll_62 : decode cX3_measureAll 62 = .ok (.goto (-50), 3) := by decide +kernel
theorem dX3_measureAll_65 : decode cX3_measureAll 65 = .ok (.iinc 2 1, 3) := by decide +kernel
theorem dX3_measureAll_68 : decode cX3_measureAll 68 = .ok (.goto (-66), 3) := by decide +kernel
theorem dX3_measureAll_71 : decode cX3_measureAll 71 = .ok (.return_, 1) := by decide +kernel
theorem dX3_measured_0 : decode cX3_measured 0 = .ok (.iload_n 0, 1) := by decide +kernel
theorem dX3_measured_1 : decode cX3_measured 1 = .ok (.ifCond .ne 11, 3) := by decide +kernel
theorem dX3_measured_4 : decode cX3_measured 4 = .ok (.iload_n 1, 1) := by decide +kernel
theorem dX3_measured_5 : decode cX3_measured 5 = .ok (.iload_n 1, 1) := by decide +kernel
theorem dX3_measured_6 : decode cX3_measured 6 = .ok (.imul, 1) := by decide +kernel
theorem dX3_measured_7 : decode cX3_measured 7 = .ok (.iload_n 2, 1) := by decide +kernel
theorem dX3_measured_8 : decode cX3_measured 8 = .ok (.iload_n 2, 1) := by decide +kernel
theorem dX3_measured_9 : decode cX3_measured 9 = .ok (.imul, 1) := by decide +kernel
theorem dX3_measured_10 : decode cX3_measured 10 = .ok (.iadd, 1) := by decide +kernel
theorem dX3_measured_11 : decode cX3_measured 11 = .ok (.ireturn, 1) := by decide +kernel
theorem dX3_measured_12 : decode cX3_measured 12 = .ok (.iload_n 0, 1) := by decide +kernel
theorem dX3_measured_13 : decode cX3_measured 13 = .ok (.iconst 1, 1) := by decide +kernel
theorem dX3_measured_14 : decode cX3_measured 14 = .ok (.if_icmp .ne 9, 3) := by decide +kernel
theorem dX3_measured_17 : decode cX3_measured 17 = .ok (.iload_n 1, 1) := by decide +kernel
theorem dX3_measured_18 : decode cX3_measured 18 = .ok (.iload_n 2, 1) := by decide +kernel
theorem dX3_measured_19 : decode cX3_measured 19 = .ok (.iadd, 1) := by decide +kernel
theorem dX3_measured_20 : decode cX3_measured 20 = .ok (.goto 8, 3) := by decide +kernel
theorem dX3_measured_23 : decode cX3_measured 23 = .ok (.iload_n 1, 1) := by decide +kernel
theorem dX3_measured_24 : decode cX3_measured 24 = .ok (.iload_n 2, 1) := by decide +kernel
theorem dX3_measured_25 : decode cX3_measured 25 = .ok (.invokestatic 41, 3) := by decide +kernel
theorem dX3_measured_28 : decode cX3_measured 28 = .ok (.ireturn, 1) := by decide +kernel
theorem dX3_coreBetween_0 : decode cX3_coreBetween 0 = .ok (.lconst 0, 1) := by decide +kernel
theorem dX3_coreBetween_1 : decode cX3_coreBetween 1 = .ok (.lstore 4, 2) := by decide +kernel
theorem dX3_coreBetween_3 : decode cX3_coreBetween 3 = .ok (.iconst 0, 1) := by decide +kernel
theorem dX3_coreBetween_4 : decode cX3_coreBetween 4 = .ok (.istore 6, 2) := by decide +kernel
theorem dX3_coreBetween_6 : decode cX3_coreBetween 6 = .ok (.iconst 0, 1) := by decide +kernel
theorem dX3_coreBetween_7 : decode cX3_coreBetween 7 = .ok (.istore 7, 2) := by decide +kernel
theorem dX3_coreBetween_9 : decode cX3_coreBetween 9 = .ok (.iload 7, 2) := by decide +kernel
theorem dX3_coreBetween_11 : decode cX3_coreBetween 11 = .ok (.aload_n 0, 1) := by decide +kernel
theorem dX3_coreBetween_12 : decode cX3_coreBetween 12 = .ok (.getfield 23, 3) := by decide +kernel
theorem dX3_coreBetween_15 : decode cX3_coreBetween 15 = .ok (.if_icmp .ge 88, 3) := by decide +kernel
theorem dX3_coreBetween_18 : decode cX3_coreBetween 18 = .ok (.iconst 0, 1) := by decide +kernel
theorem dX3_coreBetween_19 : decode cX3_coreBetween 19 = .ok (.istore 8, 2) := by decide +kernel
theorem dX3_coreBetween_21 : decode cX3_coreBetween 21 = .ok (.iload 8, 2) := by decide +kernel
theorem dX3_coreBetween_23 : decode cX3_coreBetween 23 = .ok (.aload_n 0, 1) := by decide +kernel
theorem dX3_coreBetween_24 : decode cX3_coreBetween 24 = .ok (.getfield 23, 3) := by decide +kernel
theorem dX3_coreBetween_27 : decode cX3_coreBetween 27 = .ok (.if_icmp .ge 70, 3) := by decide +kernel
theorem dX3_coreBetween_30 : decode cX3_coreBetween 30 = .ok (.iload_n 2, 1) := by decide +kernel
theorem dX3_coreBetween_31 : decode cX3_coreBetween 31 = .ok (.iload 7, 2) := by decide +kernel
theorem dX3_coreBetween_33 : decode cX3_coreBetween 33 = .ok (.ishr, 1) := by decide +kernel
theorem dX3_coreBetween_34 : decode cX3_coreBetween 34 = .ok (.iconst 1, 1) := by decide +kernel
theorem dX3_coreBetween_35 : decode cX3_coreBetween 35 = .ok (.iand, 1) := by decide +kernel
theorem dX3_coreBetween_36 : decode cX3_coreBetween 36 = .ok (.iconst 1, 1) := by decide +kernel
theorem dX3_coreBetween_37 : decode cX3_coreBetween 37 = .ok (.if_icmp .ne 54, 3) := by decide +kernel
theorem dX3_coreBetween_40 : decode cX3_coreBetween 40 = .ok (.iload_n 3, 1) := by decide +kernel
theorem dX3_coreBetween_41 : decode cX3_coreBetween 41 = .ok (.iload 8, 2) := by decide +kernel
theorem dX3_coreBetween_43 : decode cX3_coreBetween 43 = .ok (.ishr, 1) := by decide +kernel
theorem dX3_coreBetween_44 : decode cX3_coreBetween 44 = .ok (.iconst 1, 1) := by decide +kernel
theorem dX3_coreBetween_45 : decode cX3_coreBetween 45 = .ok (.iand, 1) := by decide +kernel
theorem dX3_coreBetween_46 : decode cX3_coreBetween 46 = .ok (.iconst 1, 1) := by decide +kernel
theorem dX3_coreBetween_47 : decode cX3_coreBetween 47 = .ok (.if_icmp .ne 44, 3) := by decide +kernel
theorem dX3_coreBetween_50 : decode cX3_coreBetween 50 = .ok (.iload 6, 2) := by decide +kernel
theorem dX3_coreBetween_52 : decode cX3_coreBetween 52 = .ok (.ifCond .eq 23, 3) := by decide +kernel
theorem dX3_coreBetween_55 : decode cX3_coreBetween 55 = .ok (.iload_n 1, 1) := by decide +kernel
theorem dX3_coreBetween_56 : decode cX3_coreBetween 56 = .ok (.lload 4, 2) := by decide +kernel
theorem dX3_coreBetween_58 : decode cX3_coreBetween 58 = .ok (.aload_n 0, 1) := by decide +kernel
theorem dX3_coreBetween_59 : decode cX3_coreBetween 59 = .ok (.getfield 11, 3) := by decide +kernel
theorem dX3_coreBetween_62 : decode cX3_coreBetween 62 = .ok (.iload 7, 2) := by decide +kernel
theorem dX3_coreBetween_64 : decode cX3_coreBetween 64 = .ok (.aaload, 1) := by decide +kernel
theorem dX3_coreBetween_65 : decode cX3_coreBetween 65 = .ok (.iload 8, 2) := by decide +kernel
theorem dX3_coreBetween_67 : decode cX3_coreBetween 67 = .ok (.iaload, 1) := by decide +kernel
theorem dX3_coreBetween_68 : decode cX3_coreBetween 68 = .ok (.i2l, 1) := by decide +kernel
theorem dX3_coreBetween_69 : decode cX3_coreBetween 69 = .ok (.invokestatic 45, 3) := by decide +kernel
theorem dX3_coreBetween_72 : decode cX3_coreBetween 72 = .ok (.goto 14, 3) := by decide +kernel
theorem dX3_coreBetween_75 : decode cX3_coreBetween 75 = .ok (.aload_n 0, 1) := by decide +kernel
theorem dX3_coreBetween_76 : decode cX3_coreBetween 76 = .ok (.getfield 11, 3) := by decide +kernel
theorem dX3_coreBetween_79 : decode cX3_coreBetween 79 = .ok (.iload 7, 2) := by decide +kernel
theorem dX3_coreBetween_81 : decode cX3_coreBetween 81 = .ok (.aaload, 1) := by decide +kernel
theorem dX3_coreBetween_82 : decode cX3_coreBetween 82 = .ok (.iload 8, 2) := by decide +kernel
theorem dX3_coreBetween_84 : decode cX3_coreBetween 84 = .ok (.iaload, 1) := by decide +kernel
theorem dX3_coreBetween_85 : decode cX3_coreBetween 85 = .ok (.i2l, 1) := by decide +kernel
theorem dX3_coreBetween_86 : decode cX3_coreBetween 86 = .ok (.lstore 4, 2) := by decide +kernel
theorem dX3_coreBetween_88 : decode cX3_coreBetween 88 = .ok (.iconst 1, 1) := by decide +kernel
theorem dX3_coreBetween_89 : decode cX3_coreBetween 89 = .ok (.istore 6, 2) := by decide +kernel
theorem dX3_coreBetween_91 : decode cX3_coreBetween 91 = .ok (.iinc 8 1, 3) := by decide +kernel
theorem dX3_coreBetween_94 : decode cX3_coreBetween 94 = .ok (.goto (-73), 3) := by decide +kernel
theorem dX3_coreBetween_97 : decode cX3_coreBetween 97 = .ok (.iinc 7 1, 3) := by decide +kernel
theorem dX3_coreBetween_100 : decode cX3_coreBetween 100 = .ok (.goto (-91), 3) := by decide +kernel
theorem dX3_coreBetween_103 : decode cX3_coreBetween 103 = .ok (.lload 4, 2) := by decide +kernel
theorem dX3_coreBetween_105 : decode cX3_coreBetween 105 = .ok (.lreturn, 1) := by decide +kernel
theorem dX3_sumInside_0 : decode cX3_sumInside 0 = .ok (.lconst 0, 1) := by decide +kernel
theorem dX3_sumInside_1 : decode cX3_sumInside 1 = .ok (.lstore_n 2, 1) := by decide +kernel
theorem dX3_sumInside_2 : decode cX3_sumInside 2 = .ok (.iconst 1, 1) := by decide +kernel
theorem dX3_sumInside_3 : decode cX3_sumInside 3 = .ok (.istore 4, 2) := by decide +kernel
theorem dX3_sumInside_5 : decode cX3_sumInside 5 = .ok (.iload 4, 2) := by decide +kernel
theorem dX3_sumInside_7 : decode cX3_sumInside 7 = .ok (.aload_n 0, 1) := by decide +kernel
theorem dX3_sumInside_8 : decode cX3_sumInside 8 = .ok (.getfield 23, 3) := by decide +kernel
theorem dX3_sumInside_11 : decode cX3_sumInside 11 = .ok (.if_icmp .ge 59, 3) := by decide +kernel
theorem dX3_sumInside_14 : decode cX3_sumInside 14 = .ok (.iconst 0, 1) := by decide +kernel
theorem dX3_sumInside_15 : decode cX3_sumInside 15 = .ok (.istore 5, 2) := by decide +kernel
theorem dX3_sumInside_17 : decode cX3_sumInside 17 = .ok (.iload 5, 2) := by decide +kernel
theorem dX3_sumInside_19 : decode cX3_sumInside 19 = .ok (.iload 4, 2) := by decide +kernel
theorem dX3_sumInside_21 : decode cX3_sumInside 21 = .ok (.if_icmp .ge 43, 3) := by decide +kernel
theorem dX3_sumInside_24 : decode cX3_sumInside 24 = .ok (.iload_n 1, 1) := by decide +kernel
theorem dX3_sumInside_25 : decode cX3_sumInside 25 = .ok (.iload 4, 2) := by decide +kernel
theorem dX3_sumInside_27 : decode cX3_sumInside 27 = .ok (.ishr, 1) := by decide +kernel
theorem dX3_sumInside_28 : decode cX3_sumInside 28 = .ok (.iconst 1, 1) := by decide +kernel
theorem dX3_sumInside_29 : decode cX3_sumInside 29 = .ok (.iand, 1) := by decide +kernel
theorem dX3_sumInside_30 : decode cX3_sumInside 30 = .ok (.iconst 1, 1) := by decide +kernel
theorem dX3_sumInside_31 : decode cX3_sumInside 31 = .ok (.if_icmp .ne 27, 3) := by decide +kernel
theorem dX3_sumInside_34 : decode cX3_sumInside 34 = .ok (.iload_n 1, 1) := by decide +kernel
theorem dX3_sumInside_35 : decode cX3_sumInside 35 = .ok (.iload 5, 2) := by decide +kernel
theorem dX3_sumInside_37 : decode cX3_sumInside 37 = .ok (.ishr, 1) := by decide +kernel
theorem dX3_sumInside_38 : decode cX3_sumInside 38 = .ok (.iconst 1, 1) := by decide +kernel
theorem dX3_sumInside_39 : decode cX3_sumInside 39 = .ok (.iand, 1) := by decide +kernel
theorem dX3_sumInside_40 : decode cX3_sumInside 40 = .ok (.iconst 1, 1) := by decide +kernel
theorem dX3_sumInside_41 : decode cX3_sumInside 41 = .ok (.if_icmp .ne 17, 3) := by decide +kernel
theorem dX3_sumInside_44 : decode cX3_sumInside 44 = .ok (.lload_n 2, 1) := by decide +kernel
theorem dX3_sumInside_45 : decode cX3_sumInside 45 = .ok (.aload_n 0, 1) := by decide +kernel
theorem dX3_sumInside_46 : decode cX3_sumInside 46 = .ok (.getfield 11, 3) := by decide +kernel
theorem dX3_sumInside_49 : decode cX3_sumInside 49 = .ok (.iload 4, 2) := by decide +kernel
theorem dX3_sumInside_51 : decode cX3_sumInside 51 = .ok (.aaload, 1) := by decide +kernel
theorem dX3_sumInside_52 : decode cX3_sumInside 52 = .ok (.iload 5, 2) := by decide +kernel
theorem dX3_sumInside_54 : decode cX3_sumInside 54 = .ok (.iaload, 1) := by decide +kernel
theorem dX3_sumInside_55 : decode cX3_sumInside 55 = .ok (.i2l, 1) := by decide +kernel
theorem dX3_sumInside_56 : decode cX3_sumInside 56 = .ok (.ladd, 1) := by decide +kernel
theorem dX3_sumInside_57 : decode cX3_sumInside 57 = .ok (.lstore_n 2, 1) := by decide +kernel
theorem dX3_sumInside_58 : decode cX3_sumInside 58 = .ok (.iinc 5 1, 3) := by decide +kernel
theorem dX3_sumInside_61 : decode cX3_sumInside 61 = .ok (.goto (-44), 3) := by decide +kernel
theorem dX3_sumInside_64 : decode cX3_sumInside 64 = .ok (.iinc 4 1, 3) := by decide +kernel
theorem dX3_sumInside_67 : decode cX3_sumInside 67 = .ok (.goto (-62), 3) := by decide +kernel
theorem dX3_sumInside_70 : decode cX3_sumInside 70 = .ok (.lload_n 2, 1) := by decide +kernel
theorem dX3_sumInside_71 : decode cX3_sumInside 71 = .ok (.lreturn, 1) := by decide +kernel
