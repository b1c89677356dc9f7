theorem dX4_init_0 : decode cX4_init 0 = .ok (.aload_n 0, 1) := by decide +kernel
theorem dX4_init_1 : decode cX4_init 1 = .ok (.invokespecial 3, 3) := by decide +kernel
theorem dX4_init_4 : decode cX4_init 4 = .ok (.aload_n 0, 1) := by decide +kernel
theorem dX4_init_5 : decode cX4_init 5 = .ok (.bipush 19, 2) := by decide +kernel
theorem dX4_init_7 : decode cX4_init 7 = .ok (.newarray .int, 2) := by decide +kernel
theorem dX4_init_9 : decode cX4_init 9 = .ok (.putfield 9, 3) := by decide +kernel
theorem dX4_init_12 : decode cX4_init 12 = .ok (.aload_n 0, 1) := by decide +kernel
theorem dX4_init_13 : decode cX4_init 13 = .ok (.bipush 19, 2) := by decide +kernel
theorem dX4_init_15 : decode cX4_init 15 = .ok (.newarray .int, 2) := by decide +kernel
theorem dX4_init_17 : decode cX4_init 17 = .ok (.putfield 15, 3) := by decide +kernel
theorem dX4_init_20 : decode cX4_init 20 = .ok (.aload_n 0, 1) := by decide +kernel
theorem dX4_init_21 : decode cX4_init 21 = .ok (.bipush 19, 2) := by decide +kernel
theorem dX4_init_23 : decode cX4_init 23 = .ok (.newarray .int, 2) := by decide +kernel
theorem dX4_init_25 : decode cX4_init 25 = .ok (.putfield 18, 3) := by decide +kernel
theorem dX4_init_28 : decode cX4_init 28 = .ok (.aload_n 0, 1) := by decide +kernel
theorem dX4_init_29 : decode cX4_init 29 = .ok (.bipush 19, 2) := by decide +kernel
theorem dX4_init_31 : decode cX4_init 31 = .ok (.newarray .long, 2) := by decide +kernel
theorem dX4_init_33 : decode cX4_init 33 = .ok (.putfield 21, 3) := by decide +kernel
theorem dX4_init_36 : decode cX4_init 36 = .ok (.aload_n 0, 1) := by decide +kernel
theorem dX4_init_37 : decode cX4_init 37 = .ok (.bipush 19, 2) := by decide +kernel
theorem dX4_init_39 : decode cX4_init 39 = .ok (.newarray .long, 2) := by decide +kernel
theorem dX4_init_41 : decode cX4_init 41 = .ok (.putfield 25, 3) := by decide +kernel
theorem dX4_init_44 : decode cX4_init 44 = .ok (.return_, 1) := by decide +kernel
theorem dX4_has_0 : decode cX4_has 0 = .ok (.iload_n 1, 1) := by decide +kernel
theorem dX4_has_1 : decode cX4_has 1 = .ok (.ifCond .lt 15, 3) := by decide +kernel
theorem dX4_has_4 : decode cX4_has 4 = .ok (.iload_n 1, 1) := by decide +kernel
theorem dX4_has_5 : decode cX4_has 5 = .ok (.aload_n 0, 1) := by decide +kernel
theorem dX4_has_6 : decode cX4_has 6 = .ok (.getfield 28, 3) := by decide +kernel
theorem dX4_has_9 : decode cX4_has 9 = .ok (.if_icmp .ge 7, 3) := by decide +kernel
theorem dX4_has_12 : decode cX4_has 12 = .ok (.iconst 1, 1) := by decide +kernel
theorem dX4_has_13 : decode cX4_has 13 = .ok (.goto 4, 3) := by decide +kernel
theorem dX4_has_16 : decode cX4_has 16 = .ok (.iconst 0, 1) := by decide +kernel
theorem dX4_has_17 : decode cX4_has 17 = .ok (.ireturn, 1) := by decide +kernel
theorem dX4_setClusters_0 : decode cX4_setClusters 0 = .ok (.iload_n 1, 1) := by decide +kernel
theorem dX4_setClusters_1 : decode cX4_setClusters 1 = .ok (.ifCond .lt 39, 3) := by decide +kernel
theorem dX4_setClusters_4 : decode cX4_setClusters 4 = .ok (.iload_n 1, 1) := by decide +kernel
theorem dX4_setClusters_5 : decode cX4_setClusters 5 = .ok (.bipush 19, 2) := by decide +kernel
theorem dX4_setClusters_7 : decode cX4_setClusters 7 = .ok (.if_icmp .ge 33, 3) := by decide +kernel
theorem dX4_setClusters_10 : decode cX4_setClusters 10 = .ok (.aload_n 0, 1) := by decide +kernel
theorem dX4_setClusters_11 : decode cX4_setClusters 11 = .ok (.getfield 9, 3) := by decide +kernel
theorem dX4_setClusters_14 : decode cX4_setClusters 14 = .ok (.iload_n 1, 1) := by decide +kernel
theorem dX4_setClusters_15 : decode cX4_setClusters 15 = .ok (.iload_n 2, 1) := by decide +kernel
theorem dX4_setClusters_16 : decode cX4_setClusters 16 = .ok (.iload_n 3, 1) := by decide +kernel
theorem dX4_setClusters_17 : decode cX4_setClusters 17 = .ok (.invokestatic 32, 3) := by decide +kernel
theorem dX4_setClusters_20 : decode cX4_setClusters 20 = .ok (.iastore, 1) := by decide +kernel
theorem dX4_setClusters_21 : decode cX4_setClusters 21 = .ok (.aload_n 0, 1) := by decide +kernel
theorem dX4_setClusters_22 : decode cX4_setClusters 22 = .ok (.getfield 15, 3) := by decide +kernel
theorem dX4_setClusters_25 : decode cX4_setClusters 25 = .ok (.iload_n 1, 1) := by decide +kernel
theorem dX4_setClusters_26 : decode cX4_setClusters 26 = .ok (.iload_n 2, 1) := by decide +kernel
theorem dX4_setClusters_27 : decode cX4_setClusters 27 = .ok (.iload_n 3, 1) := by decide +kernel
theorem dX4_setClusters_28 : decode cX4_setClusters 28 = .ok (.invokestatic 38, 3) := by decide +kernel
theorem dX4_setClusters_31 : decode cX4_setClusters 31 = .ok (.iastore, 1) := by decide +kernel
theorem dX4_setClusters_32 : decode cX4_setClusters 32 = .ok (.aload_n 0, 1) := by decide +kernel
theorem dX4_setClusters_33 : decode cX4_setClusters 33 = .ok (.getfield 18, 3) := by decide +kernel
theorem dX4_setClusters_36 : decode cX4_setClusters 36 = .ok (.iload_n 1, 1) := by decide +kernel
theorem dX4_setClusters_37 : decode cX4_setClusters 37 = .ok (.iload 4, 2) := by decide +kernel
theorem dX4_setClusters_39 : decode cX4_setClusters 39 = .ok (.iastore, 1) := by decide +kernel
theorem dX4_setClusters_40 : decode cX4_setClusters 40 = .ok (.return_, 1) := by decide +kernel
theorem dX4_setHeight_0 : decode cX4_setHeight 0 = .ok (.iload_n 1, 1) := by decide +kernel
theorem dX4_setHeight_1 : decode cX4_setHeight 1 = .ok (.ifCond .lt 42, 3) := by decide +kernel
theorem dX4_setHeight_4 : decode cX4_setHeight 4 = .ok (.iload_n 1, 1) := by decide +kernel
theorem dX4_setHeight_5 : decode cX4_setHeight 5 = .ok (.bipush 19, 2) := by decide +kernel
theorem dX4_setHeight_7 : decode cX4_setHeight 7 = .ok (.if_icmp .ge 36, 3) := by decide +kernel
theorem dX4_setHeight_10 : decode cX4_setHeight 10 = .ok (.lload_n 2, 1) := by decide +kernel
theorem dX4_setHeight_11 : decode cX4_setHeight 11 = .ok (.lload 4, 2) := by decide +kernel
theorem dX4_setHeight_13 : decode cX4_setHeight 13 = .ok (.invokestatic 41, 3) := by decide +kernel
theorem dX4_setHeight_16 : decode cX4_setHeight 16 = .ok (.lstore 6, 2) := by decide +kernel
theorem dX4_setHeight_18 : decode cX4_setHeight 18 = .ok (.aload_n 0, 1) := by decide +kernel
theorem dX4_setHeight_19 : decode cX4_setHeight 19 = .ok (.getfield 21, 3) := by decide +kernel
theorem dX4_setHeight_22 : decode cX4_setHeight 22 = .ok (.iload_n 1, 1) := by decide +kernel
theorem dX4_setHeight_23 : decode cX4_setHeight 23 = .ok (.lload_n 2, 1) := by decide +kernel
theorem dX4_setHeight_24 : decode cX4_setHeight 24 = .ok (.lload 6, 2) := by decide +kernel
theorem dX4_setHeight_26 : decode cX4_setHeight 26 = .ok (.invokestatic 45, 3) := by decide +kernel
theorem dX4_setHeight_29 : decode cX4_setHeight 29 = .ok (.lastore, 1) := by decide +kernel
theorem dX4_setHeight_30 : decode cX4_setHeight 30 = .ok (.aload_n 0, 1) := by decide +kernel
theorem dX4_setHeight_31 : decode cX4_setHeight 31 = .ok (.getfield 25, 3) := by decide +kernel
theorem dX4_setHeight_34 : decode cX4_setHeight 34 = .ok (.iload_n 1, 1) := by decide +kernel
theorem dX4_setHeight_35 : decode cX4_setHeight 35 = .ok (.lload 4, 2) := by decide +kernel
theorem dX4_setHeight_37 : decode cX4_setHeight 37 = .ok (.lload 6, 2) := by decide +kernel
theorem dX4_setHeight_39 : decode cX4_setHeight 39 = .ok (.invokestatic 45, 3) := by decide +kernel
theorem dX4_setHeight_42 : decode cX4_setHeight 42 = .ok (.lastore, 1) := by decide +kernel
theorem dX4_setHeight_43 : decode cX4_setHeight 43 = .ok (.return_, 1) := by decide +kernel
theorem dX4_rankOf_0 : decode cX4_rankOf 0 = .ok (.iconst 0, 1) := by decide +kernel
theorem dX4_rankOf_1 : decode cX4_rankOf 1 = .ok (.istore_n 2, 1) := by decide +kernel
theorem dX4_rankOf_2 : decode cX4_rankOf 2 = .ok (.iconst 0, 1) := by decide +kernel
theorem dX4_rankOf_3 : decode cX4_rankOf 3 = .ok (.istore_n 3, 1) := by decide +kernel
theorem dX4_rankOf_4 : decode cX4_rankOf 4 = .ok (.iload_n 3, 1) := by decide +kernel
theorem dX4_rankOf_5 : decode cX4_rankOf 5 = .ok (.aload_n 0, 1) := by decide +kernel
theorem dX4_rankOf_6 : decode cX4_rankOf 6 = .ok (.getfield 28, 3) := by decide +kernel
theorem dX4_rankOf_9 : decode cX4_rankOf 9 = .ok (.if_icmp .ge 58, 3) := by decide +kernel
theorem dX4_rankOf_12 : decode cX4_rankOf 12 = .ok (.aload_n 0, 1) := by decide +kernel
theorem dX4_rankOf_13 : decode cX4_rankOf 13 = .ok (.getfield 21, 3) := by decide +kernel
theorem dX4_rankOf_16 : decode cX4_rankOf 16 = .ok (.iload_n 3, 1) := by decide +kernel
theorem dX4_rankOf_17 : decode cX4_rankOf 17 = .ok (.laload, 1) := by decide +kernel
theorem dX4_rankOf_18 : decode cX4_rankOf 18 = .ok (.aload_n 0, 1) := by decide +kernel
theorem dX4_rankOf_19 : decode cX4_rankOf 19 = .ok (.getfield 25, 3) := by decide +kernel
theorem dX4_rankOf_22 : decode cX4_rankOf 22 = .ok (.iload_n 1, 1) := by decide +kernel
theorem dX4_rankOf_23 : decode cX4_rankOf 23 = .ok (.laload, 1) := by decide +kernel
theorem dX4_rankOf_24 : decode cX4_rankOf 24 = .ok (.lmul, 1) := by decide +kernel
theorem dX4_rankOf_25 : decode cX4_rankOf 25 = .ok (.aload_n 0, 1) := by decide +kernel
theorem dX4_rankOf_26 : decode cX4_rankOf 26 = .ok (.getfield 21, 3) := by decide +kernel
theorem dX4_rankOf_29 : decode cX4_rankOf 29 = .ok (.iload_n 1, 1) := by decide +kernel
theorem dX4_rankOf_30 : decode cX4_rankOf 30 = .ok (.laload, 1) := by decide +kernel
theorem dX4_rankOf_31 : decode cX4_rankOf 31 = .ok (.aload_n 0, 1) := by decide +kernel
theorem dX4_rankOf_32 : decode cX4_rankOf 32 = .ok (.getfield 25, 3) := by decide +kernel
theorem dX4_rankOf_35 : decode cX4_rankOf 35 = .ok (.iload_n 3, 1) := by decide +kernel
theorem dX4_rankOf_36 : decode cX4_rankOf 36 = .ok (.laload, 1) := by decide +kernel
theorem dX4_rankOf_37 : decode cX4_rankOf 37 = .ok (.lmul, 1) := by decide +kernel
theorem dX4_rankOf_38 : decode cX4_rankOf 38 = .ok (.invokestatic 48, 3) := by decide +kernel
theorem dX4_rankOf_41 : decode cX4_rankOf 41 = .ok (.istore 4, 2) := by decide +kernel
theorem dX4_rankOf_43 : decode cX4_rankOf 43 = .ok (.iload 4, 2) := by decide +kernel
theorem dX4_rankOf_45 : decode cX4_rankOf 45 = .ok (.ifCond .lt 13, 3) := by decide +kernel
theorem dX4_rankOf_48 : decode cX4_rankOf 48 = .ok (.iload 4, 2) := by decide +kernel
theorem dX4_rankOf_50 : decode cX4_rankOf 50 = .ok (.ifCond .ne 11, 3) := by decide +kernel
theorem dX4_rankOf_53 : decode cX4_rankOf 53 = .ok (.iload_n 3, 1) := by decide +kernel
theorem dX4_rankOf_54 : decode cX4_rankOf 54 = .ok (.iload_n 1, 1) := by decide +kernel
theorem dX4_rankOf_55 : decode cX4_rankOf 55 = .ok (.if_icmp .ge 6, 3) := by decide +kernel
theorem dX4_rankOf_58 : decode cX4_rankOf 58 = .ok (.iinc 2 1, 3) := by decide +kernel
theorem dX4_rankOf_61 : decode cX4_rankOf 61 = .ok (.iinc 3 1, 3) := by decide +kernel
theorem dX4_rankOf_64 : decode cX4_rankOf 64 = .ok (.goto (-60), 3) := by decide +kernel
theorem dX4_rankOf_67 : decode cX4_rankOf 67 = .ok (.iload_n 2, 1) := by decide +kernel
theorem dX4_rankOf_68 : decode cX4_rankOf 68 = .ok (.ireturn, 1) := by decide +kernel
theorem dX4_firstWithAll_0 : decode cX4_firstWithAll 0 = .ok (.iconst 0, 1) := by decide +kernel
theorem dX4_firstWithAll_1 : decode cX4_firstWithAll 1 = .ok (.istore_n 2, 1) := by decide +kernel
theorem dX4_firstWithAll_2 : decode cX4_firstWithAll 2 = .ok (.iload_n 2, 1) := by decide +kernel
theorem dX4_firstWithAll_3 : decode cX4_firstWithAll 3 = .ok (.aload_n 0, 1) := by decide +kernel
theorem dX4_firstWithAll_4 : decode cX4_firstWithAll 4 = .ok (.getfield 28, 3) := by decide +kernel
theorem dX4_firstWithAll_7 : decode cX4_firstWithAll 7 = .ok (.if_icmp .ge 23, 3) := by decide +kernel
theorem dX4_firstWithAll_10 : decode cX4_firstWithAll 10 = .ok (.aload_n 0, 1) := by decide +kernel
theorem dX4_firstWithAll_11 : decode cX4_firstWithAll 11 = .ok (.getfield 18, 3) := by decide +kernel
theorem dX4_firstWithAll_14 : decode cX4_firstWithAll 14 = .ok (.iload_n 2, 1) := by decide +kernel
theorem dX4_firstWithAll_15 : decode cX4_firstWithAll 15 = .ok (.iaload, 1) := by decide +kernel
theorem dX4_firstWithAll_16 : decode cX4_firstWithAll 16 = .ok (.iload_n 1, 1) := by decide +kernel
theorem dX4_firstWithAll_17 : decode cX4_firstWithAll 17 = .ok (.iand, 1) := by decide +kernel
theorem dX4_firstWithAll_18 : decode cX4_firstWithAll 18 = .ok (.iload_n 1, 1) := by decide +kernel
theorem dX4_firstWithAll_19 : decode cX4_firstWithAll 19 = .ok (.if_icmp .ne 5, 3) := by decide +kernel
theorem dX4_firstWithAll_22 : decode cX4_firstWithAll 22 = .ok (.iload_n 2, 1) := by decide +kernel
theorem dX4_firstWithAll_23 : decode cX4_firstWithAll 23 = .ok (.ireturn, 1) := by decide +kernel
theorem dX4_firstWithAll_24 : decode cX4_firstWithAll 24 = .ok (.iinc 2 1, 3) := by decide +kernel
theorem dX4_firstWithAll_27 : decode cX4_firstWithAll 27 = .ok (.goto (-25), 3) := by decide +kernel
theorem dX4_firstWithAll_30 : decode cX4_firstWithAll 30 = .ok (.iconst (-1), 1) := by decide +kernel
theorem dX4_firstWithAll_31 : decode cX4_firstWithAll 31 = .ok (.ireturn, 1) := by decide +kernel
theorem dX4_isLike_0 : decode cX4_isLike 0 = .ok (.aload_n 0, 1) := by decide +kernel
theorem dX4_isLike_1 : decode cX4_isLike 1 = .ok (.getfield 28, 3) := by decide +kernel
theorem dX4_isLike_4 : decode cX4_isLike 4 = .ok (.aload_n 1, 1) := by decide +kernel
theorem dX4_isLike_5 : decode cX4_isLike 5 = .ok (.getfield 28, 3) := by decide +kernel
theorem dX4_isLike_8 : decode cX4_isLike 8 = .ok (.if_icmp .eq 5, 3) := by decide +kernel
theorem dX4_isLike_11 : decode cX4_isLike 11 = .ok (.iconst 0, 1) := by decide +kernel
theorem dX4_isLike_12 : decode cX4_isLike 12 = .ok (.ireturn, 1) := by decide +kernel
theorem dX4_isLike_13 : decode cX4_isLike 13 = .ok (.iconst 0, 1) := by decide +kernel
theorem dX4_isLike_14 : decode cX4_isLike 14 = .ok (.istore_n 2, 1) := by decide +kernel
theorem dX4_isLike_15 : decode cX4_isLike 15 = .ok (.iload_n 2, 1) := by decide +kernel
theorem dX4_isLike_16 : decode cX4_isLike 16 = .ok (.aload_n 0, 1) := by decide +kernel
theorem dX4_isLike_17 : decode cX4_isLike 17 = .ok (.getfield 28, 3) := by decide +kernel
theorem dX4_isLike_20 : decode cX4_isLike 20 = .ok (.if_icmp .ge 73, 3) := by decide +kernel
theorem dX4_isLike_23 : decode cX4_isLike 23 = .ok (.aload_n 0, 1) := by decide +kernel
theorem dX4_isLike_24 : decode cX4_isLike 24 = .ok (.getfield 9, 3) := by decide +kernel
theorem dX4_isLike_27 : decode cX4_isLike 27 = .ok (.iload_n 2, 1) := by decide +kernel
theorem dX4_isLike_28 : decode cX4_isLike 28 = .ok (.iaload, 1) := by decide +kernel
theorem dX4_isLike_29 : decode cX4_isLike 29 = .ok (.aload_n 1, 1) := by decide +kernel
theorem dX4_isLike_30 : decode cX4_isLike 30 = .ok (.getfield 9, 3) := by decide +kernel
theorem dX4_isLike_33 : decode cX4_isLike 33 = .ok (.iload_n 2, 1) := by decide +kernel
theorem dX4_isLike_34 : decode cX4_isLike 34 = .ok (.iaload, 1) := by decide +kernel
theorem dX4_isLike_35 : decode cX4_isLike 35 = .ok (.if_icmp .ne 50, 3) := by decide +kernel
theorem dX4_isLike_38 : decode cX4_isLike 38 = .ok (.aload_n 0, 1) := by decide +kernel
theorem dX4_isLike_39 : decode cX4_isLike 39 = .ok (.getfield 15, 3) := by decide +kernel
theorem dX4_isLike_42 : decode cX4_isLike 42 = .ok (.iload_n 2, 1) := by decide +kernel
theorem dX4_isLike_43 : decode cX4_isLike 43 = .ok (.iaload, 1) := by decide +kernel
theorem dX4_isLike_44 : decode cX4_isLike 44 = .ok (.aload_n 1, 1) := by decide +kernel
theorem dX4_isLike_45 : decode cX4_isLike 45 = .ok (.getfield 15, 3) := by decide +kernel
theorem dX4_isLike_48 : decode cX4_isLike 48 = .ok (.iload_n 2, 1) := by decide +kernel
theorem dX4_isLike_49 : decode cX4_isLike 49 = .ok (.iaload, 1) := by decide +kernel
theorem dX4_isLike_50 : decode cX4_isLike 50 = .ok (.if_icmp .ne 35, 3) := by decide +kernel
theorem dX4_isLike_53 : decode cX4_isLike 53 = .ok (.aload_n 0, 1) := by decide +kernel
theorem dX4_isLike_54 : decode cX4_isLike 54 = .ok (.getfield 21, 3) := by decide +kernel
theorem dX4_isLike_57 : decode cX4_isLike 57 = .ok (.iload_n 2, 1) := by decide +kernel
theorem dX4_isLike_58 : decode cX4_isLike 58 = .ok (.laload, 1) := by decide +kernel
theorem dX4_isLike_59 : decode cX4_isLike 59 = .ok (.aload_n 1, 1) := by decide +kernel
theorem dX4_isLike_60 : decode cX4_isLike 60 = .ok (.getfield 21, 3) := by decide +kernel
theorem dX4_isLike_63 : decode cX4_isLike 63 = .ok (.iload_n 2, 1) := by decide +kernel
theorem dX4_isLike_64 : decode cX4_isLike 64 = .ok (.laload, 1) := by decide +kernel
theorem dX4_isLike_65 : decode cX4_isLike 65 = .ok (.lcmp, 1) := by decide +kernel
theorem dX4_isLike_66 : decode cX4_isLike 66 = .ok (.ifCond .ne 19, 3) := by decide +kernel
theorem dX4_isLike_69 : decode cX4_isLike 69 = .ok (.aload_n 0, 1) := by decide +kernel
theorem dX4_isLike_70 : decode cX4_isLike 70 = .ok (.getfield 25, 3) := by decide +kernel
theorem dX4_isLike_73 : decode cX4_isLike 73 = .ok (.iload_n 2, 1) := by decide +kernel
theorem dX4_isLike_74 : decode cX4_isLike 74 = .ok (.laload, 1) := by decide +kernel
theorem dX4_isLike_75 : decode cX4_isLike 75 = .ok (.aload_n 1, 1) := by decide +kernel
theorem dX4_isLike_76 : decode cX4_isLike 76 = .ok (.getfield 25, 3) := by decide +kernel
theorem dX4_isLike_79 : decode cX4_isLike 79 = .ok (.iload_n 2, 1) := by decide +kernel
theorem dX4_isLike_80 : decode cX4_isLike 80 = .ok (.laload, 1) := by decide +kernel
theorem dX4_isLike_81 : decode cX4_isLike 81 = .ok (.lcmp, 1) := by decide +kernel
theorem dX4_isLike_82 : decode cX4_isLike 82 = .ok (.ifCond .eq 5, 3) := by decide +kernel
theorem dX4_isLike_85 : decode cX4_isLike 85 = .ok (.iconst 0, 1) := by decide +kernel
theorem dX4_isLike_86 : decode cX4_isLike 86 = .ok (.ireturn, 1) := by decide +kernel
theorem dX4_isLike_87 : decode cX4_isLike 87 = .ok (.iinc 2 1, 3) := by decide +kernel
theorem dX4_isLike_90 : decode cX4_isLike 90 = .ok (.goto (-75), 3) := by decide +kernel
theorem dX4_isLike_93 : decode cX4_isLike 93 = .ok (.iconst 1, 1) := by decide +kernel
theorem dX4_isLike_94 : decode cX4_isLike 94 = .ok (.ireturn, 1) := by decide +kernel
theorem dX4_countUpTo_0 : decode cX4_countUpTo 0 = .ok (.iconst 0, 1) := by decide +kernel
theorem dX4_countUpTo_1 : decode cX4_countUpTo 1 = .ok (.istore 5, 2) := by decide +kernel
theorem dX4_countUpTo_3 : decode cX4_countUpTo 3 = .ok (.iconst 0, 1) := by decide +kernel
theorem dX4_countUpTo_4 : decode cX4_countUpTo 4 = .ok (.istore 6, 2) := by decide +kernel
theorem dX4_countUpTo_6 : decode cX4_countUpTo 6 = .ok (.iload 6, 2) := by decide +kernel
theorem dX4_countUpTo_8 : decode cX4_countUpTo 8 = .ok (.aload_n 0, 1) := by decide +kernel
theorem dX4_countUpTo_9 : decode cX4_countUpTo 9 = .ok (.getfield 28, 3) := by decide +kernel
theorem dX4_countUpTo_12 : decode cX4_countUpTo 12 = .ok (.if_icmp .ge 34, 3) := by decide +kernel
theorem dX4_countUpTo_15 : decode cX4_countUpTo 15 = .ok (.aload_n 0, 1) := by decide +kernel
theorem dX4_countUpTo_16 : decode cX4_countUpTo 16 = .ok (.getfield 21, 3) := by decide +kernel
theorem dX4_countUpTo_19 : decode cX4_countUpTo 19 = .ok (.iload 6, 2) := by decide +kernel
theorem dX4_countUpTo_21 : decode cX4_countUpTo 21 = .ok (.laload, 1) := by decide +kernel
theorem dX4_countUpTo_22 : decode cX4_countUpTo 22 = .ok (.lload_n 3, 1) := by decide +kernel
theorem dX4_countUpTo_23 : decode cX4_countUpTo 23 = .ok (.lmul, 1) := by decide +kernel
theorem dX4_countUpTo_24 : decode cX4_countUpTo 24 = .ok (.lload_n 1, 1) := by decide +kernel
theorem dX4_countUpTo_25 : decode cX4_countUpTo 25 = .ok (.aload_n 0, 1) := by decide +kernel
theorem dX4_countUpTo_26 : decode cX4_countUpTo 26 = .ok (.getfield 25, 3) := by decide +kernel
theorem dX4_countUpTo_29 : decode cX4_countUpTo 29 = .ok (.iload 6, 2) := by decide +kernel
theorem dX4_countUpTo_31 : decode cX4_countUpTo 31 = .ok (.laload, 1) := by decide +kernel
theorem dX4_countUpTo_32 : decode cX4_countUpTo 32 = .ok (.lmul, 1) := by decide +kernel
theorem dX4_countUpTo_33 : decode cX4_countUpTo 33 = .ok (.lcmp, 1) := by decide +kernel
theorem dX4_countUpTo_34 : decode cX4_countUpTo 34 = .ok (.ifCond .gt 6, 3) := by decide +kernel
theorem dX4_countUpTo_37 : decode cX4_countUpTo 37 = .ok (.iinc 5 1, 3) := by decide +kernel
theorem dX4_countUpTo_40 : decode cX4_countUpTo 40 = .ok (.iinc 6 1, 3) := by decide +kernel
theorem dX4_countUpTo_43 : decode cX4_countUpTo 43 = .ok (.goto (-37), 3) := by decide +kernel
theorem dX4_countUpTo_46 : decode cX4_countUpTo 46 = .ok (.iload 5, 2) := by decide +kernel
theorem dX4_countUpTo_48 : decode cX4_countUpTo 48 = .ok (.ireturn, 1) := by decide +kernel
