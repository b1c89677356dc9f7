theorem dX6_init_0 : decode cX6_init 0 = .ok (.aload_n 0, 1) := by decide +kernel
theorem dX6_init_1 : decode cX6_init 1 = .ok (.invokespecial 3, 3) := by decide +kernel
theorem dX6_init_4 : decode cX6_init 4 = .ok (.aload_n 0, 1) := by decide +kernel
theorem dX6_init_5 : decode cX6_init 5 = .ok (.new 9, 3) := by decide +kernel
theorem dX6_init_8 : decode cX6_init 8 = .ok (.dup, 1) := by decide +kernel
theorem dX6_init_9 : decode cX6_init 9 = .ok (.invokespecial 11, 3) := by decide +kernel
theorem dX6_init_12 : decode cX6_init 12 = .ok (.putfield 12, 3) := by decide +kernel
theorem dX6_init_15 : decode cX6_init 15 = .ok (.aload_n 0, 1) := by decide +kernel
theorem dX6_init_16 : decode cX6_init 16 = .ok (.bipush 20, 2) := by decide +kernel
theorem dX6_init_18 : decode cX6_init 18 = .ok (.newarray .int, 2) := by decide +kernel
theorem dX6_init_20 : decode cX6_init 20 = .ok (.putfield 18, 3) := by decide +kernel
theorem dX6_init_23 : decode cX6_init 23 = .ok (.return_, 1) := by decide +kernel
theorem dX6_has_0 : decode cX6_has 0 = .ok (.iload_n 1, 1) := by decide +kernel
theorem dX6_has_1 : decode cX6_has 1 = .ok (.ifCond .lt 15, 3) := by decide +kernel
theorem dX6_has_4 : decode cX6_has 4 = .ok (.iload_n 1, 1) := by decide +kernel
theorem dX6_has_5 : decode cX6_has 5 = .ok (.aload_n 0, 1) := by decide +kernel
theorem dX6_has_6 : decode cX6_has 6 = .ok (.getfield 22, 3) := by decide +kernel
theorem dX6_has_9 : decode cX6_has 9 = .ok (.if_icmp .ge 7, 3) := by decide +kernel
theorem dX6_has_12 : decode cX6_has 12 = .ok (.iconst 1, 1) := by decide +kernel
theorem dX6_has_13 : decode cX6_has 13 = .ok (.goto 4, 3) := by decide +kernel
theorem dX6_has_16 : decode cX6_has 16 = .ok (.iconst 0, 1) := by decide +kernel
theorem dX6_has_17 : decode cX6_has 17 = .ok (.ireturn, 1) := by decide +kernel
theorem dX6_lastCluster_0 : decode cX6_lastCluster 0 = .ok (.aload_n 0, 1) := by decide +kernel
theorem dX6_lastCluster_1 : decode cX6_lastCluster 1 = .ok (.getfield 22, 3) := by decide +kernel
theorem dX6_lastCluster_4 : decode cX6_lastCluster 4 = .ok (.aload_n 0, 1) := by decide +kernel
theorem dX6_lastCluster_5 : decode cX6_lastCluster 5 = .ok (.getfield 12, 3) := by decide +kernel
theorem dX6_lastCluster_8 : decode cX6_lastCluster 8 = .ok (.getfield 26, 3) := by decide +kernel
theorem dX6_lastCluster_11 : decode cX6_lastCluster 11 = .ok (.iadd, 1) := by decide +kernel
theorem dX6_lastCluster_12 : decode cX6_lastCluster 12 = .ok (.iconst 1, 1) := by decide +kernel
theorem dX6_lastCluster_13 : decode cX6_lastCluster 13 = .ok (.isub, 1) := by decide +kernel
theorem dX6_lastCluster_14 : decode cX6_lastCluster 14 = .ok (.ireturn, 1) := by decide +kernel
theorem dX6_bitsOf_0 : decode cX6_bitsOf 0 = .ok (.iload_n 1, 1) := by decide +kernel
theorem dX6_bitsOf_1 : decode cX6_bitsOf 1 = .ok (.aload_n 0, 1) := by decide +kernel
theorem dX6_bitsOf_2 : decode cX6_bitsOf 2 = .ok (.getfield 22, 3) := by decide +kernel
theorem dX6_bitsOf_5 : decode cX6_bitsOf 5 = .ok (.if_icmp .ge 7, 3) := by decide +kernel
theorem dX6_bitsOf_8 : decode cX6_bitsOf 8 = .ok (.iconst 1, 1) := by decide +kernel
theorem dX6_bitsOf_9 : decode cX6_bitsOf 9 = .ok (.iload_n 1, 1) := by decide +kernel
theorem dX6_bitsOf_10 : decode cX6_bitsOf 10 = .ok (.ishl, 1) := by decide +kernel
theorem dX6_bitsOf_11 : decode cX6_bitsOf 11 = .ok (.ireturn, 1) := by decide +kernel
theorem dX6_bitsOf_12 : decode cX6_bitsOf 12 = .ok (.aload_n 0, 1) := by decide +kernel
theorem dX6_bitsOf_13 : decode cX6_bitsOf 13 = .ok (.getfield 12, 3) := by decide +kernel
theorem dX6_bitsOf_16 : decode cX6_bitsOf 16 = .ok (.iload_n 1, 1) := by decide +kernel
theorem dX6_bitsOf_17 : decode cX6_bitsOf 17 = .ok (.aload_n 0, 1) := by decide +kernel
theorem dX6_bitsOf_18 : decode cX6_bitsOf 18 = .ok (.getfield 22, 3) := by decide +kernel
theorem dX6_bitsOf_21 : decode cX6_bitsOf 21 = .ok (.isub, 1) := by decide +kernel
theorem dX6_bitsOf_22 : decode cX6_bitsOf 22 = .ok (.invokevirtual 29, 3) := by decide +kernel
theorem dX6_bitsOf_25 : decode cX6_bitsOf 25 = .ok (.ifCond .eq 20, 3) := by decide +kernel
theorem dX6_bitsOf_28 : decode cX6_bitsOf 28 = .ok (.aload_n 0, 1) := by decide +kernel
theorem dX6_bitsOf_29 : decode cX6_bitsOf 29 = .ok (.getfield 12, 3) := by decide +kernel
theorem dX6_bitsOf_32 : decode cX6_bitsOf 32 = .ok (.getfield 33, 3) := by decide +kernel
theorem dX6_bitsOf_35 : decode cX6_bitsOf 35 = .ok (.iload_n 1, 1) := by decide +kernel
theorem dX6_bitsOf_36 : decode cX6_bitsOf 36 = .ok (.aload_n 0, 1) := by decide +kernel
theorem dX6_bitsOf_37 : decode cX6_bitsOf 37 = .ok (.getfield 22, 3) := by decide +kernel
theorem dX6_bitsOf_40 : decode cX6_bitsOf 40 = .ok (.isub, 1) := by decide +kernel
theorem dX6_bitsOf_41 : decode cX6_bitsOf 41 = .ok (.iaload, 1) := by decide +kernel
theorem dX6_bitsOf_42 : decode cX6_bitsOf 42 = .ok (.goto 4, 3) := by decide +kernel
theorem dX6_bitsOf_45 : decode cX6_bitsOf 45 = .ok (.iconst 0, 1) := by decide +kernel
theorem dX6_bitsOf_46 : decode cX6_bitsOf 46 = .ok (.ireturn, 1) := by decide +kernel
theorem dX6_isFirstLeading_0 : decode cX6_isFirstLeading 0 = .ok (.aload_n 0, 1) := by decide +kernel
theorem dX6_isFirstLeading_1 : decode cX6_isFirstLeading 1 = .ok (.aload_n 0, 1) := by decide +kernel
theorem dX6_isFirstLeading_2 : decode cX6_isFirstLeading 2 = .ok (.getfield 12, 3) := by decide +kernel
theorem dX6_isFirstLeading_5 : decode cX6_isFirstLeading 5 = .ok (.getfield 36, 3) := by decide +kernel
theorem dX6_isFirstLeading_8 : decode cX6_isFirstLeading 8 = .ok (.iload_n 1, 1) := by decide +kernel
theorem dX6_isFirstLeading_9 : decode cX6_isFirstLeading 9 = .ok (.iaload, 1) := by decide +kernel
theorem dX6_isFirstLeading_10 : decode cX6_isFirstLeading 10 = .ok (.invokevirtual 39, 3) := by decide +kernel
theorem dX6_isFirstLeading_13 : decode cX6_isFirstLeading 13 = .ok (.istore_n 2, 1) := by decide +kernel
theorem dX6_isFirstLeading_14 : decode cX6_isFirstLeading 14 = .ok (.aload_n 0, 1) := by decide +kernel
theorem dX6_isFirstLeading_15 : decode cX6_isFirstLeading 15 = .ok (.aload_n 0, 1) := by decide +kernel
theorem dX6_isFirstLeading_16 : decode cX6_isFirstLeading 16 = .ok (.getfield 12, 3) := by decide +kernel
theorem dX6_isFirstLeading_19 : decode cX6_isFirstLeading 19 = .ok (.getfield 43, 3) := by decide +kernel
theorem dX6_isFirstLeading_22 : decode cX6_isFirstLeading 22 = .ok (.iload_n 1, 1) := by decide +kernel
theorem dX6_isFirstLeading_23 : decode cX6_isFirstLeading 23 = .ok (.iaload, 1) := by decide +kernel
theorem dX6_isFirstLeading_24 : decode cX6_isFirstLeading 24 = .ok (.invokevirtual 39, 3) := by decide +kernel
theorem dX6_isFirstLeading_27 : decode cX6_isFirstLeading 27 = .ok (.istore_n 3, 1) := by decide +kernel
theorem dX6_isFirstLeading_28 : decode cX6_isFirstLeading 28 = .ok (.iload_n 2, 1) := by decide +kernel
theorem dX6_isFirstLeading_29 : decode cX6_isFirstLeading 29 = .ok (.iload_n 2, 1) := by decide +kernel
theorem dX6_isFirstLeading_30 : decode cX6_isFirstLeading 30 = .ok (.ineg, 1) := by decide +kernel
theorem dX6_isFirstLeading_31 : decode cX6_isFirstLeading 31 = .ok (.iand, 1) := by decide +kernel
theorem dX6_isFirstLeading_32 : decode cX6_isFirstLeading 32 = .ok (.iload_n 3, 1) := by decide +kernel
theorem dX6_isFirstLeading_33 : decode cX6_isFirstLeading 33 = .ok (.iload_n 3, 1) := by decide +kernel
theorem dX6_isFirstLeading_34 : decode cX6_isFirstLeading 34 = .ok (.ineg, 1) := by decide +kernel
theorem dX6_isFirstLeading_35 : decode cX6_isFirstLeading 35 = .ok (.iand, 1) := by decide +kernel
theorem dX6_isFirstLeading_36 : decode cX6_isFirstLeading 36 = .ok (.if_icmp .ge 7, 3) := by decide +kernel
theorem dX6_isFirstLeading_39 : decode cX6_isFirstLeading 39 = .ok (.iconst 1, 1) := by decide +kernel
theorem dX6_isFirstLeading_40 : decode cX6_isFirstLeading 40 = .ok (.goto 4, 3) := by decide +kernel
theorem dX6_isFirstLeading_43 : decode cX6_isFirstLeading 43 = .ok (.iconst 0, 1) := by decide +kernel
theorem dX6_isFirstLeading_44 : decode cX6_isFirstLeading 44 = .ok (.ireturn, 1) := by decide +kernel
theorem dX6_leading_0 : decode cX6_leading 0 = .ok (.aload_n 0, 1) := by decide +kernel
theorem dX6_leading_1 : decode cX6_leading 1 = .ok (.iload_n 1, 1) := by decide +kernel
theorem dX6_leading_2 : decode cX6_leading 2 = .ok (.invokevirtual 46, 3) := by decide +kernel
theorem dX6_leading_5 : decode cX6_leading 5 = .ok (.ifCond .eq 15, 3) := by decide +kernel
theorem dX6_leading_8 : decode cX6_leading 8 = .ok (.aload_n 0, 1) := by decide +kernel
theorem dX6_leading_9 : decode cX6_leading 9 = .ok (.getfield 12, 3) := by decide +kernel
theorem dX6_leading_12 : decode cX6_leading 12 = .ok (.getfield 36, 3) := by decide +kernel
theorem dX6_leading_15 : decode cX6_leading 15 = .ok (.iload_n 1, 1) := by decide +kernel
theorem dX6_leading_16 : decode cX6_leading 16 = .ok (.iaload, 1) := by decide +kernel
theorem dX6_leading_17 : decode cX6_leading 17 = .ok (.goto 12, 3) := by decide +kernel
theorem dX6_leading_20 : decode cX6_leading 20 = .ok (.aload_n 0, 1) := by decide +kernel
theorem dX6_leading_21 : decode cX6_leading 21 = .ok (.getfield 12, 3) := by decide +kernel
theorem dX6_leading_24 : decode cX6_leading 24 = .ok (.getfield 43, 3) := by decide +kernel
theorem dX6_leading_27 : decode cX6_leading 27 = .ok (.iload_n 1, 1) := by decide +kernel
theorem dX6_leading_28 : decode cX6_leading 28 = .ok (.iaload, 1) := by decide +kernel
theorem dX6_leading_29 : decode cX6_leading 29 = .ok (.ireturn, 1) := by decide +kernel
theorem dX6_trailing_0 : decode cX6_trailing 0 = .ok (.aload_n 0, 1) := by decide +kernel
theorem dX6_trailing_1 : decode cX6_trailing 1 = .ok (.iload_n 1, 1) := by decide +kernel
theorem dX6_trailing_2 : decode cX6_trailing 2 = .ok (.invokevirtual 46, 3) := by decide +kernel
theorem dX6_trailing_5 : decode cX6_trailing 5 = .ok (.ifCond .eq 15, 3) := by decide +kernel
theorem dX6_trailing_8 : decode cX6_trailing 8 = .ok (.aload_n 0, 1) := by decide +kernel
theorem dX6_trailing_9 : decode cX6_trailing 9 = .ok (.getfield 12, 3) := by decide +kernel
theorem dX6_trailing_12 : decode cX6_trailing 12 = .ok (.getfield 43, 3) := by decide +kernel
theorem dX6_trailing_15 : decode cX6_trailing 15 = .ok (.iload_n 1, 1) := by decide +kernel
theorem dX6_trailing_16 : decode cX6_trailing 16 = .ok (.iaload, 1) := by decide +kernel
theorem dX6_trailing_17 : decode cX6_trailing 17 = .ok (.goto 12, 3) := by decide +kernel
theorem dX6_trailing_20 : decode cX6_trailing 20 = .ok (.aload_n 0, 1) := by decide +kernel
theorem dX6_trailing_21 : decode cX6_trailing 21 = .ok (.getfield 12, 3) := by decide +kernel
theorem dX6_trailing_24 : decode cX6_trailing 24 = .ok (.getfield 36, 3) := by decide +kernel
theorem dX6_trailing_27 : decode cX6_trailing 27 = .ok (.iload_n 1, 1) := by decide +kernel
theorem dX6_trailing_28 : decode cX6_trailing 28 = .ok (.iaload, 1) := by decide +kernel
theorem dX6_trailing_29 : decode cX6_trailing 29 = .ok (.ireturn, 1) := by decide +kernel
theorem dX6_pointInOrder_0 : decode cX6_pointInOrder 0 = .ok (.aload_n 0, 1) := by decide +kernel
theorem dX6_pointInOrder_1 : decode cX6_pointInOrder 1 = .ok (.invokevirtual 49, 3) := by decide +kernel
theorem dX6_pointInOrder_4 : decode cX6_pointInOrder 4 = .ok (.istore_n 2, 1) := by decide +kernel
theorem dX6_pointInOrder_5 : decode cX6_pointInOrder 5 = .ok (.iload_n 1, 1) := by decide +kernel
theorem dX6_pointInOrder_6 : decode cX6_pointInOrder 6 = .ok (.istore_n 3, 1) := by decide +kernel
theorem dX6_pointInOrder_7 : decode cX6_pointInOrder 7 = .ok (.iconst 0, 1) := by decide +kernel
theorem dX6_pointInOrder_8 : decode cX6_pointInOrder 8 = .ok (.istore 4, 2) := by decide +kernel
theorem dX6_pointInOrder_10 : decode cX6_pointInOrder 10 = .ok (.iload 4, 2) := by decide +kernel
theorem dX6_pointInOrder_12 : decode cX6_pointInOrder 12 = .ok (.bipush 19, 2) := by decide +kernel
theorem dX6_pointInOrder_14 : decode cX6_pointInOrder 14 = .ok (.if_icmp .ge 76, 3) := by decide +kernel
theorem dX6_pointInOrder_17 : decode cX6_pointInOrder 17 = .ok (.aload_n 0, 1) := by decide +kernel
theorem dX6_pointInOrder_18 : decode cX6_pointInOrder 18 = .ok (.getfield 12, 3) := by decide +kernel
theorem dX6_pointInOrder_21 : decode cX6_pointInOrder 21 = .ok (.iload_n 2, 1) := by decide +kernel
theorem dX6_pointInOrder_22 : decode cX6_pointInOrder 22 = .ok (.aload_n 0, 1) := by decide +kernel
theorem dX6_pointInOrder_23 : decode cX6_pointInOrder 23 = .ok (.getfield 22, 3) := by decide +kernel
theorem dX6_pointInOrder_26 : decode cX6_pointInOrder 26 = .ok (.isub, 1) := by decide +kernel
theorem dX6_pointInOrder_27 : decode cX6_pointInOrder 27 = .ok (.invokevirtual 29, 3) := by decide +kernel
theorem dX6_pointInOrder_30 : decode cX6_pointInOrder 30 = .ok (.ifCond .eq 60, 3) := by decide +kernel
theorem dX6_pointInOrder_33 : decode cX6_pointInOrder 33 = .ok (.iload_n 2, 1) := by decide +kernel
theorem dX6_pointInOrder_34 : decode cX6_pointInOrder 34 = .ok (.aload_n 0, 1) := by decide +kernel
theorem dX6_pointInOrder_35 : decode cX6_pointInOrder 35 = .ok (.getfield 22, 3) := by decide +kernel
theorem dX6_pointInOrder_38 : decode cX6_pointInOrder 38 = .ok (.isub, 1) := by decide +kernel
theorem dX6_pointInOrder_39 : decode cX6_pointInOrder 39 = .ok (.istore 5, 2) := by decide +kernel
theorem dX6_pointInOrder_41 : decode cX6_pointInOrder 41 = .ok (.aload_n 0, 1) := by decide +kernel
theorem dX6_pointInOrder_42 : decode cX6_pointInOrder 42 = .ok (.aload_n 0, 1) := by decide +kernel
theorem dX6_pointInOrder_43 : decode cX6_pointInOrder 43 = .ok (.iload 5, 2) := by decide +kernel
theorem dX6_pointInOrder_45 : decode cX6_pointInOrder 45 = .ok (.invokevirtual 53, 3) := by decide +kernel
theorem dX6_pointInOrder_48 : decode cX6_pointInOrder 48 = .ok (.invokevirtual 39, 3) := by decide +kernel
theorem dX6_pointInOrder_51 : decode cX6_pointInOrder 51 = .ok (.invokestatic 56, 3) := by decide +kernel
theorem dX6_pointInOrder_54 : decode cX6_pointInOrder 54 = .ok (.istore 6, 2) := by decide +kernel
theorem dX6_pointInOrder_56 : decode cX6_pointInOrder 56 = .ok (.iload_n 3, 1) := by decide +kernel
theorem dX6_pointInOrder_57 : decode cX6_pointInOrder 57 = .ok (.iload 6, 2) := by decide +kernel
theorem dX6_pointInOrder_59 : decode cX6_pointInOrder 59 = .ok (.if_icmp .ge 13, 3) := by decide +kernel
theorem dX6_pointInOrder_62 : decode cX6_pointInOrder 62 = .ok (.aload_n 0, 1) := by decide +kernel
theorem dX6_pointInOrder_63 : decode cX6_pointInOrder 63 = .ok (.iload 5, 2) := by decide +kernel
theorem dX6_pointInOrder_65 : decode cX6_pointInOrder 65 = .ok (.invokevirtual 53, 3) := by decide +kernel
theorem dX6_pointInOrder_68 : decode cX6_pointInOrder 68 = .ok (.istore_n 2, 1) := by decide +kernel
theorem dX6_pointInOrder_69 : decode cX6_pointInOrder 69 = .ok (.goto 15, 3) := by decide +kernel
theorem dX6_pointInOrder_72 : decode cX6_pointInOrder 72 = .ok (.iload_n 3, 1) := by decide +kernel
theorem dX6_pointInOrder_73 : decode cX6_pointInOrder 73 = .ok (.iload 6, 2) := by decide +kernel
theorem dX6_pointInOrder_75 : decode cX6_pointInOrder 75 = .ok (.isub, 1) := by decide +kernel
theorem dX6_pointInOrder_76 : decode cX6_pointInOrder 76 = .ok (.istore_n 3, 1) := by decide +kernel
theorem dX6_pointInOrder_77 : decode cX6_pointInOrder 77 = .ok (.aload_n 0, 1) := by decide +kernel
theorem dX6_pointInOrder_78 : decode cX6_pointInOrder 78 = .ok (.iload 5, 2) := by decide +kernel
theorem dX6_pointInOrder_80 : decode cX6_pointInOrder 80 = .ok (.invokevirtual 61, 3) := by decide +kernel
theorem dX6_pointInOrder_83 : decode cX6_pointInOrder 83 = .ok (.istore_n 2, 1) := by decide +kernel
theorem dX6_pointInOrder_84 : decode cX6_pointInOrder 84 = .ok (.iinc 4 1, 3) := by decide +kernel
theorem dX6_pointInOrder_87 : decode cX6_pointInOrder 87 = .ok (.goto (-77), 3) := by decide +kernel
theorem dX6_pointInOrder_90 : decode cX6_pointInOrder 90 = .ok (.iload_n 2, 1) := by decide +kernel
theorem dX6_pointInOrder_91 : decode cX6_pointInOrder 91 = .ok (.ireturn, 1) := by decide +kernel
theorem dX6_cutBehind_0 : decode cX6_cutBehind 0 = .ok (.iconst 0, 1) := by decide +kernel
theorem dX6_cutBehind_1 : decode cX6_cutBehind 1 = .ok (.istore_n 2, 1) := by decide +kernel
theorem dX6_cutBehind_2 : decode cX6_cutBehind 2 = .ok (.iconst 0, 1) := by decide +kernel
theorem dX6_cutBehind_3 : decode cX6_cutBehind 3 = .ok (.istore_n 3, 1) := by decide +kernel
theorem dX6_cutBehind_4 : decode cX6_cutBehind 4 = .ok (.iconst 0, 1) := by decide +kernel
theorem dX6_cutBehind_5 : decode cX6_cutBehind 5 = .ok (.istore 4, 2) := by decide +kernel
theorem dX6_cutBehind_7 : decode cX6_cutBehind 7 = .ok (.iload 4, 2) := by decide +kernel
theorem dX6_cutBehind_9 : decode cX6_cutBehind 9 = .ok (.aload_n 0, 1) := by decide +kernel
theorem dX6_cutBehind_10 : decode cX6_cutBehind 10 = .ok (.getfield 22, 3) := by decide +kernel
theorem dX6_cutBehind_13 : decode cX6_cutBehind 13 = .ok (.if_icmp .ge 42, 3) := by decide +kernel
theorem dX6_cutBehind_16 : decode cX6_cutBehind 16 = .ok (.iload_n 3, 1) := by decide +kernel
theorem dX6_cutBehind_17 : decode cX6_cutBehind 17 = .ok (.iload 4, 2) := by decide +kernel
theorem dX6_cutBehind_19 : decode cX6_cutBehind 19 = .ok (.ishr, 1) := by decide +kernel
theorem dX6_cutBehind_20 : decode cX6_cutBehind 20 = .ok (.iconst 1, 1) := by decide +kernel
theorem dX6_cutBehind_21 : decode cX6_cutBehind 21 = .ok (.iand, 1) := by decide +kernel
theorem dX6_cutBehind_22 : decode cX6_cutBehind 22 = .ok (.ifCond .ne 27, 3) := by decide +kernel
theorem dX6_cutBehind_25 : decode cX6_cutBehind 25 = .ok (.aload_n 0, 1) := by decide +kernel
theorem dX6_cutBehind_26 : decode cX6_cutBehind 26 = .ok (.iload_n 1, 1) := by decide +kernel
theorem dX6_cutBehind_27 : decode cX6_cutBehind 27 = .ok (.iload 4, 2) := by decide +kernel
theorem dX6_cutBehind_29 : decode cX6_cutBehind 29 = .ok (.invokevirtual 64, 3) := by decide +kernel
theorem dX6_cutBehind_32 : decode cX6_cutBehind 32 = .ok (.istore 5, 2) := by decide +kernel
theorem dX6_cutBehind_34 : decode cX6_cutBehind 34 = .ok (.aload_n 0, 1) := by decide +kernel
theorem dX6_cutBehind_35 : decode cX6_cutBehind 35 = .ok (.iload 5, 2) := by decide +kernel
theorem dX6_cutBehind_37 : decode cX6_cutBehind 37 = .ok (.iload_n 2, 1) := by decide +kernel
theorem dX6_cutBehind_38 : decode cX6_cutBehind 38 = .ok (.invokevirtual 68, 3) := by decide +kernel
theorem dX6_cutBehind_41 : decode cX6_cutBehind 41 = .ok (.iload_n 3, 1) := by decide +kernel
theorem dX6_cutBehind_42 : decode cX6_cutBehind 42 = .ok (.iload 5, 2) := by decide +kernel
theorem dX6_cutBehind_44 : decode cX6_cutBehind 44 = .ok (.ior, 1) := by decide +kernel
theorem dX6_cutBehind_45 : decode cX6_cutBehind 45 = .ok (.istore_n 3, 1) := by decide +kernel
theorem dX6_cutBehind_46 : decode cX6_cutBehind 46 = .ok (.iinc 2 1, 3) := by decide +kernel
theorem dX6_cutBehind_49 : decode cX6_cutBehind 49 = .ok (.iinc 4 1, 3) := by decide +kernel
theorem dX6_cutBehind_52 : decode cX6_cutBehind 52 = .ok (.goto (-45), 3) := by decide +kernel
theorem dX6_cutBehind_55 : decode cX6_cutBehind 55 = .ok (.iload_n 2, 1) := by decide +kernel
theorem dX6_cutBehind_56 : decode cX6_cutBehind 56 = .ok (.ireturn, 1) := by decide +kernel
theorem dX6_clusterBehind_0 : decode cX6_clusterBehind 0 = .ok (.iconst 1, 1) := by decide +kernel
theorem dX6_clusterBehind_1 : decode cX6_clusterBehind 1 = .ok (.iload_n 2, 1) := by decide +kernel
theorem dX6_clusterBehind_2 : decode cX6_clusterBehind 2 = .ok (.ishl, 1) := by decide +kernel
theorem dX6_clusterBehind_3 : decode cX6_clusterBehind 3 = .ok (.istore_n 3, 1) := by decide +kernel
theorem dX6_clusterBehind_4 : decode cX6_clusterBehind 4 = .ok (.iconst 0, 1) := by decide +kernel
theorem dX6_clusterBehind_5 : decode cX6_clusterBehind 5 = .ok (.istore 4, 2) := by decide +kernel
theorem dX6_clusterBehind_7 : decode cX6_clusterBehind 7 = .ok (.iload 4, 2) := by decide +kernel
theorem dX6_clusterBehind_9 : decode cX6_clusterBehind 9 = .ok (.iload_n 1, 1) := by decide +kernel
theorem dX6_clusterBehind_10 : decode cX6_clusterBehind 10 = .ok (.if_icmp .ge 50, 3) := by decide +kernel
theorem dX6_clusterBehind_13 : decode cX6_clusterBehind 13 = .ok (.iload 4, 2) := by decide +kernel
theorem dX6_clusterBehind_15 : decode cX6_clusterBehind 15 = .ok (.aload_n 0, 1) := by decide +kernel
theorem dX6_clusterBehind_16 : decode cX6_clusterBehind 16 = .ok (.getfield 12, 3) := by decide +kernel
theorem dX6_clusterBehind_19 : decode cX6_clusterBehind 19 = .ok (.getfield 26, 3) := by decide +kernel
theorem dX6_clusterBehind_22 : decode cX6_clusterBehind 22 = .ok (.if_icmp .ge 38, 3) := by decide +kernel
theorem dX6_clusterBehind_25 : decode cX6_clusterBehind 25 = .ok (.aload_n 0, 1) := by decide +kernel
theorem dX6_clusterBehind_26 : decode cX6_clusterBehind 26 = .ok (.getfield 12, 3) := by decide +kernel
theorem dX6_clusterBehind_29 : decode cX6_clusterBehind 29 = .ok (.getfield 33, 3) := by decide +kernel
theorem dX6_clusterBehind_32 : decode cX6_clusterBehind 32 = .ok (.iload 4, 2) := by decide +kernel
theorem dX6_clusterBehind_34 : decode cX6_clusterBehind 34 = .ok (.iaload, 1) := by decide +kernel
theorem dX6_clusterBehind_35 : decode cX6_clusterBehind 35 = .ok (.iload_n 2, 1) := by decide +kernel
theorem dX6_clusterBehind_36 : decode cX6_clusterBehind 36 = .ok (.ishr, 1) := by decide +kernel
theorem dX6_clusterBehind_37 : decode cX6_clusterBehind 37 = .ok (.iconst 1, 1) := by decide +kernel
theorem dX6_clusterBehind_38 : decode cX6_clusterBehind 38 = .ok (.iand, 1) := by decide +kernel
theorem dX6_clusterBehind_39 : decode cX6_clusterBehind 39 = .ok (.iconst 1, 1) := by decide +kernel
theorem dX6_clusterBehind_40 : decode cX6_clusterBehind 40 = .ok (.if_icmp .ne 14, 3) := by decide +kernel
theorem dX6_clusterBehind_43 : decode cX6_clusterBehind 43 = .ok (.aload_n 0, 1) := by decide +kernel
theorem dX6_clusterBehind_44 : decode cX6_clusterBehind 44 = .ok (.getfield 12, 3) := by decide +kernel
theorem dX6_clusterBehind_47 : decode cX6_clusterBehind 47 = .ok (.getfield 33, 3) := by decide +kernel
theorem dX6_clusterBehind_50 : decode cX6_clusterBehind 50 = .ok (.iload 4, 2) := by decide +kernel
theorem dX6_clusterBehind_52 : decode cX6_clusterBehind 52 = .ok (.iaload, 1) := by decide +kernel
theorem dX6_clusterBehind_53 : decode cX6_clusterBehind 53 = .ok (.istore_n 3, 1) := by decide +kernel
theorem dX6_clusterBehind_54 : decode cX6_clusterBehind 54 = .ok (.iinc 4 1, 3) := by decide +kernel
theorem dX6_clusterBehind_57 : decode cX6_clusterBehind 57 = .ok (.goto (-50), 3) := by decide +kernel
theorem dX6_clusterBehind_60 : decode cX6_clusterBehind 60 = .ok (.iload_n 3, 1) := by decide +kernel
theorem dX6_clusterBehind_61 : decode cX6_clusterBehind 61 = .ok (.ireturn, 1) := by decide +kernel
theorem dX6_setLabels_0 : decode cX6_setLabels 0 = .ok (.iconst 0, 1) := by decide +kernel
theorem dX6_setLabels_1 : decode cX6_setLabels 1 = .ok (.istore_n 3, 1) := by decide +kernel
theorem dX6_setLabels_2 : decode cX6_setLabels 2 = .ok (.iload_n 3, 1) := by decide +kernel
theorem dX6_setLabels_3 : decode cX6_setLabels 3 = .ok (.aload_n 0, 1) := by decide +kernel
theorem dX6_setLabels_4 : decode cX6_setLabels 4 = .ok (.getfield 22, 3) := by decide +kernel
theorem dX6_setLabels_7 : decode cX6_setLabels 7 = .ok (.if_icmp .ge 25, 3) := by decide +kernel
theorem dX6_setLabels_10 : decode cX6_setLabels 10 = .ok (.iload_n 1, 1) := by decide +kernel
theorem dX6_setLabels_11 : decode cX6_setLabels 11 = .ok (.iload_n 3, 1) := by decide +kernel
theorem dX6_setLabels_12 : decode cX6_setLabels 12 = .ok (.ishr, 1) := by decide +kernel
theorem dX6_setLabels_13 : decode cX6_setLabels 13 = .ok (.iconst 1, 1) := by decide +kernel
theorem dX6_setLabels_14 : decode cX6_setLabels 14 = .ok (.iand, 1) := by decide +kernel
theorem dX6_setLabels_15 : decode cX6_setLabels 15 = .ok (.iconst 1, 1) := by decide +kernel
theorem dX6_setLabels_16 : decode cX6_setLabels 16 = .ok (.if_icmp .ne 10, 3) := by decide +kernel
theorem dX6_setLabels_19 : decode cX6_setLabels 19 = .ok (.aload_n 0, 1) := by decide +kernel
theorem dX6_setLabels_20 : decode cX6_setLabels 20 = .ok (.getfield 18, 3) := by decide +kernel
theorem dX6_setLabels_23 : decode cX6_setLabels 23 = .ok (.iload_n 3, 1) := by decide +kernel
theorem dX6_setLabels_24 : decode cX6_setLabels 24 = .ok (.iload_n 2, 1) := by decide +kernel
theorem dX6_setLabels_25 : decode cX6_setLabels 25 = .ok (.iastore, 1) := by decide +kernel
theorem dX6_setLabels_26 : decode cX6_setLabels 26 = .ok (.iinc 3 1, 3) := by decide +kernel
theorem dX6_setLabels_29 : decode cX6_setLabels 29 = .ok (.goto (-27), 3) := by decide +kernel
theorem dX6_setLabels_32 : decode cX6_setLabels 32 = .ok (.return_, 1) := by decide +kernel
theorem dX6_isTogether_0 : decode cX6_isTogether 0 = .ok (.aload_n 0, 1) := by decide +kernel
theorem dX6_isTogether_1 : decode cX6_isTogether 1 = .ok (.getfield 18, 3) := by decide +kernel
theorem dX6_isTogether_4 : decode cX6_isTogether 4 = .ok (.iload_n 1, 1) := by decide +kernel
theorem dX6_isTogether_5 : decode cX6_isTogether 5 = .ok (.iaload, 1) := by decide +kernel
theorem dX6_isTogether_6 : decode cX6_isTogether 6 = .ok (.aload_n 0, 1) := by decide +kernel
theorem dX6_isTogether_7 : decode cX6_isTogether 7 = .ok (.getfield 18, 3) := by decide +kernel
theorem dX6_isTogether_10 : decode cX6_isTogether 10 = .ok (.iload_n 2, 1) := by decide +kernel
theorem dX6_isTogether_11 : decode cX6_isTogether 11 = .ok (.iaload, 1) := by decide +kernel
theorem dX6_isTogether_12 : decode cX6_isTogether 12 = .ok (.if_icmp .ne 7, 3) := by decide +kernel
theorem dX6_isTogether_15 : decode cX6_isTogether 15 = .ok (.iconst 1, 1) := by decide +kernel
theorem dX6_isTogether_16 : decode cX6_isTogether 16 = .ok (.goto 4, 3) := by decide +kernel
theorem dX6_isTogether_19 : decode cX6_isTogether 19 = .ok (.iconst 0, 1) := by decide +kernel
theorem dX6_isTogether_20 : decode cX6_isTogether 20 = .ok (.ireturn, 1) := by decide +kernel
