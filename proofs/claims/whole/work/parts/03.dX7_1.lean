theorem dX7_writeCluster_24 : decode cX7_writeCluster 24 = .ok (.bipush 19, 2) := by decide +kernel
theorem dX7_writeCluster_26 : decode cX7_writeCluster 26 = .ok (.if_icmp .gt 15, 3) := by decide +kernel
theorem dX7_writeCluster_29 : decode cX7_writeCluster 29 = .ok (.aload_n 1, 1) := by decide +kernel
theorem dX7_writeCluster_30 : decode cX7_writeCluster 30 = .ok (.getfield 155, 3) := by decide +kernel
theorem dX7_writeCluster_33 : decode cX7_writeCluster 33 = .ok (.iload 4, 2) := by decide +kernel
theorem dX7_writeCluster_35 : decode cX7_writeCluster 35 = .ok (.invokevirtual 175, 3) := by decide +kernel
theorem dX7_writeCluster_38 : decode cX7_writeCluster 38 = .ok (.ifCond .ne 4, 3) := by decide +kernel
theorem dX7_writeCluster_41 : decode cX7_writeCluster 41 = .ok (.return_, 1) := by decide +kernel
theorem dX7_writeCluster_42 : decode cX7_writeCluster 42 = .ok (.aload_n 0, 1) := by decide +kernel
theorem dX7_writeCluster_43 : decode cX7_writeCluster 43 = .ok (.bipush 40, 2) := by decide +kernel
theorem dX7_writeCluster_45 : decode cX7_writeCluster 45 = .ok (.invokevirtual 105, 3) := by decide +kernel
theorem dX7_writeCluster_48 : decode cX7_writeCluster 48 = .ok (.aload_n 0, 1) := by decide +kernel
theorem dX7_writeCluster_49 : decode cX7_writeCluster 49 = .ok (.aload_n 1, 1) := by decide +kernel
theorem dX7_writeCluster_50 : decode cX7_writeCluster 50 = .ok (.aload_n 1, 1) := by decide +kernel
theorem dX7_writeCluster_51 : decode cX7_writeCluster 51 = .ok (.iload 4, 2) := by decide +kernel
theorem dX7_writeCluster_53 : decode cX7_writeCluster 53 = .ok (.invokevirtual 252, 3) := by decide +kernel
theorem dX7_writeCluster_56 : decode cX7_writeCluster 56 = .ok (.iload_n 3, 1) := by decide +kernel
theorem dX7_writeCluster_57 : decode cX7_writeCluster 57 = .ok (.iconst 1, 1) := by decide +kernel
theorem dX7_writeCluster_58 : decode cX7_writeCluster 58 = .ok (.iadd, 1) := by decide +kernel
theorem dX7_writeCluster_59 : decode cX7_writeCluster 59 = .ok (.invokestatic 203, 3) := by decide +kernel
theorem dX7_writeCluster_62 : decode cX7_writeCluster 62 = .ok (.aload_n 0, 1) := by decide +kernel
theorem dX7_writeCluster_63 : decode cX7_writeCluster 63 = .ok (.bipush 44, 2) := by decide +kernel
theorem dX7_writeCluster_65 : decode cX7_writeCluster 65 = .ok (.invokevirtual 105, 3) := by decide +kernel
theorem dX7_writeCluster_68 : decode cX7_writeCluster 68 = .ok (.aload_n 0, 1) := by decide +kernel
theorem dX7_writeCluster_69 : decode cX7_writeCluster 69 = .ok (.aload_n 1, 1) := by decide +kernel
theorem dX7_writeCluster_70 : decode cX7_writeCluster 70 = .ok (.aload_n 1, 1) := by decide +kernel
theorem dX7_writeCluster_71 : decode cX7_writeCluster 71 = .ok (.iload 4, 2) := by decide +kernel
theorem dX7_writeCluster_73 : decode cX7_writeCluster 73 = .ok (.invokevirtual 255, 3) := by decide +kernel
theorem dX7_writeCluster_76 : decode cX7_writeCluster 76 = .ok (.iload_n 3, 1) := by decide +kernel
theorem dX7_writeCluster_77 : decode cX7_writeCluster 77 = .ok (.iconst 1, 1) := by decide +kernel
theorem dX7_writeCluster_78 : decode cX7_writeCluster 78 = .ok (.iadd, 1) := by decide +kernel
theorem dX7_writeCluster_79 : decode cX7_writeCluster 79 = .ok (.invokestatic 203, 3) := by decide +kernel
theorem dX7_writeCluster_82 : decode cX7_writeCluster 82 = .ok (.aload_n 0, 1) := by decide +kernel
theorem dX7_writeCluster_83 : decode cX7_writeCluster 83 = .ok (.bipush 41, 2) := by decide +kernel
theorem dX7_writeCluster_85 : decode cX7_writeCluster 85 = .ok (.invokevirtual 105, 3) := by decide +kernel
theorem dX7_writeCluster_88 : decode cX7_writeCluster 88 = .ok (.aload_n 0, 1) := by decide +kernel
theorem dX7_writeCluster_89 : decode cX7_writeCluster 89 = .ok (.bipush 58, 2) := by decide +kernel
theorem dX7_writeCluster_91 : decode cX7_writeCluster 91 = .ok (.invokevirtual 105, 3) := by decide +kernel
theorem dX7_writeCluster_94 : decode cX7_writeCluster 94 = .ok (.aload_n 0, 1) := by decide +kernel
theorem dX7_writeCluster_95 : decode cX7_writeCluster 95 = .ok (.aload_n 1, 1) := by decide +kernel
theorem dX7_writeCluster_96 : decode cX7_writeCluster 96 = .ok (.getfield 155, 3) := by decide +kernel
theorem dX7_writeCluster_99 : decode cX7_writeCluster 99 = .ok (.getfield 185, 3) := by decide +kernel
theorem dX7_writeCluster_102 : decode cX7_writeCluster 102 = .ok (.iload 4, 2) := by decide +kernel
theorem dX7_writeCluster_104 : decode cX7_writeCluster 104 = .ok (.laload, 1) := by decide +kernel
theorem dX7_writeCluster_105 : decode cX7_writeCluster 105 = .ok (.invokevirtual 101, 3) := by decide +kernel
theorem dX7_writeCluster_108 : decode cX7_writeCluster 108 = .ok (.aload_n 1, 1) := by decide +kernel
theorem dX7_writeCluster_109 : decode cX7_writeCluster 109 = .ok (.getfield 155, 3) := by decide +kernel
theorem dX7_writeCluster_112 : decode cX7_writeCluster 112 = .ok (.getfield 189, 3) := by decide +kernel
theorem dX7_writeCluster_115 : decode cX7_writeCluster 115 = .ok (.iload 4, 2) := by decide +kernel
theorem dX7_writeCluster_117 : decode cX7_writeCluster 117 = .ok (.laload, 1) := by decide +kernel
theorem dX7_writeCluster_118 : decode cX7_writeCluster 118 = .ok (.lconst 1, 1) := by decide +kernel
theorem dX7_writeCluster_119 : decode cX7_writeCluster 119 = .ok (.lcmp, 1) := by decide +kernel
theorem dX7_writeCluster_120 : decode cX7_writeCluster 120 = .ok (.ifCond .eq 23, 3) := by decide +kernel
theorem dX7_writeCluster_123 : decode cX7_writeCluster 123 = .ok (.aload_n 0, 1) := by decide +kernel
theorem dX7_writeCluster_124 : decode cX7_writeCluster 124 = .ok (.bipush 47, 2) := by decide +kernel
theorem dX7_writeCluster_126 : decode cX7_writeCluster 126 = .ok (.invokevirtual 105, 3) := by decide +kernel
theorem dX7_writeCluster_129 : decode cX7_writeCluster 129 = .ok (.aload_n 0, 1) := by decide +kernel
theorem dX7_writeCluster_130 : decode cX7_writeCluster 130 = .ok (.aload_n 1, 1) := by decide +kernel
theorem dX7_writeCluster_131 : decode cX7_writeCluster 131 = .ok (.getfield 155, 3) := by decide +kernel
theorem dX7_writeCluster_134 : decode cX7_writeCluster 134 = .ok (.getfield 189, 3) := by decide +kernel
theorem dX7_writeCluster_137 : decode cX7_writeCluster 137 = .ok (.iload 4, 2) := by decide +kernel
theorem dX7_writeCluster_139 : decode cX7_writeCluster 139 = .ok (.laload, 1) := by decide +kernel
theorem dX7_writeCluster_140 : decode cX7_writeCluster 140 = .ok (.invokevirtual 101, 3) := by decide +kernel
theorem dX7_writeCluster_143 : decode cX7_writeCluster 143 = .ok (.return_, 1) := by decide +kernel
theorem dX7_commonDivisor_0 : decode cX7_commonDivisor 0 = .ok (.lload_n 0, 1) := by decide +kernel
theorem dX7_commonDivisor_1 : decode cX7_commonDivisor 1 = .ok (.invokestatic 258, 3) := by decide +kernel
theorem dX7_commonDivisor_4 : decode cX7_commonDivisor 4 = .ok (.lstore 4, 2) := by decide +kernel
theorem dX7_commonDivisor_6 : decode cX7_commonDivisor 6 = .ok (.lload_n 2, 1) := by decide +kernel
theorem dX7_commonDivisor_7 : decode cX7_commonDivisor 7 = .ok (.invokestatic 258, 3) := by decide +kernel
theorem dX7_commonDivisor_10 : decode cX7_commonDivisor 10 = .ok (.lstore 6, 2) := by decide +kernel
theorem dX7_commonDivisor_12 : decode cX7_commonDivisor 12 = .ok (.iconst 0, 1) := by decide +kernel
theorem dX7_commonDivisor_13 : decode cX7_commonDivisor 13 = .ok (.istore 8, 2) := by decide +kernel
theorem dX7_commonDivisor_15 : decode cX7_commonDivisor 15 = .ok (.iload 8, 2) := by decide +kernel
theorem dX7_commonDivisor_17 : decode cX7_commonDivisor 17 = .ok (.sipush 200, 3) := by decide +kernel
theorem dX7_commonDivisor_20 : decode cX7_commonDivisor 20 = .ok (.if_icmp .ge 31, 3) := by decide +kernel
theorem dX7_commonDivisor_23 : decode cX7_commonDivisor 23 = .ok (.lload 6, 2) := by decide +kernel
theorem dX7_commonDivisor_25 : decode cX7_commonDivisor 25 = .ok (.lconst 0, 1) := by decide +kernel
theorem dX7_commonDivisor_26 : decode cX7_commonDivisor 26 = .ok (.lcmp, 1) := by decide +kernel
theorem dX7_commonDivisor_27 : decode cX7_commonDivisor 27 = .ok (.ifCond .eq 24, 3) := by decide +kernel
theorem dX7_commonDivisor_30 : decode cX7_commonDivisor 30 = .ok (.lload 4, 2) := by decide +kernel
theorem dX7_commonDivisor_32 : decode cX7_commonDivisor 32 = .ok (.lload 6, 2) := by decide +kernel
theorem dX7_commonDivisor_34 : decode cX7_commonDivisor 34 = .ok (.lrem, 1) := by decide +kernel
theorem dX7_commonDivisor_35 : decode cX7_commonDivisor 35 = .ok (.lstore 9, 2) := by decide +kernel
theorem dX7_commonDivisor_37 : decode cX7_commonDivisor 37 = .ok (.lload 6, 2) := by decide +kernel
theorem dX7_commonDivisor_39 : decode cX7_commonDivisor 39 = .ok (.lstore 4, 2) := by decide +kernel
theorem dX7_commonDivisor_41 : decode cX7_commonDivisor 41 = .ok (.lload 9, 2) := by decide +kernel
theorem dX7_commonDivisor_43 : decode cX7_commonDivisor 43 = .ok (.lstore 6, 2) := by decide +kernel
theorem dX7_commonDivisor_45 : decode cX7_commonDivisor 45 = .ok (.iinc 8 1, 3) := by decide +kernel
theorem dX7_commonDivisor_48 : decode cX7_commonDivisor 48 = .ok (.goto (-33), 3) := by decide +kernel
theorem dX7_commonDivisor_51 : decode cX7_commonDivisor 51 = .ok (.lconst 1, 1) := by decide +kernel
theorem dX7_commonDivisor_52 : decode cX7_commonDivisor 52 = .ok (.lload 4, 2) := by decide +kernel
theorem dX7_commonDivisor_54 : decode cX7_commonDivisor 54 = .ok (.invokestatic 262, 3) := by decide +kernel
theorem dX7_commonDivisor_57 : decode cX7_commonDivisor 57 = .ok (.lreturn, 1) := by decide +kernel
theorem dX7_lowered_0 : decode cX7_lowered 0 = .ok (.lload_n 2, 1) := by decide +kernel
theorem dX7_lowered_1 : decode cX7_lowered 1 = .ok (.lconst 0, 1) := by decide +kernel
theorem dX7_lowered_2 : decode cX7_lowered 2 = .ok (.lcmp, 1) := by decide +kernel
theorem dX7_lowered_3 : decode cX7_lowered 3 = .ok (.ifCond .ne 7, 3) := by decide +kernel
theorem dX7_lowered_6 : decode cX7_lowered 6 = .ok (.lload_n 0, 1) := by decide +kernel
theorem dX7_lowered_7 : decode cX7_lowered 7 = .ok (.goto 6, 3) := by decide +kernel
theorem dX7_lowered_10 : decode cX7_lowered 10 = .ok (.lload_n 0, 1) := by decide +kernel
theorem dX7_lowered_11 : decode cX7_lowered 11 = .ok (.lload_n 2, 1) := by decide +kernel
theorem dX7_lowered_12 : decode cX7_lowered 12 = .ok (.ldiv, 1) := by decide +kernel
theorem dX7_lowered_13 : decode cX7_lowered 13 = .ok (.lreturn, 1) := by decide +kernel
