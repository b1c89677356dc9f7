theorem dX8_agree_111 : decode cX8_agree 111 = .ok (.iload_n 2, 1) := by decide +kernel
theorem dX8_agree_112 : decode cX8_agree 112 = .ok (.imul, 1) := by decide +kernel
theorem dX8_agree_113 : decode cX8_agree 113 = .ok (.iload 5, 2) := by decide +kernel
theorem dX8_agree_115 : decode cX8_agree 115 = .ok (.iadd, 1) := by decide +kernel
theorem dX8_agree_116 : decode cX8_agree 116 = .ok (.iaload, 1) := by decide +kernel
theorem dX8_agree_117 : decode cX8_agree 117 = .ok (.if_icmp .ne 7, 3) := by decide +kernel
theorem dX8_agree_120 : decode cX8_agree 120 = .ok (.iconst 1, 1) := by decide +kernel
theorem dX8_agree_121 : decode cX8_agree 121 = .ok (.goto 4, 3) := by decide +kernel
theorem dX8_agree_124 : decode cX8_agree 124 = .ok (.iconst 0, 1) := by decide +kernel
theorem dX8_agree_125 : decode cX8_agree 125 = .ok (.istore 7, 2) := by decide +kernel
theorem dX8_agree_127 : decode cX8_agree 127 = .ok (.iload_n 3, 1) := by decide +kernel
theorem dX8_agree_128 : decode cX8_agree 128 = .ok (.iload 6, 2) := by decide +kernel
theorem dX8_agree_130 : decode cX8_agree 130 = .ok (.iload 7, 2) := by decide +kernel
theorem dX8_agree_132 : decode cX8_agree 132 = .ok (.if_icmp .ne 7, 3) := by decide +kernel
theorem dX8_agree_135 : decode cX8_agree 135 = .ok (.iconst 1, 1) := by decide +kernel
theorem dX8_agree_136 : decode cX8_agree 136 = .ok (.goto 4, 3) := by decide +kernel
theorem dX8_agree_139 : decode cX8_agree 139 = .ok (.iconst 0, 1) := by decide +kernel
theorem dX8_agree_140 : decode cX8_agree 140 = .ok (.iadd, 1) := by decide +kernel
theorem dX8_agree_141 : decode cX8_agree 141 = .ok (.istore_n 3, 1) := by decide +kernel
theorem dX8_agree_142 : decode cX8_agree 142 = .ok (.iinc 5 1, 3) := by decide +kernel
theorem dX8_agree_145 : decode cX8_agree 145 = .ok (.goto (-93), 3) := by decide +kernel
theorem dX8_agree_148 : decode cX8_agree 148 = .ok (.iinc 4 1, 3) := by decide +kernel
theorem dX8_agree_151 : decode cX8_agree 151 = .ok (.goto (-113), 3) := by decide +kernel
theorem dX8_agree_154 : decode cX8_agree 154 = .ok (.iload_n 3, 1) := by decide +kernel
theorem dX8_agree_155 : decode cX8_agree 155 = .ok (.ireturn, 1) := by decide +kernel
theorem dX8_middle_0 : decode cX8_middle 0 = .ok (.aload_n 0, 1) := by decide +kernel
theorem dX8_middle_1 : decode cX8_middle 1 = .ok (.iload_n 1, 1) := by decide +kernel
theorem dX8_middle_2 : decode cX8_middle 2 = .ok (.invokevirtual 215, 3) := by decide +kernel
theorem dX8_middle_5 : decode cX8_middle 5 = .ok (.ifCond .eq 29, 3) := by decide +kernel
theorem dX8_middle_8 : decode cX8_middle 8 = .ok (.iload_n 2, 1) := by decide +kernel
theorem dX8_middle_9 : decode cX8_middle 9 = .ok (.aload_n 0, 1) := by decide +kernel
theorem dX8_middle_10 : decode cX8_middle 10 = .ok (.getfield 40, 3) := by decide +kernel
theorem dX8_middle_13 : decode cX8_middle 13 = .ok (.iload_n 1, 1) := by decide +kernel
theorem dX8_middle_14 : decode cX8_middle 14 = .ok (.iaload, 1) := by decide +kernel
theorem dX8_middle_15 : decode cX8_middle 15 = .ok (.invokestatic 110, 3) := by decide +kernel
theorem dX8_middle_18 : decode cX8_middle 18 = .ok (.ifCond .eq 16, 3) := by decide +kernel
theorem dX8_middle_21 : decode cX8_middle 21 = .ok (.aload_n 0, 1) := by decide +kernel
theorem dX8_middle_22 : decode cX8_middle 22 = .ok (.getfield 40, 3) := by decide +kernel
theorem dX8_middle_25 : decode cX8_middle 25 = .ok (.iload_n 1, 1) := by decide +kernel
theorem dX8_middle_26 : decode cX8_middle 26 = .ok (.iaload, 1) := by decide +kernel
theorem dX8_middle_27 : decode cX8_middle 27 = .ok (.aload_n 0, 1) := by decide +kernel
theorem dX8_middle_28 : decode cX8_middle 28 = .ok (.getfield 107, 3) := by decide +kernel
theorem dX8_middle_31 : decode cX8_middle 31 = .ok (.if_icmp .eq 5, 3) := by decide +kernel
theorem dX8_middle_34 : decode cX8_middle 34 = .ok (.iconst (-1), 1) := by decide +kernel
theorem dX8_middle_35 : decode cX8_middle 35 = .ok (.ireturn, 1) := by decide +kernel
theorem dX8_middle_36 : decode cX8_middle 36 = .ok (.iconst (-1), 1) := by decide +kernel
theorem dX8_middle_37 : decode cX8_middle 37 = .ok (.istore_n 3, 1) := by decide +kernel
theorem dX8_middle_38 : decode cX8_middle 38 = .ok (.lconst 0, 1) := by decide +kernel
theorem dX8_middle_39 : decode cX8_middle 39 = .ok (.lstore 4, 2) := by decide +kernel
theorem dX8_middle_41 : decode cX8_middle 41 = .ok (.iconst 0, 1) := by decide +kernel
theorem dX8_middle_42 : decode cX8_middle 42 = .ok (.istore 6, 2) := by decide +kernel
theorem dX8_middle_44 : decode cX8_middle 44 = .ok (.iload 6, 2) := by decide +kernel
theorem dX8_middle_46 : decode cX8_middle 46 = .ok (.aload_n 0, 1) := by decide +kernel
theorem dX8_middle_47 : decode cX8_middle 47 = .ok (.getfield 107, 3) := by decide +kernel
theorem dX8_middle_50 : decode cX8_middle 50 = .ok (.if_icmp .ge 127, 3) := by decide +kernel
theorem dX8_middle_53 : decode cX8_middle 53 = .ok (.aload_n 0, 1) := by decide +kernel
theorem dX8_middle_54 : decode cX8_middle 54 = .ok (.getfield 68, 3) := by decide +kernel
theorem dX8_middle_57 : decode cX8_middle 57 = .ok (.bipush 20, 2) := by decide +kernel
theorem dX8_middle_59 : decode cX8_middle 59 = .ok (.iload_n 1, 1) := by decide +kernel
theorem dX8_middle_60 : decode cX8_middle 60 = .ok (.imul, 1) := by decide +kernel
theorem dX8_middle_61 : decode cX8_middle 61 = .ok (.iload 6, 2) := by decide +kernel
theorem dX8_middle_63 : decode cX8_middle 63 = .ok (.iadd, 1) := by decide +kernel
theorem dX8_middle_64 : decode cX8_middle 64 = .ok (.iaload, 1) := by decide +kernel
theorem dX8_middle_65 : decode cX8_middle 65 = .ok (.aload_n 0, 1) := by decide +kernel
theorem dX8_middle_66 : decode cX8_middle 66 = .ok (.getfield 68, 3) := by decide +kernel
theorem dX8_middle_69 : decode cX8_middle 69 = .ok (.bipush 20, 2) := by decide +kernel
theorem dX8_middle_71 : decode cX8_middle 71 = .ok (.iload_n 1, 1) := by decide +kernel
theorem dX8_middle_72 : decode cX8_middle 72 = .ok (.imul, 1) := by decide +kernel
theorem dX8_middle_73 : decode cX8_middle 73 = .ok (.iload_n 2, 1) := by decide +kernel
theorem dX8_middle_74 : decode cX8_middle 74 = .ok (.iadd, 1) := by decide +kernel
theorem dX8_middle_75 : decode cX8_middle 75 = .ok (.iaload, 1) := by decide +kernel
theorem dX8_middle_76 : decode cX8_middle 76 = .ok (.if_icmp .eq 6, 3) := by decide +kernel
theorem dX8_middle_79 : decode cX8_middle 79 = .ok (.goto 92, 3) := by decide +kernel
theorem dX8_middle_82 : decode cX8_middle 82 = .ok (.lconst 0, 1) := by decide +kernel
theorem dX8_middle_83 : decode cX8_middle 83 = .ok (.lstore 7, 2) := by decide +kernel
theorem dX8_middle_85 : decode cX8_middle 85 = .ok (.iconst 0, 1) := by decide +kernel
theorem dX8_middle_86 : decode cX8_middle 86 = .ok (.istore 9, 2) := by decide +kernel
theorem dX8_middle_88 : decode cX8_middle 88 = .ok (.iload 9, 2) := by decide +kernel
theorem dX8_middle_90 : decode cX8_middle 90 = .ok (.aload_n 0, 1) := by decide +kernel
theorem dX8_middle_91 : decode cX8_middle 91 = .ok (.getfield 107, 3) := by decide +kernel
theorem dX8_middle_94 : decode cX8_middle 94 = .ok (.if_icmp .ge 58, 3) := by decide +kernel
theorem dX8_middle_97 : decode cX8_middle 97 = .ok (.lload 7, 2) := by decide +kernel
theorem dX8_middle_99 : decode cX8_middle 99 = .ok (.aload_n 0, 1) := by decide +kernel
theorem dX8_middle_100 : decode cX8_middle 100 = .ok (.getfield 68, 3) := by decide +kernel
theorem dX8_middle_103 : decode cX8_middle 103 = .ok (.bipush 20, 2) := by decide +kernel
theorem dX8_middle_105 : decode cX8_middle 105 = .ok (.iload_n 1, 1) := by decide +kernel
theorem dX8_middle_106 : decode cX8_middle 106 = .ok (.imul, 1) := by decide +kernel
theorem dX8_middle_107 : decode cX8_middle 107 = .ok (.iload 9, 2) := by decide +kernel
theorem dX8_middle_109 : decode cX8_middle 109 = .ok (.iadd, 1) := by decide +kernel
theorem dX8_middle_110 : decode cX8_middle 110 = .ok (.iaload, 1) := by decide +kernel
theorem dX8_middle_111 : decode cX8_middle 111 = .ok (.aload_n 0, 1) := by decide +kernel
theorem dX8_middle_112 : decode cX8_middle 112 = .ok (.getfield 68, 3) := by decide +kernel
theorem dX8_middle_115 : decode cX8_middle 115 = .ok (.bipush 20, 2) := by decide +kernel
theorem dX8_middle_117 : decode cX8_middle 117 = .ok (.iload_n 1, 1) := by decide +kernel
theorem dX8_middle_118 : decode cX8_middle 118 = .ok (.imul, 1) := by decide +kernel
theorem dX8_middle_119 : decode cX8_middle 119 = .ok (.iload_n 2, 1) := by decide +kernel
theorem dX8_middle_120 : decode cX8_middle 120 = .ok (.iadd, 1) := by decide +kernel
theorem dX8_middle_121 : decode cX8_middle 121 = .ok (.iaload, 1) := by decide +kernel
theorem dX8_middle_122 : decode cX8_middle 122 = .ok (.if_icmp .ne 20, 3) := by decide +kernel
theorem dX8_middle_125 : decode cX8_middle 125 = .ok (.aload_n 0, 1) := by decide +kernel
theorem dX8_middle_126 : decode cX8_middle 126 = .ok (.getfield 7, 3) := by decide +kernel
theorem dX8_middle_129 : decode cX8_middle 129 = .ok (.bipush 20, 2) := by decide +kernel
theorem dX8_middle_131 : decode cX8_middle 131 = .ok (.iload 6, 2) := by decide +kernel
theorem dX8_middle_133 : decode cX8_middle 133 = .ok (.imul, 1) := by decide +kernel
theorem dX8_middle_134 : decode cX8_middle 134 = .ok (.iload 9, 2) := by decide +kernel
theorem dX8_middle_136 : decode cX8_middle 136 = .ok (.iadd, 1) := by decide +kernel
theorem dX8_middle_137 : decode cX8_middle 137 = .ok (.iaload, 1) := by decide +kernel
theorem dX8_middle_138 : decode cX8_middle 138 = .ok (.i2l, 1) := by decide +kernel
theorem dX8_middle_139 : decode cX8_middle 139 = .ok (.goto 4, 3) := by decide +kernel
theorem dX8_middle_142 : decode cX8_middle 142 = .ok (.lconst 0, 1) := by decide +kernel
theorem dX8_middle_143 : decode cX8_middle 143 = .ok (.ladd, 1) := by decide +kernel
theorem dX8_middle_144 : decode cX8_middle 144 = .ok (.lstore 7, 2) := by decide +kernel
theorem dX8_middle_146 : decode cX8_middle 146 = .ok (.iinc 9 1, 3) := by decide +kernel
theorem dX8_middle_149 : decode cX8_middle 149 = .ok (.goto (-61), 3) := by decide +kernel
theorem dX8_middle_152 : decode cX8_middle 152 = .ok (.iload_n 3, 1) := by decide +kernel
theorem dX8_middle_153 : decode cX8_middle 153 = .ok (.ifCond .lt 11, 3) := by decide +kernel
theorem dX8_middle_156 : decode cX8_middle 156 = .ok (.lload 7, 2) := by decide +kernel
theorem dX8_middle_158 : decode cX8_middle 158 = .ok (.lload 4, 2) := by decide +kernel
theorem dX8_middle_160 : decode cX8_middle 160 = .ok (.lcmp, 1) := by decide +kernel
theorem dX8_middle_161 : decode cX8_middle 161 = .ok (.ifCond .ge 10, 3) := by decide +kernel
theorem dX8_middle_164 : decode cX8_middle 164 = .ok (.iload 6, 2) := by decide +kernel
theorem dX8_middle_166 : decode cX8_middle 166 = .ok (.istore_n 3, 1) := by decide +kernel
theorem dX8_middle_167 : decode cX8_middle 167 = .ok (.lload 7, 2) := by decide +kernel
theorem dX8_middle_169 : decode cX8_middle 169 = .ok (.lstore 4, 2) := by decide +kernel
theorem dX8_middle_171 : decode cX8_middle 171 = .ok (.iinc 6 1, 3) := by decide +kernel
theorem dX8_middle_174 : decode cX8_middle 174 = .ok (.goto (-130), 3) := by decide +kernel
theorem dX8_middle_177 : decode cX8_middle 177 = .ok (.iload_n 3, 1) := by decide +kernel
theorem dX8_middle_178 : decode cX8_middle 178 = .ok (.ireturn, 1) := by decide +kernel
