theorem dX8_init_0 : decode cX8_init 0 = .ok (.aload_n 0, 1) := by decide +kernel
theorem dX8_init_1 : decode cX8_init 1 = .ok (.invokespecial 1, 3) := by decide +kernel
theorem dX8_init_4 : decode cX8_init 4 = .ok (.aload_n 0, 1) := by decide +kernel
theorem dX8_init_5 : decode cX8_init 5 = .ok (.sipush 400, 3) := by decide +kernel
theorem dX8_init_8 : decode cX8_init 8 = .ok (.newarray .int, 2) := by decide +kernel
theorem dX8_init_10 : decode cX8_init 10 = .ok (.putfield 7, 3) := by decide +kernel
theorem dX8_init_13 : decode cX8_init 13 = .ok (.aload_n 0, 1) := by decide +kernel
theorem dX8_init_14 : decode cX8_init 14 = .ok (.bipush 20, 2) := by decide +kernel
theorem dX8_init_16 : decode cX8_init 16 = .ok (.newarray .int, 2) := by decide +kernel
theorem dX8_init_18 : decode cX8_init 18 = .ok (.putfield 13, 3) := by decide +kernel
theorem dX8_init_21 : decode cX8_init 21 = .ok (.aload_n 0, 1) := by decide +kernel
theorem dX8_init_22 : decode cX8_init 22 = .ok (.bipush 20, 2) := by decide +kernel
theorem dX8_init_24 : decode cX8_init 24 = .ok (.newarray .int, 2) := by decide +kernel
theorem dX8_init_26 : decode cX8_init 26 = .ok (.putfield 16, 3) := by decide +kernel
theorem dX8_init_29 : decode cX8_init 29 = .ok (.aload_n 0, 1) := by decide +kernel
theorem dX8_init_30 : decode cX8_init 30 = .ok (.sipush 2400, 3) := by decide +kernel
theorem dX8_init_33 : decode cX8_init 33 = .ok (.newarray .byte, 2) := by decide +kernel
theorem dX8_init_35 : decode cX8_init 35 = .ok (.putfield 19, 3) := by decide +kernel
theorem dX8_init_38 : decode cX8_init 38 = .ok (.aload_n 0, 1) := by decide +kernel
theorem dX8_init_39 : decode cX8_init 39 = .ok (.sipush 2400, 3) := by decide +kernel
theorem dX8_init_42 : decode cX8_init 42 = .ok (.newarray .byte, 2) := by decide +kernel
theorem dX8_init_44 : decode cX8_init 44 = .ok (.putfield 23, 3) := by decide +kernel
theorem dX8_init_47 : decode cX8_init 47 = .ok (.aload_n 0, 1) := by decide +kernel
theorem dX8_init_48 : decode cX8_init 48 = .ok (.iconst (-1), 1) := by decide +kernel
theorem dX8_init_49 : decode cX8_init 49 = .ok (.putfield 26, 3) := by decide +kernel
theorem dX8_init_52 : decode cX8_init 52 = .ok (.aload_n 0, 1) := by decide +kernel
theorem dX8_init_53 : decode cX8_init 53 = .ok (.sipush 191, 3) := by decide +kernel
theorem dX8_init_56 : decode cX8_init 56 = .ok (.newarray .int, 2) := by decide +kernel
theorem dX8_init_58 : decode cX8_init 58 = .ok (.putfield 30, 3) := by decide +kernel
theorem dX8_init_61 : decode cX8_init 61 = .ok (.aload_n 0, 1) := by decide +kernel
theorem dX8_init_62 : decode cX8_init 62 = .ok (.bipush 19, 2) := by decide +kernel
theorem dX8_init_64 : decode cX8_init 64 = .ok (.newarray .int, 2) := by decide +kernel
theorem dX8_init_66 : decode cX8_init 66 = .ok (.putfield 33, 3) := by decide +kernel
theorem dX8_init_69 : decode cX8_init 69 = .ok (.aload_n 0, 1) := by decide +kernel
theorem dX8_init_70 : decode cX8_init 70 = .ok (.iconst 4, 1) := by decide +kernel
theorem dX8_init_71 : decode cX8_init 71 = .ok (.newarray .boolean, 2) := by decide +kernel
theorem dX8_init_73 : decode cX8_init 73 = .ok (.putfield 36, 3) := by decide +kernel
theorem dX8_init_76 : decode cX8_init 76 = .ok (.aload_n 0, 1) := by decide +kernel
theorem dX8_init_77 : decode cX8_init 77 = .ok (.iconst 4, 1) := by decide +kernel
theorem dX8_init_78 : decode cX8_init 78 = .ok (.newarray .int, 2) := by decide +kernel
theorem dX8_init_80 : decode cX8_init 80 = .ok (.putfield 40, 3) := by decide +kernel
theorem dX8_init_83 : decode cX8_init 83 = .ok (.aload_n 0, 1) := by decide +kernel
theorem dX8_init_84 : decode cX8_init 84 = .ok (.iconst 4, 1) := by decide +kernel
theorem dX8_init_85 : decode cX8_init 85 = .ok (.newarray .int, 2) := by decide +kernel
theorem dX8_init_87 : decode cX8_init 87 = .ok (.putfield 43, 3) := by decide +kernel
theorem dX8_init_90 : decode cX8_init 90 = .ok (.aload_n 0, 1) := by decide +kernel
theorem dX8_init_91 : decode cX8_init 91 = .ok (.iconst 4, 1) := by decide +kernel
theorem dX8_init_92 : decode cX8_init 92 = .ok (.newarray .int, 2) := by decide +kernel
theorem dX8_init_94 : decode cX8_init 94 = .ok (.putfield 46, 3) := by decide +kernel
theorem dX8_init_97 : decode cX8_init 97 = .ok (.aload_n 0, 1) := by decide +kernel
theorem dX8_init_98 : decode cX8_init 98 = .ok (.iconst 4, 1) := by decide +kernel
theorem dX8_init_99 : decode cX8_init 99 = .ok (.newarray .int, 2) := by decide +kernel
theorem dX8_init_101 : decode cX8_init 101 = .ok (.putfield 49, 3) := by decide +kernel
theorem dX8_init_104 : decode cX8_init 104 = .ok (.aload_n 0, 1) := by decide +kernel
theorem dX8_init_105 : decode cX8_init 105 = .ok (.bipush 76, 2) := by decide +kernel
theorem dX8_init_107 : decode cX8_init 107 = .ok (.newarray .int, 2) := by decide +kernel
theorem dX8_init_109 : decode cX8_init 109 = .ok (.putfield 52, 3) := by decide +kernel
theorem dX8_init_112 : decode cX8_init 112 = .ok (.aload_n 0, 1) := by decide +kernel
theorem dX8_init_113 : decode cX8_init 113 = .ok (.bipush 76, 2) := by decide +kernel
theorem dX8_init_115 : decode cX8_init 115 = .ok (.newarray .int, 2) := by decide +kernel
theorem dX8_init_117 : decode cX8_init 117 = .ok (.putfield 55, 3) := by decide +kernel
theorem dX8_init_120 : decode cX8_init 120 = .ok (.aload_n 0, 1) := by decide +kernel
theorem dX8_init_121 : decode cX8_init 121 = .ok (.bipush 76, 2) := by decide +kernel
theorem dX8_init_123 : decode cX8_init 123 = .ok (.newarray .int, 2) := by decide +kernel
theorem dX8_init_125 : decode cX8_init 125 = .ok (.putfield 58, 3) := by decide +kernel
theorem dX8_init_128 : decode cX8_init 128 = .ok (.aload_n 0, 1) := by decide +kernel
theorem dX8_init_129 : decode cX8_init 129 = .ok (.bipush 76, 2) := by decide +kernel
theorem dX8_init_131 : decode cX8_init 131 = .ok (.newarray .long, 2) := by decide +kernel
theorem dX8_init_133 : decode cX8_init 133 = .ok (.putfield 61, 3) := by decide +kernel
theorem dX8_init_136 : decode cX8_init 136 = .ok (.aload_n 0, 1) := by decide +kernel
theorem dX8_init_137 : decode cX8_init 137 = .ok (.bipush 76, 2) := by decide +kernel
theorem dX8_init_139 : decode cX8_init 139 = .ok (.newarray .long, 2) := by decide +kernel
theorem dX8_init_141 : decode cX8_init 141 = .ok (.putfield 65, 3) := by decide +kernel
theorem dX8_init_144 : decode cX8_init 144 = .ok (.aload_n 0, 1) := by decide +kernel
theorem dX8_init_145 : decode cX8_init 145 = .ok (.bipush 80, 2) := by decide +kernel
theorem dX8_init_147 : decode cX8_init 147 = .ok (.newarray .int, 2) := by decide +kernel
theorem dX8_init_149 : decode cX8_init 149 = .ok (.putfield 68, 3) := by decide +kernel
theorem dX8_init_152 : decode cX8_init 152 = .ok (.aload_n 0, 1) := by decide +kernel
theorem dX8_init_153 : decode cX8_init 153 = .ok (.bipush 40, 2) := by decide +kernel
theorem dX8_init_155 : decode cX8_init 155 = .ok (.newarray .int, 2) := by decide +kernel
theorem dX8_init_157 : decode cX8_init 157 = .ok (.putfield 71, 3) := by decide +kernel
theorem dX8_init_160 : decode cX8_init 160 = .ok (.aload_n 0, 1) := by decide +kernel
theorem dX8_init_161 : decode cX8_init 161 = .ok (.bipush 40, 2) := by decide +kernel
theorem dX8_init_163 : decode cX8_init 163 = .ok (.newarray .boolean, 2) := by decide +kernel
theorem dX8_init_165 : decode cX8_init 165 = .ok (.putfield 74, 3) := by decide +kernel
theorem dX8_init_168 : decode cX8_init 168 = .ok (.aload_n 0, 1) := by decide +kernel
theorem dX8_init_169 : decode cX8_init 169 = .ok (.bipush 19, 2) := by decide +kernel
theorem dX8_init_171 : decode cX8_init 171 = .ok (.newarray .int, 2) := by decide +kernel
theorem dX8_init_173 : decode cX8_init 173 = .ok (.putfield 77, 3) := by decide +kernel
theorem dX8_init_176 : decode cX8_init 176 = .ok (.aload_n 0, 1) := by decide +kernel
theorem dX8_init_177 : decode cX8_init 177 = .ok (.bipush 19, 2) := by decide +kernel
theorem dX8_init_179 : decode cX8_init 179 = .ok (.newarray .int, 2) := by decide +kernel
theorem dX8_init_181 : decode cX8_init 181 = .ok (.putfield 80, 3) := by decide +kernel
theorem dX8_init_184 : decode cX8_init 184 = .ok (.aload_n 0, 1) := by decide +kernel
theorem dX8_init_185 : decode cX8_init 185 = .ok (.bipush 19, 2) := by decide +kernel
theorem dX8_init_187 : decode cX8_init 187 = .ok (.newarray .long, 2) := by decide +kernel
theorem dX8_init_189 : decode cX8_init 189 = .ok (.putfield 83, 3) := by decide +kernel
theorem dX8_init_192 : decode cX8_init 192 = .ok (.aload_n 0, 1) := by decide +kernel
theorem dX8_init_193 : decode cX8_init 193 = .ok (.bipush 19, 2) := by decide +kernel
theorem dX8_init_195 : decode cX8_init 195 = .ok (.newarray .long, 2) := by decide +kernel
theorem dX8_init_197 : decode cX8_init 197 = .ok (.putfield 86, 3) := by decide +kernel
theorem dX8_init_200 : decode cX8_init 200 = .ok (.aload_n 0, 1) := by decide +kernel
theorem dX8_init_201 : decode cX8_init 201 = .ok (.bipush 40, 2) := by decide +kernel
theorem dX8_init_203 : decode cX8_init 203 = .ok (.newarray .int, 2) := by decide +kernel
theorem dX8_init_205 : decode cX8_init 205 = .ok (.putfield 89, 3) := by decide +kernel
theorem dX8_init_208 : decode cX8_init 208 = .ok (.aload_n 0, 1) := by decide +kernel
theorem dX8_init_209 : decode cX8_init 209 = .ok (.bipush 19, 2) := by decide +kernel
theorem dX8_init_211 : decode cX8_init 211 = .ok (.newarray .int, 2) := by decide +kernel
theorem dX8_init_213 : decode cX8_init 213 = .ok (.putfield 92, 3) := by decide +kernel
theorem dX8_init_216 : decode cX8_init 216 = .ok (.aload_n 0, 1) := by decide +kernel
theorem dX8_init_217 : decode cX8_init 217 = .ok (.bipush 40, 2) := by decide +kernel
theorem dX8_init_219 : decode cX8_init 219 = .ok (.newarray .int, 2) := by decide +kernel
theorem dX8_init_221 : decode cX8_init 221 = .ok (.putfield 95, 3) := by decide +kernel
theorem dX8_init_224 : decode cX8_init 224 = .ok (.aload_n 0, 1) := by decide +kernel
theorem dX8_init_225 : decode cX8_init 225 = .ok (.bipush 100, 2) := by decide +kernel
theorem dX8_init_227 : decode cX8_init 227 = .ok (.newarray .int, 2) := by decide +kernel
theorem dX8_init_229 : decode cX8_init 229 = .ok (.putfield 98, 3) := by decide +kernel
theorem dX8_init_232 : decode cX8_init 232 = .ok (.aload_n 0, 1) := by decide +kernel
theorem dX8_init_233 : decode cX8_init 233 = .ok (.bipush 20, 2) := by decide +kernel
theorem dX8_init_235 : decode cX8_init 235 = .ok (.newarray .int, 2) := by decide +kernel
theorem dX8_init_237 : decode cX8_init 237 = .ok (.putfield 101, 3) := by decide +kernel
theorem dX8_init_240 : decode cX8_init 240 = .ok (.aload_n 0, 1) := by decide +kernel
theorem dX8_init_241 : decode cX8_init 241 = .ok (.sipush 2400, 3) := by decide +kernel
theorem dX8_init_244 : decode cX8_init 244 = .ok (.newarray .byte, 2) := by decide +kernel
theorem dX8_init_246 : decode cX8_init 246 = .ok (.putfield 104, 3) := by decide +kernel
theorem dX8_init_249 : decode cX8_init 249 = .ok (.return_, 1) := by decide +kernel
theorem dX8_isIn_0 : decode cX8_isIn 0 = .ok (.iload_n 0, 1) := by decide +kernel
theorem dX8_isIn_1 : decode cX8_isIn 1 = .ok (.ifCond .lt 12, 3) := by decide +kernel
theorem dX8_isIn_4 : decode cX8_isIn 4 = .ok (.iload_n 0, 1) := by decide +kernel
theorem dX8_isIn_5 : decode cX8_isIn 5 = .ok (.iload_n 1, 1) := by decide +kernel
theorem dX8_isIn_6 : decode cX8_isIn 6 = .ok (.if_icmp .ge 7, 3) := by decide +kernel
theorem dX8_isIn_9 : decode cX8_isIn 9 = .ok (.iconst 1, 1) := by decide +kernel
theorem dX8_isIn_10 : decode cX8_isIn 10 = .ok (.goto 4, 3) := by decide +kernel
theorem dX8_isIn_13 : decode cX8_isIn 13 = .ok (.iconst 0, 1) := by decide +kernel
theorem dX8_isIn_14 : decode cX8_isIn 14 = .ok (.ireturn, 1) := by decide +kernel
theorem dX8_points_0 : decode cX8_points 0 = .ok (.iload_n 1, 1) := by decide +kernel
theorem dX8_points_1 : decode cX8_points 1 = .ok (.ifCond .lt 9, 3) := by decide +kernel
theorem dX8_points_4 : decode cX8_points 4 = .ok (.iload_n 1, 1) := by decide +kernel
theorem dX8_points_5 : decode cX8_points 5 = .ok (.bipush 20, 2) := by decide +kernel
theorem dX8_points_7 : decode cX8_points 7 = .ok (.if_icmp .le 5, 3) := by decide +kernel
theorem dX8_points_10 : decode cX8_points 10 = .ok (.iconst (-1), 1) := by decide +kernel
theorem dX8_points_11 : decode cX8_points 11 = .ok (.ireturn, 1) := by decide +kernel
theorem dX8_points_12 : decode cX8_points 12 = .ok (.aload_n 0, 1) := by decide +kernel
theorem dX8_points_13 : decode cX8_points 13 = .ok (.iload_n 1, 1) := by decide +kernel
theorem dX8_points_14 : decode cX8_points 14 = .ok (.putfield 107, 3) := by decide +kernel
theorem dX8_points_17 : decode cX8_points 17 = .ok (.iconst 0, 1) := by decide +kernel
theorem dX8_points_18 : decode cX8_points 18 = .ok (.istore_n 2, 1) := by decide +kernel
theorem dX8_points_19 : decode cX8_points 19 = .ok (.iload_n 2, 1) := by decide +kernel
theorem dX8_points_20 : decode cX8_points 20 = .ok (.sipush 400, 3) := by decide +kernel
theorem dX8_points_23 : decode cX8_points 23 = .ok (.if_icmp .ge 16, 3) := by decide +kernel
theorem dX8_points_26 : decode cX8_points 26 = .ok (.aload_n 0, 1) := by decide +kernel
theorem dX8_points_27 : decode cX8_points 27 = .ok (.getfield 7, 3) := by decide +kernel
theorem dX8_points_30 : decode cX8_points 30 = .ok (.iload_n 2, 1) := by decide +kernel
theorem dX8_points_31 : decode cX8_points 31 = .ok (.iconst 0, 1) := by decide +kernel
theorem dX8_points_32 : decode cX8_points 32 = .ok (.iastore, 1) := by decide +kernel
theorem dX8_points_33 : decode cX8_points 33 = .ok (.iinc 2 1, 3) := by decide +kernel
theorem dX8_points_36 : decode cX8_points 36 = .ok (.goto (-17), 3) := by decide +kernel
theorem dX8_points_39 : decode cX8_points 39 = .ok (.iconst 0, 1) := by decide +kernel
theorem dX8_points_40 : decode cX8_points 40 = .ok (.istore_n 2, 1) := by decide +kernel
theorem dX8_points_41 : decode cX8_points 41 = .ok (.iload_n 2, 1) := by decide +kernel
theorem dX8_points_42 : decode cX8_points 42 = .ok (.bipush 20, 2) := by decide +kernel
theorem dX8_points_44 : decode cX8_points 44 = .ok (.if_icmp .ge 23, 3) := by decide +kernel
theorem dX8_points_47 : decode cX8_points 47 = .ok (.aload_n 0, 1) := by decide +kernel
theorem dX8_points_48 : decode cX8_points 48 = .ok (.getfield 13, 3) := by decide +kernel
theorem dX8_points_51 : decode cX8_points 51 = .ok (.iload_n 2, 1) := by decide +kernel
theorem dX8_points_52 : decode cX8_points 52 = .ok (.iconst 0, 1) := by decide +kernel
theorem dX8_points_53 : decode cX8_points 53 = .ok (.iastore, 1) := by decide +kernel
theorem dX8_points_54 : decode cX8_points 54 = .ok (.aload_n 0, 1) := by decide +kernel
theorem dX8_points_55 : decode cX8_points 55 = .ok (.getfield 16, 3) := by decide +kernel
theorem dX8_points_58 : decode cX8_points 58 = .ok (.iload_n 2, 1) := by decide +kernel
theorem dX8_points_59 : decode cX8_points 59 = .ok (.iconst 0, 1) := by decide +kernel
theorem dX8_points_60 : decode cX8_points 60 = .ok (.iastore, 1) := by decide +kernel
theorem dX8_points_61 : decode cX8_points 61 = .ok (.iinc 2 1, 3) := by decide +kernel
theorem dX8_points_64 : decode cX8_points 64 = .ok (.goto (-23), 3) := by decide +kernel
theorem dX8_points_67 : decode cX8_points 67 = .ok (.aload_n 0, 1) := by decide +kernel
theorem dX8_points_68 : decode cX8_points 68 = .ok (.getfield 107, 3) := by decide +kernel
theorem dX8_points_71 : decode cX8_points 71 = .ok (.ireturn, 1) := by decide +kernel
theorem dX8_sets_0 : decode cX8_sets 0 = .ok (.aload_n 0, 1) := by decide +kernel
theorem dX8_sets_1 : decode cX8_sets 1 = .ok (.getfield 7, 3) := by decide +kernel
theorem dX8_sets_4 : decode cX8_sets 4 = .ok (.bipush 20, 2) := by decide +kernel
theorem dX8_sets_6 : decode cX8_sets 6 = .ok (.iload_n 1, 1) := by decide +kernel
theorem dX8_sets_7 : decode cX8_sets 7 = .ok (.imul, 1) := by decide +kernel
theorem dX8_sets_8 : decode cX8_sets 8 = .ok (.iload_n 2, 1) := by decide +kernel
theorem dX8_sets_9 : decode cX8_sets 9 = .ok (.iadd, 1) := by decide +kernel
theorem dX8_sets_10 : decode cX8_sets 10 = .ok (.iload_n 3, 1) := by decide +kernel
theorem dX8_sets_11 : decode cX8_sets 11 = .ok (.iastore, 1) := by decide +kernel
theorem dX8_sets_12 : decode cX8_sets 12 = .ok (.aload_n 0, 1) := by decide +kernel
theorem dX8_sets_13 : decode cX8_sets 13 = .ok (.getfield 7, 3) := by decide +kernel
theorem dX8_sets_16 : decode cX8_sets 16 = .ok (.bipush 20, 2) := by decide +kernel
theorem dX8_sets_18 : decode cX8_sets 18 = .ok (.iload_n 2, 1) := by decide +kernel
theorem dX8_sets_19 : decode cX8_sets 19 = .ok (.imul, 1) := by decide +kernel
theorem dX8_sets_20 : decode cX8_sets 20 = .ok (.iload_n 1, 1) := by decide +kernel
theorem dX8_sets_21 : decode cX8_sets 21 = .ok (.iadd, 1) := by decide +kernel
theorem dX8_sets_22 : decode cX8_sets 22 = .ok (.iload_n 3, 1) := by decide +kernel
theorem dX8_sets_23 : decode cX8_sets 23 = .ok (.iastore, 1) := by decide +kernel
theorem dX8_sets_24 : decode cX8_sets 24 = .ok (.return_, 1) := by decide +kernel
theorem dX8_put_0 : decode cX8_put 0 = .ok (.iload_n 1, 1) := by decide +kernel
theorem dX8_put_1 : decode cX8_put 1 = .ok (.aload_n 0, 1) := by decide +kernel
theorem dX8_put_2 : decode cX8_put 2 = .ok (.getfield 107, 3) := by decide +kernel
theorem dX8_put_5 : decode cX8_put 5 = .ok (.invokestatic 110, 3) := by decide +kernel
theorem dX8_put_8 : decode cX8_put 8 = .ok (.ifCond .eq 28, 3) := by decide +kernel
theorem dX8_put_11 : decode cX8_put 11 = .ok (.iload_n 2, 1) := by decide +kernel
theorem dX8_put_12 : decode cX8_put 12 = .ok (.aload_n 0, 1) := by decide +kernel
theorem dX8_put_13 : decode cX8_put 13 = .ok (.getfield 107, 3) := by decide +kernel
theorem dX8_put_16 : decode cX8_put 16 = .ok (.invokestatic 110, 3) := by decide +kernel
theorem dX8_put_19 : decode cX8_put 19 = .ok (.ifCond .eq 17, 3) := by decide +kernel
theorem dX8_put_22 : decode cX8_put 22 = .ok (.iload_n 1, 1) := by decide +kernel
theorem dX8_put_23 : decode cX8_put 23 = .ok (.iload_n 2, 1) := by decide +kernel
theorem dX8_put_24 : decode cX8_put 24 = .ok (.if_icmp .eq 12, 3) := by decide +kernel
theorem dX8_put_27 : decode cX8_put 27 = .ok (.iload_n 3, 1) := by decide +kernel
theorem dX8_put_28 : decode cX8_put 28 = .ok (.ldc 114, 2) := by decide +kernel
theorem dX8_put_30 : decode cX8_put 30 = .ok (.invokestatic 110, 3) := by decide +kernel
theorem dX8_put_33 : decode cX8_put 33 = .ok (.ifCond .ne 5, 3) := by decide +kernel
theorem dX8_put_36 : decode cX8_put 36 = .ok (.iconst 0, 1) := by decide +kernel
theorem dX8_put_37 : decode cX8_put 37 = .ok (.ireturn, 1) := by decide +kernel
theorem dX8_put_38 : decode cX8_put 38 = .ok (.aload_n 0, 1) := by decide +kernel
theorem dX8_put_39 : decode cX8_put 39 = .ok (.iload_n 1, 1) := by decide +kernel
theorem dX8_put_40 : decode cX8_put 40 = .ok (.iload_n 2, 1) := by decide +kernel
theorem dX8_put_41 : decode cX8_put 41 = .ok (.iload_n 3, 1) := by decide +kernel
theorem dX8_put_42 : decode cX8_put 42 = .ok (.invokevirtual 115, 3) := by decide +kernel
theorem dX8_put_45 : decode cX8_put 45 = .ok (.iconst 1, 1) := by decide +kernel
theorem dX8_put_46 : decode cX8_put 46 = .ok (.ireturn, 1) := by decide +kernel
theorem dX8_distance_0 : decode cX8_distance 0 = .ok (.iload_n 1, 1) := by decide +kernel
theorem dX8_distance_1 : decode cX8_distance 1 = .ok (.aload_n 0, 1) := by decide +kernel
theorem dX8_distance_2 : decode cX8_distance 2 = .ok (.getfield 107, 3) := by decide +kernel
theorem dX8_distance_5 : decode cX8_distance 5 = .ok (.invokestatic 110, 3) := by decide +kernel
theorem dX8_distance_8 : decode cX8_distance 8 = .ok (.ifCond .eq 28, 3) := by decide +kernel
theorem dX8_distance_11 : decode cX8_distance 11 = .ok (.iload_n 2, 1) := by decide +kernel
theorem dX8_distance_12 : decode cX8_distance 12 = .ok (.aload_n 0, 1) := by decide +kernel
theorem dX8_distance_13 : decode cX8_distance 13 = .ok (.getfield 107, 3) := by decide +kernel
theorem dX8_distance_16 : decode cX8_distance 16 = .ok (.invokestatic 110, 3) := by decide +kernel
theorem dX8_distance_19 : decode cX8_distance 19 = .ok (.ifCond .eq 17, 3) := by decide +kernel
theorem dX8_distance_22 : decode cX8_distance 22 = .ok (.aload_n 0, 1) := by decide +kernel
theorem dX8_distance_23 : decode cX8_distance 23 = .ok (.getfield 7, 3) := by decide +kernel
theorem dX8_distance_26 : decode cX8_distance 26 = .ok (.bipush 20, 2) := by decide +kernel
theorem dX8_distance_28 : decode cX8_distance 28 = .ok (.iload_n 1, 1) := by decide +kernel
theorem dX8_distance_29 : decode cX8_distance 29 = .ok (.imul, 1) := by decide +kernel
theorem dX8_distance_30 : decode cX8_distance 30 = .ok (.iload_n 2, 1) := by decide +kernel
theorem dX8_distance_31 : decode cX8_distance 31 = .ok (.iadd, 1) := by decide +kernel
theorem dX8_distance_32 : decode cX8_distance 32 = .ok (.iaload, 1) := by decide +kernel
theorem dX8_distance_33 : decode cX8_distance 33 = .ok (.goto 4, 3) := by decide +kernel
theorem dX8_distance_36 : decode cX8_distance 36 = .ok (.iconst (-1), 1) := by decide +kernel
theorem dX8_distance_37 : decode cX8_distance 37 = .ok (.ireturn, 1) := by decide +kernel
theorem dX8_place_0 : decode cX8_place 0 = .ok (.iload_n 1, 1) := by decide +kernel
theorem dX8_place_1 : decode cX8_place 1 = .ok (.aload_n 0, 1) := by decide +kernel
theorem dX8_place_2 : decode cX8_place 2 = .ok (.getfield 107, 3) := by decide +kernel
theorem dX8_place_5 : decode cX8_place 5 = .ok (.invokestatic 110, 3) := by decide +kernel
theorem dX8_place_8 : decode cX8_place 8 = .ok (.ifCond .eq 31, 3) := by decide +kernel
theorem dX8_place_11 : decode cX8_place 11 = .ok (.iload_n 2, 1) := by decide +kernel
theorem dX8_place_12 : decode cX8_place 12 = .ok (.sipush (-500), 3) := by decide +kernel
theorem dX8_place_15 : decode cX8_place 15 = .ok (.if_icmp .lt 24, 3) := by decide +kernel
theorem dX8_place_18 : decode cX8_place 18 = .ok (.iload_n 2, 1) := by decide +kernel
theorem dX8_place_19 : decode cX8_place 19 = .ok (.sipush 500, 3) := by decide +kernel
theorem dX8_place_22 : decode cX8_place 22 = .ok (.if_icmp .gt 17, 3) := by decide +kernel
theorem dX8_place_25 : decode cX8_place 25 = .ok (.iload_n 3, 1) := by decide +kernel
theorem dX8_place_26 : decode cX8_place 26 = .ok (.sipush (-500), 3) := by decide +kernel
theorem dX8_place_29 : decode cX8_place 29 = .ok (.if_icmp .lt 10, 3) := by decide +kernel
theorem dX8_place_32 : decode cX8_place 32 = .ok (.iload_n 3, 1) := by decide +kernel
theorem dX8_place_33 : decode cX8_place 33 = .ok (.sipush 500, 3) := by decide +kernel
theorem dX8_place_36 : decode cX8_place 36 = .ok (.if_icmp .le 5, 3) := by decide +kernel
theorem dX8_place_39 : decode cX8_place 39 = .ok (.iconst 0, 1) := by decide +kernel
theorem dX8_place_40 : decode cX8_place 40 = .ok (.ireturn, 1) := by decide +kernel
theorem dX8_place_41 : decode cX8_place 41 = .ok (.aload_n 0, 1) := by decide +kernel
theorem dX8_place_42 : decode cX8_place 42 = .ok (.getfield 13, 3) := by decide +kernel
theorem dX8_place_45 : decode cX8_place 45 = .ok (.iload_n 1, 1) := by decide +kernel
theorem dX8_place_46 : decode cX8_place 46 = .ok (.iload_n 2, 1) := by decide +kernel
theorem dX8_place_47 : decode cX8_place 47 = .ok (.iastore, 1) := by decide +kernel
theorem dX8_place_48 : decode cX8_place 48 = .ok (.aload_n 0, 1) := by decide +kernel
theorem dX8_place_49 : decode cX8_place 49 = .ok (.getfield 16, 3) := by decide +kernel
theorem dX8_place_52 : decode cX8_place 52 = .ok (.iload_n 1, 1) := by decide +kernel
theorem dX8_place_53 : decode cX8_place 53 = .ok (.iload_n 3, 1) := by decide +kernel
theorem dX8_place_54 : decode cX8_place 54 = .ok (.iastore, 1) := by decide +kernel
theorem dX8_place_55 : decode cX8_place 55 = .ok (.iconst 1, 1) := by decide +kernel
theorem dX8_place_56 : decode cX8_place 56 = .ok (.ireturn, 1) := by decide +kernel
theorem dX8_sizeOf_0 : decode cX8_sizeOf 0 = .ok (.iload_n 0, 1) := by decide +kernel
theorem dX8_sizeOf_1 : decode cX8_sizeOf 1 = .ok (.ifCond .ge 8, 3) := by decide +kernel
theorem dX8_sizeOf_4 : decode cX8_sizeOf 4 = .ok (.iload_n 0, 1) := by decide +kernel
theorem dX8_sizeOf_5 : decode cX8_sizeOf 5 = .ok (.ineg, 1) := by decide +kernel
theorem dX8_sizeOf_6 : decode cX8_sizeOf 6 = .ok (.goto 4, 3) := by decide +kernel
theorem dX8_sizeOf_9 : decode cX8_sizeOf 9 = .ok (.iload_n 0, 1) := by decide +kernel
theorem dX8_sizeOf_10 : decode cX8_sizeOf 10 = .ok (.ireturn, 1) := by decide +kernel
theorem dX8_measure_0 : decode cX8_measure 0 = .ok (.iload_n 1, 1) := by decide +kernel
theorem dX8_measure_1 : decode cX8_measure 1 = .ok (.iconst 3, 1) := by decide +kernel
theorem dX8_measure_2 : decode cX8_measure 2 = .ok (.invokestatic 110, 3) := by decide +kernel
theorem dX8_measure_5 : decode cX8_measure 5 = .ok (.ifCond .ne 5, 3) := by decide +kernel
theorem dX8_measure_8 : decode cX8_measure 8 = .ok (.iconst 0, 1) := by decide +kernel
theorem dX8_measure_9 : decode cX8_measure 9 = .ok (.ireturn, 1) := by decide +kernel
theorem dX8_measure_10 : decode cX8_measure 10 = .ok (.iconst 0, 1) := by decide +kernel
theorem dX8_measure_11 : decode cX8_measure 11 = .ok (.istore_n 2, 1) := by decide +kernel
theorem dX8_measure_12 : decode cX8_measure 12 = .ok (.iload_n 2, 1) := by decide +kernel
theorem dX8_measure_13 : decode cX8_measure 13 = .ok (.aload_n 0, 1) := by decide +kernel
theorem dX8_measure_14 : decode cX8_measure 14 = .ok (.getfield 107, 3) := by decide +kernel
theorem dX8_measure_17 : decode cX8_measure 17 = .ok (.if_icmp .ge 109, 3) := by decide +kernel
theorem dX8_measure_20 : decode cX8_measure 20 = .ok (.iconst 0, 1) := by decide +kernel
theorem dX8_measure_21 : decode cX8_measure 21 = .ok (.istore_n 3, 1) := by decide +kernel
theorem dX8_measure_22 : decode cX8_measure 22 = .ok (.iload_n 3, 1) := by decide +kernel
theorem dX8_measure_23 : decode cX8_measure 23 = .ok (.iload_n 2, 1) := by decide +kernel
theorem dX8_measure_24 : decode cX8_measure 24 = .ok (.if_icmp .ge 96, 3) := by decide +kernel
theorem dX8_measure_27 : decode cX8_measure 27 = .ok (.aload_n 0, 1) := by decide +kernel
theorem dX8_measure_28 : decode cX8_measure 28 = .ok (.getfield 13, 3) := by decide +kernel
theorem dX8_measure_31 : decode cX8_measure 31 = .ok (.iload_n 2, 1) := by decide +kernel
theorem dX8_measure_32 : decode cX8_measure 32 = .ok (.iaload, 1) := by decide +kernel
theorem dX8_measure_33 : decode cX8_measure 33 = .ok (.aload_n 0, 1) := by decide +kernel
theorem dX8_measure_34 : decode cX8_measure 34 = .ok (.getfield 13, 3) := by decide +kernel
theorem dX8_measure_37 : decode cX8_measure 37 = .ok (.iload_n 3, 1) := by decide +kernel
theorem dX8_measure_38 : decode cX8_measure 38 = .ok (.iaload, 1) := by decide +kernel
theorem dX8_measure_39 : decode cX8_measure 39 = .ok (.isub, 1) := by decide +kernel
theorem dX8_measure_40 : decode cX8_measure 40 = .ok (.invokestatic 119, 3) := by decide +kernel
theorem dX8_measure_43 : decode cX8_measure 43 = .ok (.istore 4, 2) := by decide +kernel
theorem dX8_measure_45 : decode cX8_measure 45 = .ok (.aload_n 0, 1) := by decide +kernel
theorem dX8_measure_46 : decode cX8_measure 46 = .ok (.getfield 16, 3) := by decide +kernel
theorem dX8_measure_49 : decode cX8_measure 49 = .ok (.iload_n 2, 1) := by decide +kernel
theorem dX8_measure_50 : decode cX8_measure 50 = .ok (.iaload, 1) := by decide +kernel
theorem dX8_measure_51 : decode cX8_measure 51 = .ok (.aload_n 0, 1) := by decide +kernel
theorem dX8_measure_52 : decode cX8_measure 52 = .ok (.getfield 16, 3) := by decide +kernel
theorem dX8_measure_55 : decode cX8_measure 55 = .ok (.iload_n 3, 1) := by decide +kernel
theorem dX8_measure_56 : decode cX8_measure 56 = .ok (.iaload, 1) := by decide +kernel
theorem dX8_measure_57 : decode cX8_measure 57 = .ok (.isub, 1) := by decide +kernel
theorem dX8_measure_58 : decode cX8_measure 58 = .ok (.invokestatic 119, 3) := by decide +kernel
theorem dX8_measure_61 : decode cX8_measure 61 = .ok (.istore 5, 2) := by decide +kernel
theorem dX8_measure_63 : decode cX8_measure 63 = .ok (.aload_n 0, 1) := by decide +kernel
theorem dX8_measure_64 : decode cX8_measure 64 = .ok (.iload_n 2, 1) := by decide +kernel
theorem dX8_measure_65 : decode cX8_measure 65 = .ok (.iload_n 3, 1) := by decide +kernel
theorem dX8_measure_66 : decode cX8_measure 66 = .ok (.iload_n 1, 1) := by decide +kernel
theorem dX8_measure_67 : decode cX8_measure 67 = .ok (.ifCond .ne 17, 3) := by decide +kernel
theorem dX8_measure_70 : decode cX8_measure 70 = .ok (.iload 4, 2) := by decide +kernel
theorem dX8_measure_72 : decode cX8_measure 72 = .ok (.iload 4, 2) := by decide +kernel
theorem dX8_measure_74 : decode cX8_measure 74 = .ok (.imul, 1) := by decide +kernel
theorem dX8_measure_75 : decode cX8_measure 75 = .ok (.iload 5, 2) := by decide +kernel
theorem dX8_measure_77 : decode cX8_measure 77 = .ok (.iload 5, 2) := by decide +kernel
theorem dX8_measure_79 : decode cX8_measure 79 = .ok (.imul, 1) := by decide +kernel
theorem dX8_measure_80 : decode cX8_measure 80 = .ok (.iadd, 1) := by decide +kernel
theorem dX8_measure_81 : decode cX8_measure 81 = .ok (.goto 30, 3) := by decide +kernel
theorem dX8_measure_84 : decode cX8_measure 84 = .ok (.iload_n 1, 1) := by decide +kernel
theorem dX8_measure_85 : decode cX8_measure 85 = .ok (.iconst 1, 1) := by decide +kernel
theorem dX8_measure_86 : decode cX8_measure 86 = .ok (.if_icmp .ne 11, 3) := by decide +kernel
theorem dX8_measure_89 : decode cX8_measure 89 = .ok (.iload 4, 2) := by decide +kernel
theorem dX8_measure_91 : decode cX8_measure 91 = .ok (.iload 5, 2) := by decide +kernel
theorem dX8_measure_93 : decode cX8_measure 93 = .ok (.iadd, 1) := by decide +kernel
theorem dX8_measure_94 : decode cX8_measure 94 = .ok (.goto 17, 3) := by decide +kernel
theorem dX8_measure_97 : decode cX8_measure 97 = .ok (.iload 4, 2) := by decide +kernel
theorem dX8_measure_99 : decode cX8_measure 99 = .ok (.iload 5, 2) := by decide +kernel
theorem dX8_measure_101 : decode cX8_measure 101 = .ok (.if_icmp .le 8, 3) := by decide +kernel
theorem dX8_measure_104 : decode cX8_measure 104 = .ok (.iload 4, 2) := by decide +kernel
theorem dX8_measure_106 : decode cX8_measure 106 = .ok (.goto 5, 3) := by decide +kernel
theorem dX8_measure_109 : decode cX8_measure 109 = .ok (.iload 5, 2) := by decide +kernel
theorem dX8_measure_111 : decode cX8_measure 111 = .ok (.invokevirtual 115, 3) := by decide +kernel
theorem dX8_measure_114 : decode cX8_measure 114 = .ok (.iinc 3 1, 3) := by decide +kernel
theorem dX8_measure_117 : decode cX8_measure 117 = .ok (.goto (-95), 3) := by decide +kernel
theorem dX8_measure_120 : decode cX8_measure 120 = .ok (.iinc 2 1, 3) := by decide +kernel
theorem dX8_measure_123 : decode cX8_measure 123 = .ok (.goto (-111), 3) := by decide +kernel
theorem dX8_measure_126 : decode cX8_measure 126 = .ok (.iconst 1, 1) := by decide +kernel
theorem dX8_measure_127 : decode cX8_measure 127 = .ok (.ireturn, 1) := by decide +kernel
theorem dX8_feed_0 : decode cX8_feed 0 = .ok (.aload_n 0, 1) := by decide +kernel
theorem dX8_feed_1 : decode cX8_feed 1 = .ok (.getfield 123, 3) := by decide +kernel
theorem dX8_feed_4 : decode cX8_feed 4 = .ok (.bipush 20, 2) := by decide +kernel
theorem dX8_feed_6 : decode cX8_feed 6 = .ok (.iadd, 1) := by decide +kernel
theorem dX8_feed_7 : decode cX8_feed 7 = .ok (.sipush 2400, 3) := by decide +kernel
theorem dX8_feed_10 : decode cX8_feed 10 = .ok (.if_icmp .le 5, 3) := by decide +kernel
theorem dX8_feed_13 : decode cX8_feed 13 = .ok (.iconst (-1), 1) := by decide +kernel
theorem dX8_feed_14 : decode cX8_feed 14 = .ok (.ireturn, 1) := by decide +kernel
theorem dX8_feed_15 : decode cX8_feed 15 = .ok (.iconst 0, 1) := by decide +kernel
theorem dX8_feed_16 : decode cX8_feed 16 = .ok (.istore 6, 2) := by decide +kernel
theorem dX8_feed_18 : decode cX8_feed 18 = .ok (.iload 6, 2) := by decide +kernel
theorem dX8_feed_20 : decode cX8_feed 20 = .ok (.bipush 20, 2) := by decide +kernel
theorem dX8_feed_22 : decode cX8_feed 22 = .ok (.if_icmp .ge 90, 3) := by decide +kernel
theorem dX8_feed_25 : decode cX8_feed 25 = .ok (.iload 6, 2) := by decide +kernel
theorem dX8_feed_27 : decode cX8_feed 27 = .ok (.iconst 4, 1) := by decide +kernel
theorem dX8_feed_28 : decode cX8_feed 28 = .ok (.if_icmp .ge 7, 3) := by decide +kernel
theorem dX8_feed_31 : decode cX8_feed 31 = .ok (.iload_n 1, 1) := by decide +kernel
theorem dX8_feed_32 : decode cX8_feed 32 = .ok (.goto 39, 3) := by decide +kernel
theorem dX8_feed_35 : decode cX8_feed 35 = .ok (.iload 6, 2) := by decide +kernel
theorem dX8_feed_37 : decode cX8_feed 37 = .ok (.bipush 8, 2) := by decide +kernel
theorem dX8_feed_39 : decode cX8_feed 39 = .ok (.if_icmp .ge 7, 3) := by decide +kernel
theorem dX8_feed_42 : decode cX8_feed 42 = .ok (.iload_n 2, 1) := by decide +kernel
theorem dX8_feed_43 : decode cX8_feed 43 = .ok (.goto 28, 3) := by decide +kernel
theorem dX8_feed_46 : decode cX8_feed 46 = .ok (.iload 6, 2) := by decide +kernel
theorem dX8_feed_48 : decode cX8_feed 48 = .ok (.bipush 12, 2) := by decide +kernel
theorem dX8_feed_50 : decode cX8_feed 50 = .ok (.if_icmp .ge 7, 3) := by decide +kernel
theorem dX8_feed_53 : decode cX8_feed 53 = .ok (.iload_n 3, 1) := by decide +kernel
theorem dX8_feed_54 : decode cX8_feed 54 = .ok (.goto 17, 3) := by decide +kernel
theorem dX8_feed_57 : decode cX8_feed 57 = .ok (.iload 6, 2) := by decide +kernel
theorem dX8_feed_59 : decode cX8_feed 59 = .ok (.bipush 16, 2) := by decide +kernel
theorem dX8_feed_61 : decode cX8_feed 61 = .ok (.if_icmp .ge 8, 3) := by decide +kernel
theorem dX8_feed_64 : decode cX8_feed 64 = .ok (.iload 4, 2) := by decide +kernel
theorem dX8_feed_66 : decode cX8_feed 66 = .ok (.goto 5, 3) := by decide +kernel
theorem dX8_feed_69 : decode cX8_feed 69 = .ok (.iload 5, 2) := by decide +kernel
theorem dX8_feed_71 : decode cX8_feed 71 = .ok (.istore 7, 2) := by decide +kernel
theorem dX8_feed_73 : decode cX8_feed 73 = .ok (.aload_n 0, 1) := by decide +kernel
theorem dX8_feed_74 : decode cX8_feed 74 = .ok (.getfield 19, 3) := by decide +kernel
theorem dX8_feed_77 : decode cX8_feed 77 = .ok (.aload_n 0, 1) := by decide +kernel
theorem dX8_feed_78 : decode cX8_feed 78 = .ok (.getfield 123, 3) := by decide +kernel
theorem dX8_feed_81 : decode cX8_feed 81 = .ok (.iload 7, 2) := by decide +kernel
theorem dX8_feed_83 : decode cX8_feed 83 = .ok (.bipush 24, 2) := by decide +kernel
theorem dX8_feed_85 : decode cX8_feed 85 = .ok (.bipush 8, 2) := by decide +kernel
theorem dX8_feed_87 : decode cX8_feed 87 = .ok (.iload 6, 2) := by decide +kernel
theorem dX8_feed_89 : decode cX8_feed 89 = .ok (.iconst 4, 1) := by decide +kernel
theorem dX8_feed_90 : decode cX8_feed 90 = .ok (.irem, 1) := by decide +kernel
theorem dX8_feed_91 : decode cX8_feed 91 = .ok (.imul, 1) := by decide +kernel
theorem dX8_feed_92 : decode cX8_feed 92 = .ok (.isub, 1) := by decide +kernel
theorem dX8_feed_93 : decode cX8_feed 93 = .ok (.ishr, 1) := by decide +kernel
theorem dX8_feed_94 : decode cX8_feed 94 = .ok (.i2b, 1) := by decide +kernel
theorem dX8_feed_95 : decode cX8_feed 95 = .ok (.bastore, 1) := by decide +kernel
theorem dX8_feed_96 : decode cX8_feed 96 = .ok (.aload_n 0, 1) := by decide +kernel
theorem dX8_feed_97 : decode cX8_feed 97 = .ok (.dup, 1) := by decide +kernel
theorem dX8_feed_98 : decode cX8_feed 98 = .ok (.getfield 123, 3) := by decide +kernel
theorem dX8_feed_101 : decode cX8_feed 101 = .ok (.iconst 1, 1) := by decide +kernel
theorem dX8_feed_102 : decode cX8_feed 102 = .ok (.iadd, 1) := by decide +kernel
theorem dX8_feed_103 : decode cX8_feed 103 = .ok (.putfield 123, 3) := by decide +kernel
theorem dX8_feed_106 : decode cX8_feed 106 = .ok (.iinc 6 1, 3) := by decide +kernel
theorem dX8_feed_109 : decode cX8_feed 109 = .ok (.goto (-91), 3) := by decide +kernel
theorem dX8_feed_112 : decode cX8_feed 112 = .ok (.aload_n 0, 1) := by decide +kernel
theorem dX8_feed_113 : decode cX8_feed 113 = .ok (.getfield 123, 3) := by decide +kernel
theorem dX8_feed_116 : decode cX8_feed 116 = .ok (.ireturn, 1) := by decide +kernel
theorem dX8_end_0 : decode cX8_end 0 = .ok (.iload_n 1, 1) := by decide +kernel
theorem dX8_end_1 : decode cX8_end 1 = .ok (.ifCond .lt 11, 3) := by decide +kernel
theorem dX8_end_4 : decode cX8_end 4 = .ok (.iload_n 1, 1) := by decide +kernel
theorem dX8_end_5 : decode cX8_end 5 = .ok (.aload_n 0, 1) := by decide +kernel
theorem dX8_end_6 : decode cX8_end 6 = .ok (.getfield 123, 3) := by decide +kernel
theorem dX8_end_9 : decode cX8_end 9 = .ok (.if_icmp .le 5, 3) := by decide +kernel
theorem dX8_end_12 : decode cX8_end 12 = .ok (.iconst (-1), 1) := by decide +kernel
theorem dX8_end_13 : decode cX8_end 13 = .ok (.ireturn, 1) := by decide +kernel
theorem dX8_end_14 : decode cX8_end 14 = .ok (.aload_n 0, 1) := by decide +kernel
theorem dX8_end_15 : decode cX8_end 15 = .ok (.iload_n 1, 1) := by decide +kernel
theorem dX8_end_16 : decode cX8_end 16 = .ok (.putfield 123, 3) := by decide +kernel
theorem dX8_end_19 : decode cX8_end 19 = .ok (.iload_n 1, 1) := by decide +kernel
theorem dX8_end_20 : decode cX8_end 20 = .ok (.ireturn, 1) := by decide +kernel
theorem dX8_take_0 : decode cX8_take 0 = .ok (.iconst 0, 1) := by decide +kernel
theorem dX8_take_1 : decode cX8_take 1 = .ok (.istore_n 1, 1) := by decide +kernel
theorem dX8_take_2 : decode cX8_take 2 = .ok (.iload_n 1, 1) := by decide +kernel
theorem dX8_take_3 : decode cX8_take 3 = .ok (.aload_n 0, 1) := by decide +kernel
theorem dX8_take_4 : decode cX8_take 4 = .ok (.getfield 126, 3) := by decide +kernel
theorem dX8_take_7 : decode cX8_take 7 = .ok (.if_icmp .ge 21, 3) := by decide +kernel
theorem dX8_take_10 : decode cX8_take 10 = .ok (.aload_n 0, 1) := by decide +kernel
theorem dX8_take_11 : decode cX8_take 11 = .ok (.getfield 19, 3) := by decide +kernel
theorem dX8_take_14 : decode cX8_take 14 = .ok (.iload_n 1, 1) := by decide +kernel
theorem dX8_take_15 : decode cX8_take 15 = .ok (.aload_n 0, 1) := by decide +kernel
theorem dX8_take_16 : decode cX8_take 16 = .ok (.getfield 23, 3) := by decide +kernel
theorem dX8_take_19 : decode cX8_take 19 = .ok (.iload_n 1, 1) := by decide +kernel
theorem dX8_take_20 : decode cX8_take 20 = .ok (.baload, 1) := by decide +kernel
theorem dX8_take_21 : decode cX8_take 21 = .ok (.bastore, 1) := by decide +kernel
theorem dX8_take_22 : decode cX8_take 22 = .ok (.iinc 1 1, 3) := by decide +kernel
theorem dX8_take_25 : decode cX8_take 25 = .ok (.goto (-23), 3) := by decide +kernel
theorem dX8_take_28 : decode cX8_take 28 = .ok (.aload_n 0, 1) := by decide +kernel
theorem dX8_take_29 : decode cX8_take 29 = .ok (.aload_n 0, 1) := by decide +kernel
theorem dX8_take_30 : decode cX8_take 30 = .ok (.getfield 126, 3) := by decide +kernel
theorem dX8_take_33 : decode cX8_take 33 = .ok (.putfield 123, 3) := by decide +kernel
theorem dX8_take_36 : decode cX8_take 36 = .ok (.aload_n 0, 1) := by decide +kernel
theorem dX8_take_37 : decode cX8_take 37 = .ok (.getfield 123, 3) := by decide +kernel
theorem dX8_take_40 : decode cX8_take 40 = .ok (.ireturn, 1) := by decide +kernel
theorem dX8_read_0 : decode cX8_read 0 = .ok (.aload_n 0, 1) := by decide +kernel
theorem dX8_read_1 : decode cX8_read 1 = .ok (.getfield 123, 3) := by decide +kernel
theorem dX8_read_4 : decode cX8_read 4 = .ok (.istore_n 1, 1) := by decide +kernel
theorem dX8_read_5 : decode cX8_read 5 = .ok (.aload_n 0, 1) := by decide +kernel
theorem dX8_read_6 : decode cX8_read 6 = .ok (.iconst 0, 1) := by decide +kernel
theorem dX8_read_7 : decode cX8_read 7 = .ok (.putfield 123, 3) := by decide +kernel
theorem dX8_read_10 : decode cX8_read 10 = .ok (.aload_n 0, 1) := by decide +kernel
theorem dX8_read_11 : decode cX8_read 11 = .ok (.iconst (-1), 1) := by decide +kernel
theorem dX8_read_12 : decode cX8_read 12 = .ok (.putfield 26, 3) := by decide +kernel
theorem dX8_read_15 : decode cX8_read 15 = .ok (.iconst 0, 1) := by decide +kernel
theorem dX8_read_16 : decode cX8_read 16 = .ok (.istore_n 2, 1) := by decide +kernel
theorem dX8_read_17 : decode cX8_read 17 = .ok (.iconst 1, 1) := by decide +kernel
theorem dX8_read_18 : decode cX8_read 18 = .ok (.istore_n 3, 1) := by decide +kernel
theorem dX8_read_19 : decode cX8_read 19 = .ok (.iconst 0, 1) := by decide +kernel
theorem dX8_read_20 : decode cX8_read 20 = .ok (.istore 4, 2) := by decide +kernel
theorem dX8_read_22 : decode cX8_read 22 = .ok (.iload 4, 2) := by decide +kernel
theorem dX8_read_24 : decode cX8_read 24 = .ok (.iload_n 1, 1) := by decide +kernel
theorem dX8_read_25 : decode cX8_read 25 = .ok (.if_icmp .ge 199, 3) := by decide +kernel
theorem dX8_read_28 : decode cX8_read 28 = .ok (.aload_n 0, 1) := by decide +kernel
theorem dX8_read_29 : decode cX8_read 29 = .ok (.getfield 26, 3) := by decide +kernel
theorem dX8_read_32 : decode cX8_read 32 = .ok (.ifCond .ge 192, 3) := by decide +kernel
theorem dX8_read_35 : decode cX8_read 35 = .ok (.aload_n 0, 1) := by decide +kernel
theorem dX8_read_36 : decode cX8_read 36 = .ok (.getfield 19, 3) := by decide +kernel
theorem dX8_read_39 : decode cX8_read 39 = .ok (.iload 4, 2) := by decide +kernel
theorem dX8_read_41 : decode cX8_read 41 = .ok (.baload, 1) := by decide +kernel
theorem dX8_read_42 : decode cX8_read 42 = .ok (.istore 5, 2) := by decide +kernel
theorem dX8_read_44 : decode cX8_read 44 = .ok (.iload 5, 2) := by decide +kernel
theorem dX8_read_46 : decode cX8_read 46 = .ok (.bipush 32, 2) := by decide +kernel
theorem dX8_read_48 : decode cX8_read 48 = .ok (.if_icmp .eq 10, 3) := by decide +kernel
theorem dX8_read_51 : decode cX8_read 51 = .ok (.iload 5, 2) := by decide +kernel
theorem dX8_read_53 : decode cX8_read 53 = .ok (.bipush 10, 2) := by decide +kernel
theorem dX8_read_55 : decode cX8_read 55 = .ok (.if_icmp .ne 9, 3) := by decide +kernel
theorem dX8_read_58 : decode cX8_read 58 = .ok (.iinc 4 1, 3) := by decide +kernel
theorem dX8_read_61 : decode cX8_read 61 = .ok (.goto (-39), 3) := by decide +kernel
theorem dX8_read_64 : decode cX8_read 64 = .ok (.iload 4, 2) := by decide +kernel
theorem dX8_read_66 : decode cX8_read 66 = .ok (.istore 6, 2) := by decide +kernel
theorem dX8_read_68 : decode cX8_read 68 = .ok (.iconst 0, 1) := by decide +kernel
theorem dX8_read_69 : decode cX8_read 69 = .ok (.istore 7, 2) := by decide +kernel
theorem dX8_read_71 : decode cX8_read 71 = .ok (.iload 4, 2) := by decide +kernel
theorem dX8_read_73 : decode cX8_read 73 = .ok (.iload_n 1, 1) := by decide +kernel
theorem dX8_read_74 : decode cX8_read 74 = .ok (.if_icmp .ge 61, 3) := by decide +kernel
theorem dX8_read_77 : decode cX8_read 77 = .ok (.aload_n 0, 1) := by decide +kernel
theorem dX8_read_78 : decode cX8_read 78 = .ok (.getfield 19, 3) := by decide +kernel
theorem dX8_read_81 : decode cX8_read 81 = .ok (.iload 4, 2) := by decide +kernel
theorem dX8_read_83 : decode cX8_read 83 = .ok (.baload, 1) := by decide +kernel
theorem dX8_read_84 : decode cX8_read 84 = .ok (.bipush 48, 2) := by decide +kernel
theorem dX8_read_86 : decode cX8_read 86 = .ok (.if_icmp .lt 49, 3) := by decide +kernel
theorem dX8_read_89 : decode cX8_read 89 = .ok (.aload_n 0, 1) := by decide +kernel
theorem dX8_read_90 : decode cX8_read 90 = .ok (.getfield 19, 3) := by decide +kernel
theorem dX8_read_93 : decode cX8_read 93 = .ok (.iload 4, 2) := by decide +kernel
theorem dX8_read_95 : decode cX8_read 95 = .ok (.baload, 1) := by decide +kernel
theorem dX8_read_96 : decode cX8_read 96 = .ok (.bipush 57, 2) := by decide +kernel
theorem dX8_read_98 : decode cX8_read 98 = .ok (.if_icmp .gt 37, 3) := by decide +kernel
theorem dX8_read_101 : decode cX8_read 101 = .ok (.iload 4, 2) := by decide +kernel
theorem dX8_read_103 : decode cX8_read 103 = .ok (.iload 6, 2) := by decide +kernel
theorem dX8_read_105 : decode cX8_read 105 = .ok (.isub, 1) := by decide +kernel
theorem dX8_read_106 : decode cX8_read 106 = .ok (.bipush 7, 2) := by decide +kernel
theorem dX8_read_108 : decode cX8_read 108 = .ok (.if_icmp .ge 21, 3) := by decide +kernel
theorem dX8_read_111 : decode cX8_read 111 = .ok (.bipush 10, 2) := by decide +kernel
theorem dX8_read_113 : decode cX8_read 113 = .ok (.iload 7, 2) := by decide +kernel
theorem dX8_read_115 : decode cX8_read 115 = .ok (.imul, 1) := by decide +kernel
theorem dX8_read_116 : decode cX8_read 116 = .ok (.aload_n 0, 1) := by decide +kernel
theorem dX8_read_117 : decode cX8_read 117 = .ok (.getfield 19, 3) := by decide +kernel
theorem dX8_read_120 : decode cX8_read 120 = .ok (.iload 4, 2) := by decide +kernel
theorem dX8_read_122 : decode cX8_read 122 = .ok (.baload, 1) := by decide +kernel
theorem dX8_read_123 : decode cX8_read 123 = .ok (.iadd, 1) := by decide +kernel
theorem dX8_read_124 : decode cX8_read 124 = .ok (.bipush 48, 2) := by decide +kernel
theorem dX8_read_126 : decode cX8_read 126 = .ok (.isub, 1) := by decide +kernel
theorem dX8_read_127 : decode cX8_read 127 = .ok (.istore 7, 2) := by decide +kernel
theorem dX8_read_129 : decode cX8_read 129 = .ok (.iinc 4 1, 3) := by decide +kernel
theorem dX8_read_132 : decode cX8_read 132 = .ok (.goto (-61), 3) := by decide +kernel
theorem dX8_read_135 : decode cX8_read 135 = .ok (.iload 4, 2) := by decide +kernel
theorem dX8_read_137 : decode cX8_read 137 = .ok (.iload 6, 2) := by decide +kernel
theorem dX8_read_139 : decode cX8_read 139 = .ok (.if_icmp .le 38, 3) := by decide +kernel
theorem dX8_read_142 : decode cX8_read 142 = .ok (.iload 4, 2) := by decide +kernel
theorem dX8_read_144 : decode cX8_read 144 = .ok (.iload 6, 2) := by decide +kernel
theorem dX8_read_146 : decode cX8_read 146 = .ok (.isub, 1) := by decide +kernel
theorem dX8_read_147 : decode cX8_read 147 = .ok (.bipush 8, 2) := by decide +kernel
theorem dX8_read_149 : decode cX8_read 149 = .ok (.if_icmp .ge 28, 3) := by decide +kernel
theorem dX8_read_152 : decode cX8_read 152 = .ok (.iload_n 2, 1) := by decide +kernel
theorem dX8_read_153 : decode cX8_read 153 = .ok (.iload_n 3, 1) := by decide +kernel
theorem dX8_read_154 : decode cX8_read 154 = .ok (.if_icmp .ge 23, 3) := by decide +kernel
theorem dX8_read_157 : decode cX8_read 157 = .ok (.iload 7, 2) := by decide +kernel
theorem dX8_read_159 : decode cX8_read 159 = .ok (.iload_n 2, 1) := by decide +kernel
theorem dX8_read_160 : decode cX8_read 160 = .ok (.ifCond .ne 8, 3) := by decide +kernel
theorem dX8_read_163 : decode cX8_read 163 = .ok (.bipush 20, 2) := by decide +kernel
theorem dX8_read_165 : decode cX8_read 165 = .ok (.goto 5, 3) := by decide +kernel
theorem dX8_read_168 : decode cX8_read 168 = .ok (.ldc 129, 2) := by decide +kernel
theorem dX8_read_170 : decode cX8_read 170 = .ok (.if_icmp .gt 7, 3) := by decide +kernel
theorem dX8_read_173 : decode cX8_read 173 = .ok (.iconst 1, 1) := by decide +kernel
theorem dX8_read_174 : decode cX8_read 174 = .ok (.goto 4, 3) := by decide +kernel
theorem dX8_read_177 : decode cX8_read 177 = .ok (.iconst 0, 1) := by decide +kernel
theorem dX8_read_178 : decode cX8_read 178 = .ok (.istore 8, 2) := by decide +kernel
theorem dX8_read_180 : decode cX8_read 180 = .ok (.iload 8, 2) := by decide +kernel
theorem dX8_read_182 : decode cX8_read 182 = .ok (.ifCond .ne 12, 3) := by decide +kernel
theorem dX8_read_185 : decode cX8_read 185 = .ok (.aload_n 0, 1) := by decide +kernel
theorem dX8_read_186 : decode cX8_read 186 = .ok (.iload 6, 2) := by decide +kernel
theorem dX8_read_188 : decode cX8_read 188 = .ok (.putfield 26, 3) := by decide +kernel
theorem dX8_read_191 : decode cX8_read 191 = .ok (.goto (-169), 3) := by decide +kernel
theorem dX8_read_194 : decode cX8_read 194 = .ok (.aload_n 0, 1) := by decide +kernel
theorem dX8_read_195 : decode cX8_read 195 = .ok (.getfield 30, 3) := by decide +kernel
theorem dX8_read_198 : decode cX8_read 198 = .ok (.iload_n 2, 1) := by decide +kernel
theorem dX8_read_199 : decode cX8_read 199 = .ok (.iload 7, 2) := by decide +kernel
theorem dX8_read_201 : decode cX8_read 201 = .ok (.iastore, 1) := by decide +kernel
theorem dX8_read_202 : decode cX8_read 202 = .ok (.iload_n 2, 1) := by decide +kernel
theorem dX8_read_203 : decode cX8_read 203 = .ok (.ifCond .ne 15, 3) := by decide +kernel
theorem dX8_read_206 : decode cX8_read 206 = .ok (.iconst 1, 1) := by decide +kernel
theorem dX8_read_207 : decode cX8_read 207 = .ok (.iload 7, 2) := by decide +kernel
theorem dX8_read_209 : decode cX8_read 209 = .ok (.iload 7, 2) := by decide +kernel
theorem dX8_read_211 : decode cX8_read 211 = .ok (.iconst 1, 1) := by decide +kernel
theorem dX8_read_212 : decode cX8_read 212 = .ok (.isub, 1) := by decide +kernel
theorem dX8_read_213 : decode cX8_read 213 = .ok (.imul, 1) := by decide +kernel
theorem dX8_read_214 : decode cX8_read 214 = .ok (.iconst 2, 1) := by decide +kernel
theorem dX8_read_215 : decode cX8_read 215 = .ok (.idiv, 1) := by decide +kernel
theorem dX8_read_216 : decode cX8_read 216 = .ok (.iadd, 1) := by decide +kernel
theorem dX8_read_217 : decode cX8_read 217 = .ok (.istore_n 3, 1) := by decide +kernel
theorem dX8_read_218 : decode cX8_read 218 = .ok (.iinc 2 1, 3) := by decide +kernel
theorem dX8_read_221 : decode cX8_read 221 = .ok (.goto (-199), 3) := by decide +kernel
theorem dX8_read_224 : decode cX8_read 224 = .ok (.aload_n 0, 1) := by decide +kernel
theorem dX8_read_225 : decode cX8_read 225 = .ok (.getfield 26, 3) := by decide +kernel
theorem dX8_read_228 : decode cX8_read 228 = .ok (.ifCond .ge 13, 3) := by decide +kernel
theorem dX8_read_231 : decode cX8_read 231 = .ok (.iload_n 2, 1) := by decide +kernel
theorem dX8_read_232 : decode cX8_read 232 = .ok (.iload_n 3, 1) := by decide +kernel
theorem dX8_read_233 : decode cX8_read 233 = .ok (.if_icmp .ge 8, 3) := by decide +kernel
theorem dX8_read_236 : decode cX8_read 236 = .ok (.aload_n 0, 1) := by decide +kernel
theorem dX8_read_237 : decode cX8_read 237 = .ok (.iload_n 1, 1) := by decide +kernel
theorem dX8_read_238 : decode cX8_read 238 = .ok (.putfield 26, 3) := by decide +kernel
theorem dX8_read_241 : decode cX8_read 241 = .ok (.aload_n 0, 1) := by decide +kernel
theorem dX8_read_242 : decode cX8_read 242 = .ok (.getfield 26, 3) := by decide +kernel
theorem dX8_read_245 : decode cX8_read 245 = .ok (.ifCond .lt 5, 3) := by decide +kernel
theorem dX8_read_248 : decode cX8_read 248 = .ok (.iconst (-1), 1) := by decide +kernel
theorem dX8_read_249 : decode cX8_read 249 = .ok (.ireturn, 1) := by decide +kernel
theorem dX8_read_250 : decode cX8_read 250 = .ok (.aload_n 0, 1) := by decide +kernel
theorem dX8_read_251 : decode cX8_read 251 = .ok (.aload_n 0, 1) := by decide +kernel
theorem dX8_read_252 : decode cX8_read 252 = .ok (.aload_n 0, 1) := by decide +kernel
theorem dX8_read_253 : decode cX8_read 253 = .ok (.getfield 30, 3) := by decide +kernel
theorem dX8_read_256 : decode cX8_read 256 = .ok (.iconst 0, 1) := by decide +kernel
theorem dX8_read_257 : decode cX8_read 257 = .ok (.iaload, 1) := by decide +kernel
theorem dX8_read_258 : decode cX8_read 258 = .ok (.invokevirtual 130, 3) := by decide +kernel
theorem dX8_read_261 : decode cX8_read 261 = .ok (.putfield 107, 3) := by decide +kernel
theorem dX8_read_264 : decode cX8_read 264 = .ok (.iconst 1, 1) := by decide +kernel
theorem dX8_read_265 : decode cX8_read 265 = .ok (.istore 5, 2) := by decide +kernel
theorem dX8_read_267 : decode cX8_read 267 = .ok (.iconst 0, 1) := by decide +kernel
theorem dX8_read_268 : decode cX8_read 268 = .ok (.istore 6, 2) := by decide +kernel
theorem dX8_read_270 : decode cX8_read 270 = .ok (.iload 6, 2) := by decide +kernel
theorem dX8_read_272 : decode cX8_read 272 = .ok (.aload_n 0, 1) := by decide +kernel
theorem dX8_read_273 : decode cX8_read 273 = .ok (.getfield 107, 3) := by decide +kernel
theorem dX8_read_276 : decode cX8_read 276 = .ok (.if_icmp .ge 43, 3) := by decide +kernel
theorem dX8_read_279 : decode cX8_read 279 = .ok (.iconst 0, 1) := by decide +kernel
theorem dX8_read_280 : decode cX8_read 280 = .ok (.istore 7, 2) := by decide +kernel
theorem dX8_read_282 : decode cX8_read 282 = .ok (.iload 7, 2) := by decide +kernel
theorem dX8_read_284 : decode cX8_read 284 = .ok (.iload 6, 2) := by decide +kernel
theorem dX8_read_286 : decode cX8_read 286 = .ok (.if_icmp .ge 27, 3) := by decide +kernel
theorem dX8_read_289 : decode cX8_read 289 = .ok (.aload_n 0, 1) := by decide +kernel
theorem dX8_read_290 : decode cX8_read 290 = .ok (.iload 6, 2) := by decide +kernel
theorem dX8_read_292 : decode cX8_read 292 = .ok (.iload 7, 2) := by decide +kernel
theorem dX8_read_294 : decode cX8_read 294 = .ok (.aload_n 0, 1) := by decide +kernel
theorem dX8_read_295 : decode cX8_read 295 = .ok (.getfield 30, 3) := by decide +kernel
theorem dX8_read_298 : decode cX8_read 298 = .ok (.iload 5, 2) := by decide +kernel
theorem dX8_read_300 : decode cX8_read 300 = .ok (.iaload, 1) := by decide +kernel
theorem dX8_read_301 : decode cX8_read 301 = .ok (.invokevirtual 115, 3) := by decide +kernel
theorem dX8_read_304 : decode cX8_read 304 = .ok (.iinc 5 1, 3) := by decide +kernel
theorem dX8_read_307 : decode cX8_read 307 = .ok (.iinc 7 1, 3) := by decide +kernel
theorem dX8_read_310 : decode cX8_read 310 = .ok (.goto (-28), 3) := by decide +kernel
theorem dX8_read_313 : decode cX8_read 313 = .ok (.iinc 6 1, 3) := by decide +kernel
theorem dX8_read_316 : decode cX8_read 316 = .ok (.goto (-46), 3) := by decide +kernel
theorem dX8_read_319 : decode cX8_read 319 = .ok (.aload_n 0, 1) := by decide +kernel
theorem dX8_read_320 : decode cX8_read 320 = .ok (.getfield 107, 3) := by decide +kernel
theorem dX8_read_323 : decode cX8_read 323 = .ok (.ireturn, 1) := by decide +kernel
theorem dX8_fault_0 : decode cX8_fault 0 = .ok (.aload_n 0, 1) := by decide +kernel
theorem dX8_fault_1 : decode cX8_fault 1 = .ok (.getfield 26, 3) := by decide +kernel
theorem dX8_fault_4 : decode cX8_fault 4 = .ok (.ireturn, 1) := by decide +kernel
theorem dX8_ink_0 : decode cX8_ink 0 = .ok (.aload_n 0, 1) := by decide +kernel
theorem dX8_ink_1 : decode cX8_ink 1 = .ok (.getfield 23, 3) := by decide +kernel
theorem dX8_ink_4 : decode cX8_ink 4 = .ok (.aload_n 0, 1) := by decide +kernel
theorem dX8_ink_5 : decode cX8_ink 5 = .ok (.getfield 126, 3) := by decide +kernel
theorem dX8_ink_8 : decode cX8_ink 8 = .ok (.iload_n 1, 1) := by decide +kernel
theorem dX8_ink_9 : decode cX8_ink 9 = .ok (.i2b, 1) := by decide +kernel
theorem dX8_ink_10 : decode cX8_ink 10 = .ok (.bastore, 1) := by decide +kernel
theorem dX8_ink_11 : decode cX8_ink 11 = .ok (.aload_n 0, 1) := by decide +kernel
theorem dX8_ink_12 : decode cX8_ink 12 = .ok (.dup, 1) := by decide +kernel
theorem dX8_ink_13 : decode cX8_ink 13 = .ok (.getfield 126, 3) := by decide +kernel
theorem dX8_ink_16 : decode cX8_ink 16 = .ok (.iconst 1, 1) := by decide +kernel
theorem dX8_ink_17 : decode cX8_ink 17 = .ok (.iadd, 1) := by decide +kernel
theorem dX8_ink_18 : decode cX8_ink 18 = .ok (.putfield 126, 3) := by decide +kernel
theorem dX8_ink_21 : decode cX8_ink 21 = .ok (.return_, 1) := by decide +kernel
theorem dX8_inkNumber_0 : decode cX8_inkNumber 0 = .ok (.lload_n 1, 1) := by decide +kernel
theorem dX8_inkNumber_1 : decode cX8_inkNumber 1 = .ok (.lstore_n 3, 1) := by decide +kernel
theorem dX8_inkNumber_2 : decode cX8_inkNumber 2 = .ok (.lload_n 3, 1) := by decide +kernel
theorem dX8_inkNumber_3 : decode cX8_inkNumber 3 = .ok (.lconst 0, 1) := by decide +kernel
theorem dX8_inkNumber_4 : decode cX8_inkNumber 4 = .ok (.lcmp, 1) := by decide +kernel
theorem dX8_inkNumber_5 : decode cX8_inkNumber 5 = .ok (.ifCond .ge 12, 3) := by decide +kernel
theorem dX8_inkNumber_8 : decode cX8_inkNumber 8 = .ok (.aload_n 0, 1) := by decide +kernel
theorem dX8_inkNumber_9 : decode cX8_inkNumber 9 = .ok (.bipush 45, 2) := by decide +kernel
theorem dX8_inkNumber_11 : decode cX8_inkNumber 11 = .ok (.invokevirtual 133, 3) := by decide +kernel
theorem dX8_inkNumber_14 : decode cX8_inkNumber 14 = .ok (.lload_n 3, 1) := by decide +kernel
theorem dX8_inkNumber_15 : decode cX8_inkNumber 15 = .ok (.lneg, 1) := by decide +kernel
theorem dX8_inkNumber_16 : decode cX8_inkNumber 16 = .ok (.lstore_n 3, 1) := by decide +kernel
theorem dX8_inkNumber_17 : decode cX8_inkNumber 17 = .ok (.lconst 1, 1) := by decide +kernel
theorem dX8_inkNumber_18 : decode cX8_inkNumber 18 = .ok (.lstore 5, 2) := by decide +kernel
theorem dX8_inkNumber_20 : decode cX8_inkNumber 20 = .ok (.lload_n 3, 1) := by decide +kernel
theorem dX8_inkNumber_21 : decode cX8_inkNumber 21 = .ok (.lload 5, 2) := by decide +kernel
theorem dX8_inkNumber_23 : decode cX8_inkNumber 23 = .ok (.ldiv, 1) := by decide +kernel
theorem dX8_inkNumber_24 : decode cX8_inkNumber 24 = .ok (.ldc2_w 137, 3) := by decide +kernel
theorem dX8_inkNumber_27 : decode cX8_inkNumber 27 = .ok (.lcmp, 1) := by decide +kernel
theorem dX8_inkNumber_28 : decode cX8_inkNumber 28 = .ok (.ifCond .le 14, 3) := by decide +kernel
theorem dX8_inkNumber_31 : decode cX8_inkNumber 31 = .ok (.lload 5, 2) := by decide +kernel
theorem dX8_inkNumber_33 : decode cX8_inkNumber 33 = .ok (.ldc2_w 139, 3) := by decide +kernel
theorem dX8_inkNumber_36 : decode cX8_inkNumber 36 = .ok (.lmul, 1) := by decide +kernel
theorem dX8_inkNumber_37 : decode cX8_inkNumber 37 = .ok (.lstore 5, 2) := by decide +kernel
theorem dX8_inkNumber_39 : decode cX8_inkNumber 39 = .ok (.goto (-19), 3) := by decide +kernel
theorem dX8_inkNumber_42 : decode cX8_inkNumber 42 = .ok (.lload 5, 2) := by decide +kernel
theorem dX8_inkNumber_44 : decode cX8_inkNumber 44 = .ok (.lconst 0, 1) := by decide +kernel
theorem dX8_inkNumber_45 : decode cX8_inkNumber 45 = .ok (.lcmp, 1) := by decide +kernel
theorem dX8_inkNumber_46 : decode cX8_inkNumber 46 = .ok (.ifCond .le 31, 3) := by decide +kernel
theorem dX8_inkNumber_49 : decode cX8_inkNumber 49 = .ok (.aload_n 0, 1) := by decide +kernel
theorem dX8_inkNumber_50 : decode cX8_inkNumber 50 = .ok (.ldc2_w 141, 3) := by decide +kernel
theorem dX8_inkNumber_53 : decode cX8_inkNumber 53 = .ok (.lload_n 3, 1) := by decide +kernel
theorem dX8_inkNumber_54 : decode cX8_inkNumber 54 = .ok (.lload 5, 2) := by decide +kernel
theorem dX8_inkNumber_56 : decode cX8_inkNumber 56 = .ok (.ldiv, 1) := by decide +kernel
theorem dX8_inkNumber_57 : decode cX8_inkNumber 57 = .ok (.ldc2_w 139, 3) := by decide +kernel
theorem dX8_inkNumber_60 : decode cX8_inkNumber 60 = .ok (.lrem, 1) := by decide +kernel
theorem dX8_inkNumber_61 : decode cX8_inkNumber 61 = .ok (.ladd, 1) := by decide +kernel
theorem dX8_inkNumber_62 : decode cX8_inkNumber 62 = .ok (.l2i, 1) := by decide +kernel
theorem dX8_inkNumber_63 : decode cX8_inkNumber 63 = .ok (.invokevirtual 133, 3) := by decide +kernel
theorem dX8_inkNumber_66 : decode cX8_inkNumber 66 = .ok (.lload 5, 2) := by decide +kernel
theorem dX8_inkNumber_68 : decode cX8_inkNumber 68 = .ok (.ldc2_w 139, 3) := by decide +kernel
theorem dX8_inkNumber_71 : decode cX8_inkNumber 71 = .ok (.ldiv, 1) := by decide +kernel
theorem dX8_inkNumber_72 : decode cX8_inkNumber 72 = .ok (.lstore 5, 2) := by decide +kernel
theorem dX8_inkNumber_74 : decode cX8_inkNumber 74 = .ok (.goto (-32), 3) := by decide +kernel
theorem dX8_inkNumber_77 : decode cX8_inkNumber 77 = .ok (.return_, 1) := by decide +kernel
theorem dX8_write_0 : decode cX8_write 0 = .ok (.aload_n 0, 1) := by decide +kernel
theorem dX8_write_1 : decode cX8_write 1 = .ok (.iconst 0, 1) := by decide +kernel
theorem dX8_write_2 : decode cX8_write 2 = .ok (.putfield 126, 3) := by decide +kernel
theorem dX8_write_5 : decode cX8_write 5 = .ok (.aload_n 0, 1) := by decide +kernel
theorem dX8_write_6 : decode cX8_write 6 = .ok (.aload_n 0, 1) := by decide +kernel
theorem dX8_write_7 : decode cX8_write 7 = .ok (.getfield 107, 3) := by decide +kernel
theorem dX8_write_10 : decode cX8_write 10 = .ok (.i2l, 1) := by decide +kernel
theorem dX8_write_11 : decode cX8_write 11 = .ok (.invokevirtual 143, 3) := by decide +kernel
theorem dX8_write_14 : decode cX8_write 14 = .ok (.iconst 0, 1) := by decide +kernel
theorem dX8_write_15 : decode cX8_write 15 = .ok (.istore_n 1, 1) := by decide +kernel
theorem dX8_write_16 : decode cX8_write 16 = .ok (.iload_n 1, 1) := by decide +kernel
theorem dX8_write_17 : decode cX8_write 17 = .ok (.aload_n 0, 1) := by decide +kernel
theorem dX8_write_18 : decode cX8_write 18 = .ok (.getfield 107, 3) := by decide +kernel
theorem dX8_write_21 : decode cX8_write 21 = .ok (.if_icmp .ge 44, 3) := by decide +kernel
theorem dX8_write_24 : decode cX8_write 24 = .ok (.iconst 0, 1) := by decide +kernel
theorem dX8_write_25 : decode cX8_write 25 = .ok (.istore_n 2, 1) := by decide +kernel
theorem dX8_write_26 : decode cX8_write 26 = .ok (.iload_n 2, 1) := by decide +kernel
theorem dX8_write_27 : decode cX8_write 27 = .ok (.iload_n 1, 1) := by decide +kernel
theorem dX8_write_28 : decode cX8_write 28 = .ok (.if_icmp .ge 31, 3) := by decide +kernel
theorem dX8_write_31 : decode cX8_write 31 = .ok (.aload_n 0, 1) := by decide +kernel
theorem dX8_write_32 : decode cX8_write 32 = .ok (.bipush 32, 2) := by decide +kernel
theorem dX8_write_34 : decode cX8_write 34 = .ok (.invokevirtual 133, 3) := by decide +kernel
theorem dX8_write_37 : decode cX8_write 37 = .ok (.aload_n 0, 1) := by decide +kernel
theorem dX8_write_38 : decode cX8_write 38 = .ok (.aload_n 0, 1) := by decide +kernel
theorem dX8_write_39 : decode cX8_write 39 = .ok (.getfield 7, 3) := by decide +kernel
theorem dX8_write_42 : decode cX8_write 42 = .ok (.bipush 20, 2) := by decide +kernel
theorem dX8_write_44 : decode cX8_write 44 = .ok (.iload_n 1, 1) := by decide +kernel
theorem dX8_write_45 : decode cX8_write 45 = .ok (.imul, 1) := by decide +kernel
theorem dX8_write_46 : decode cX8_write 46 = .ok (.iload_n 2, 1) := by decide +kernel
theorem dX8_write_47 : decode cX8_write 47 = .ok (.iadd, 1) := by decide +kernel
theorem dX8_write_48 : decode cX8_write 48 = .ok (.iaload, 1) := by decide +kernel
theorem dX8_write_49 : decode cX8_write 49 = .ok (.i2l, 1) := by decide +kernel
theorem dX8_write_50 : decode cX8_write 50 = .ok (.invokevirtual 143, 3) := by decide +kernel
theorem dX8_write_53 : decode cX8_write 53 = .ok (.iinc 2 1, 3) := by decide +kernel
theorem dX8_write_56 : decode cX8_write 56 = .ok (.goto (-30), 3) := by decide +kernel
theorem dX8_write_59 : decode cX8_write 59 = .ok (.iinc 1 1, 3) := by decide +kernel
theorem dX8_write_62 : decode cX8_write 62 = .ok (.goto (-46), 3) := by decide +kernel
theorem dX8_write_65 : decode cX8_write 65 = .ok (.aload_n 0, 1) := by decide +kernel
theorem dX8_write_66 : decode cX8_write 66 = .ok (.getfield 126, 3) := by decide +kernel
theorem dX8_write_69 : decode cX8_write 69 = .ok (.ireturn, 1) := by decide +kernel
theorem dX8_out_0 : decode cX8_out 0 = .ok (.iload_n 1, 1) := by decide +kernel
theorem dX8_out_1 : decode cX8_out 1 = .ok (.aload_n 0, 1) := by decide +kernel
theorem dX8_out_2 : decode cX8_out 2 = .ok (.getfield 126, 3) := by decide +kernel
theorem dX8_out_5 : decode cX8_out 5 = .ok (.invokestatic 110, 3) := by decide +kernel
theorem dX8_out_8 : decode cX8_out 8 = .ok (.ifCond .eq 16, 3) := by decide +kernel
theorem dX8_out_11 : decode cX8_out 11 = .ok (.aload_n 0, 1) := by decide +kernel
theorem dX8_out_12 : decode cX8_out 12 = .ok (.getfield 23, 3) := by decide +kernel
theorem dX8_out_15 : decode cX8_out 15 = .ok (.iload_n 1, 1) := by decide +kernel
theorem dX8_out_16 : decode cX8_out 16 = .ok (.baload, 1) := by decide +kernel
theorem dX8_out_17 : decode cX8_out 17 = .ok (.sipush 255, 3) := by decide +kernel
theorem dX8_out_20 : decode cX8_out 20 = .ok (.iand, 1) := by decide +kernel
theorem dX8_out_21 : decode cX8_out 21 = .ok (.goto 4, 3) := by decide +kernel
theorem dX8_out_24 : decode cX8_out 24 = .ok (.iconst (-1), 1) := by decide +kernel
theorem dX8_out_25 : decode cX8_out 25 = .ok (.ireturn, 1) := by decide +kernel
theorem dX8_many_0 : decode cX8_many 0 = .ok (.iconst 0, 1) := by decide +kernel
theorem dX8_many_1 : decode cX8_many 1 = .ok (.istore_n 1, 1) := by decide +kernel
theorem dX8_many_2 : decode cX8_many 2 = .ok (.iconst 0, 1) := by decide +kernel
theorem dX8_many_3 : decode cX8_many 3 = .ok (.istore_n 2, 1) := by decide +kernel
theorem dX8_many_4 : decode cX8_many 4 = .ok (.iload_n 2, 1) := by decide +kernel
theorem dX8_many_5 : decode cX8_many 5 = .ok (.bipush 20, 2) := by decide +kernel
theorem dX8_many_7 : decode cX8_many 7 = .ok (.if_icmp .ge 17, 3) := by decide +kernel
theorem dX8_many_10 : decode cX8_many 10 = .ok (.iload_n 1, 1) := by decide +kernel
theorem dX8_many_11 : decode cX8_many 11 = .ok (.iload_n 0, 1) := by decide +kernel
theorem dX8_many_12 : decode cX8_many 12 = .ok (.iload_n 2, 1) := by decide +kernel
theorem dX8_many_13 : decode cX8_many 13 = .ok (.ishr, 1) := by decide +kernel
theorem dX8_many_14 : decode cX8_many 14 = .ok (.iconst 1, 1) := by decide +kernel
theorem dX8_many_15 : decode cX8_many 15 = .ok (.iand, 1) := by decide +kernel
theorem dX8_many_16 : decode cX8_many 16 = .ok (.iadd, 1) := by decide +kernel
theorem dX8_many_17 : decode cX8_many 17 = .ok (.istore_n 1, 1) := by decide +kernel
theorem dX8_many_18 : decode cX8_many 18 = .ok (.iinc 2 1, 3) := by decide +kernel
theorem dX8_many_21 : decode cX8_many 21 = .ok (.goto (-17), 3) := by decide +kernel
theorem dX8_many_24 : decode cX8_many 24 = .ok (.iload_n 1, 1) := by decide +kernel
theorem dX8_many_25 : decode cX8_many 25 = .ok (.ireturn, 1) := by decide +kernel
theorem dX8_between_0 : decode cX8_between 0 = .ok (.lconst 0, 1) := by decide +kernel
theorem dX8_between_1 : decode cX8_between 1 = .ok (.lstore_n 3, 1) := by decide +kernel
theorem dX8_between_2 : decode cX8_between 2 = .ok (.iconst 0, 1) := by decide +kernel
theorem dX8_between_3 : decode cX8_between 3 = .ok (.istore 5, 2) := by decide +kernel
theorem dX8_between_5 : decode cX8_between 5 = .ok (.iload 5, 2) := by decide +kernel
theorem dX8_between_7 : decode cX8_between 7 = .ok (.bipush 20, 2) := by decide +kernel
theorem dX8_between_9 : decode cX8_between 9 = .ok (.if_icmp .ge 66, 3) := by decide +kernel
theorem dX8_between_12 : decode cX8_between 12 = .ok (.iconst 0, 1) := by decide +kernel
theorem dX8_between_13 : decode cX8_between 13 = .ok (.istore 6, 2) := by decide +kernel
theorem dX8_between_15 : decode cX8_between 15 = .ok (.iload 6, 2) := by decide +kernel
theorem dX8_between_17 : decode cX8_between 17 = .ok (.bipush 20, 2) := by decide +kernel
theorem dX8_between_19 : decode cX8_between 19 = .ok (.if_icmp .ge 50, 3) := by decide +kernel
theorem dX8_between_22 : decode cX8_between 22 = .ok (.lload_n 3, 1) := by decide +kernel
theorem dX8_between_23 : decode cX8_between 23 = .ok (.iload_n 1, 1) := by decide +kernel
theorem dX8_between_24 : decode cX8_between 24 = .ok (.iload 5, 2) := by decide +kernel
theorem dX8_between_26 : decode cX8_between 26 = .ok (.ishr, 1) := by decide +kernel
theorem dX8_between_27 : decode cX8_between 27 = .ok (.iconst 1, 1) := by decide +kernel
theorem dX8_between_28 : decode cX8_between 28 = .ok (.iand, 1) := by decide +kernel
theorem dX8_between_29 : decode cX8_between 29 = .ok (.iconst 1, 1) := by decide +kernel
theorem dX8_between_30 : decode cX8_between 30 = .ok (.if_icmp .ne 30, 3) := by decide +kernel
theorem dX8_between_33 : decode cX8_between 33 = .ok (.iload_n 2, 1) := by decide +kernel
theorem dX8_between_34 : decode cX8_between 34 = .ok (.iload 6, 2) := by decide +kernel
theorem dX8_between_36 : decode cX8_between 36 = .ok (.ishr, 1) := by decide +kernel
theorem dX8_between_37 : decode cX8_between 37 = .ok (.iconst 1, 1) := by decide +kernel
theorem dX8_between_38 : decode cX8_between 38 = .ok (.iand, 1) := by decide +kernel
theorem dX8_between_39 : decode cX8_between 39 = .ok (.iconst 1, 1) := by decide +kernel
theorem dX8_between_40 : decode cX8_between 40 = .ok (.if_icmp .ne 20, 3) := by decide +kernel
theorem dX8_between_43 : decode cX8_between 43 = .ok (.aload_n 0, 1) := by decide +kernel
theorem dX8_between_44 : decode cX8_between 44 = .ok (.getfield 7, 3) := by decide +kernel
theorem dX8_between_47 : decode cX8_between 47 = .ok (.bipush 20, 2) := by decide +kernel
theorem dX8_between_49 : decode cX8_between 49 = .ok (.iload 5, 2) := by decide +kernel
theorem dX8_between_51 : decode cX8_between 51 = .ok (.imul, 1) := by decide +kernel
theorem dX8_between_52 : decode cX8_between 52 = .ok (.iload 6, 2) := by decide +kernel
theorem dX8_between_54 : decode cX8_between 54 = .ok (.iadd, 1) := by decide +kernel
theorem dX8_between_55 : decode cX8_between 55 = .ok (.iaload, 1) := by decide +kernel
theorem dX8_between_56 : decode cX8_between 56 = .ok (.i2l, 1) := by decide +kernel
theorem dX8_between_57 : decode cX8_between 57 = .ok (.goto 4, 3) := by decide +kernel
theorem dX8_between_60 : decode cX8_between 60 = .ok (.lconst 0, 1) := by decide +kernel
theorem dX8_between_61 : decode cX8_between 61 = .ok (.ladd, 1) := by decide +kernel
theorem dX8_between_62 : decode cX8_between 62 = .ok (.lstore_n 3, 1) := by decide +kernel
theorem dX8_between_63 : decode cX8_between 63 = .ok (.iinc 6 1, 3) := by decide +kernel
theorem dX8_between_66 : decode cX8_between 66 = .ok (.goto (-51), 3) := by decide +kernel
theorem dX8_between_69 : decode cX8_between 69 = .ok (.iinc 5 1, 3) := by decide +kernel
theorem dX8_between_72 : decode cX8_between 72 = .ok (.goto (-67), 3) := by decide +kernel
theorem dX8_between_75 : decode cX8_between 75 = .ok (.lload_n 3, 1) := by decide +kernel
theorem dX8_between_76 : decode cX8_between 76 = .ok (.lreturn, 1) := by decide +kernel
theorem dX8_extreme_0 : decode cX8_extreme 0 = .ok (.iconst (-1), 1) := by decide +kernel
theorem dX8_extreme_1 : decode cX8_extreme 1 = .ok (.istore 4, 2) := by decide +kernel
theorem dX8_extreme_3 : decode cX8_extreme 3 = .ok (.iconst 0, 1) := by decide +kernel
theorem dX8_extreme_4 : decode cX8_extreme 4 = .ok (.istore 5, 2) := by decide +kernel
theorem dX8_extreme_6 : decode cX8_extreme 6 = .ok (.iload 5, 2) := by decide +kernel
theorem dX8_extreme_8 : decode cX8_extreme 8 = .ok (.bipush 20, 2) := by decide +kernel
theorem dX8_extreme_10 : decode cX8_extreme 10 = .ok (.if_icmp .ge 91, 3) := by decide +kernel
theorem dX8_extreme_13 : decode cX8_extreme 13 = .ok (.iconst 0, 1) := by decide +kernel
theorem dX8_extreme_14 : decode cX8_extreme 14 = .ok (.istore 6, 2) := by decide +kernel
theorem dX8_extreme_16 : decode cX8_extreme 16 = .ok (.iload 6, 2) := by decide +kernel
theorem dX8_extreme_18 : decode cX8_extreme 18 = .ok (.bipush 20, 2) := by decide +kernel
theorem dX8_extreme_20 : decode cX8_extreme 20 = .ok (.if_icmp .ge 75, 3) := by decide +kernel
theorem dX8_extreme_23 : decode cX8_extreme 23 = .ok (.iload_n 1, 1) := by decide +kernel
theorem dX8_extreme_24 : decode cX8_extreme 24 = .ok (.iload 5, 2) := by decide +kernel
theorem dX8_extreme_26 : decode cX8_extreme 26 = .ok (.ishr, 1) := by decide +kernel
theorem dX8_extreme_27 : decode cX8_extreme 27 = .ok (.iconst 1, 1) := by decide +kernel
theorem dX8_extreme_28 : decode cX8_extreme 28 = .ok (.iand, 1) := by decide +kernel
theorem dX8_extreme_29 : decode cX8_extreme 29 = .ok (.ifCond .eq 60, 3) := by decide +kernel
theorem dX8_extreme_32 : decode cX8_extreme 32 = .ok (.iload_n 2, 1) := by decide +kernel
theorem dX8_extreme_33 : decode cX8_extreme 33 = .ok (.iload 6, 2) := by decide +kernel
theorem dX8_extreme_35 : decode cX8_extreme 35 = .ok (.ishr, 1) := by decide +kernel
theorem dX8_extreme_36 : decode cX8_extreme 36 = .ok (.iconst 1, 1) := by decide +kernel
theorem dX8_extreme_37 : decode cX8_extreme 37 = .ok (.iand, 1) := by decide +kernel
theorem dX8_extreme_38 : decode cX8_extreme 38 = .ok (.ifCond .ne 6, 3) := by decide +kernel
theorem dX8_extreme_41 : decode cX8_extreme 41 = .ok (.goto 48, 3) := by decide +kernel
theorem dX8_extreme_44 : decode cX8_extreme 44 = .ok (.aload_n 0, 1) := by decide +kernel
theorem dX8_extreme_45 : decode cX8_extreme 45 = .ok (.getfield 7, 3) := by decide +kernel
theorem dX8_extreme_48 : decode cX8_extreme 48 = .ok (.bipush 20, 2) := by decide +kernel
theorem dX8_extreme_50 : decode cX8_extreme 50 = .ok (.iload 5, 2) := by decide +kernel
theorem dX8_extreme_52 : decode cX8_extreme 52 = .ok (.imul, 1) := by decide +kernel
theorem dX8_extreme_53 : decode cX8_extreme 53 = .ok (.iload 6, 2) := by decide +kernel
theorem dX8_extreme_55 : decode cX8_extreme 55 = .ok (.iadd, 1) := by decide +kernel
theorem dX8_extreme_56 : decode cX8_extreme 56 = .ok (.iaload, 1) := by decide +kernel
theorem dX8_extreme_57 : decode cX8_extreme 57 = .ok (.istore 7, 2) := by decide +kernel
theorem dX8_extreme_59 : decode cX8_extreme 59 = .ok (.iload 4, 2) := by decide +kernel
theorem dX8_extreme_61 : decode cX8_extreme 61 = .ok (.ifCond .lt 24, 3) := by decide +kernel
theorem dX8_extreme_64 : decode cX8_extreme 64 = .ok (.iload_n 3, 1) := by decide +kernel
theorem dX8_extreme_65 : decode cX8_extreme 65 = .ok (.ifCond .eq 13, 3) := by decide +kernel
theorem dX8_extreme_68 : decode cX8_extreme 68 = .ok (.iload 7, 2) := by decide +kernel
theorem dX8_extreme_70 : decode cX8_extreme 70 = .ok (.iload 4, 2) := by decide +kernel
theorem dX8_extreme_72 : decode cX8_extreme 72 = .ok (.if_icmp .le 17, 3) := by decide +kernel
theorem dX8_extreme_75 : decode cX8_extreme 75 = .ok (.goto 10, 3) := by decide +kernel
theorem dX8_extreme_78 : decode cX8_extreme 78 = .ok (.iload 7, 2) := by decide +kernel
theorem dX8_extreme_80 : decode cX8_extreme 80 = .ok (.iload 4, 2) := by decide +kernel
theorem dX8_extreme_82 : decode cX8_extreme 82 = .ok (.if_icmp .ge 7, 3) := by decide +kernel
theorem dX8_extreme_85 : decode cX8_extreme 85 = .ok (.iload 7, 2) := by decide +kernel
theorem dX8_extreme_87 : decode cX8_extreme 87 = .ok (.istore 4, 2) := by decide +kernel
theorem dX8_extreme_89 : decode cX8_extreme 89 = .ok (.iinc 6 1, 3) := by decide +kernel
theorem dX8_extreme_92 : decode cX8_extreme 92 = .ok (.goto (-76), 3) := by decide +kernel
theorem dX8_extreme_95 : decode cX8_extreme 95 = .ok (.iinc 5 1, 3) := by decide +kernel
theorem dX8_extreme_98 : decode cX8_extreme 98 = .ok (.goto (-92), 3) := by decide +kernel
theorem dX8_extreme_101 : decode cX8_extreme 101 = .ok (.iload 4, 2) := by decide +kernel
theorem dX8_extreme_103 : decode cX8_extreme 103 = .ok (.ireturn, 1) := by decide +kernel
theorem dX8_deep_0 : decode cX8_deep 0 = .ok (.iconst 0, 1) := by decide +kernel
theorem dX8_deep_1 : decode cX8_deep 1 = .ok (.istore_n 3, 1) := by decide +kernel
theorem dX8_deep_2 : decode cX8_deep 2 = .ok (.iconst 0, 1) := by decide +kernel
theorem dX8_deep_3 : decode cX8_deep 3 = .ok (.istore 4, 2) := by decide +kernel
theorem dX8_deep_5 : decode cX8_deep 5 = .ok (.iload 4, 2) := by decide +kernel
theorem dX8_deep_7 : decode cX8_deep 7 = .ok (.aload_n 0, 1) := by decide +kernel
theorem dX8_deep_8 : decode cX8_deep 8 = .ok (.getfield 147, 3) := by decide +kernel
theorem dX8_deep_11 : decode cX8_deep 11 = .ok (.if_icmp .ge 46, 3) := by decide +kernel
theorem dX8_deep_14 : decode cX8_deep 14 = .ok (.iload_n 3, 1) := by decide +kernel
theorem dX8_deep_15 : decode cX8_deep 15 = .ok (.aload_n 0, 1) := by decide +kernel
theorem dX8_deep_16 : decode cX8_deep 16 = .ok (.getfield 33, 3) := by decide +kernel
theorem dX8_deep_19 : decode cX8_deep 19 = .ok (.iload 4, 2) := by decide +kernel
theorem dX8_deep_21 : decode cX8_deep 21 = .ok (.iaload, 1) := by decide +kernel
theorem dX8_deep_22 : decode cX8_deep 22 = .ok (.iload_n 1, 1) := by decide +kernel
theorem dX8_deep_23 : decode cX8_deep 23 = .ok (.ishr, 1) := by decide +kernel
theorem dX8_deep_24 : decode cX8_deep 24 = .ok (.iconst 1, 1) := by decide +kernel
theorem dX8_deep_25 : decode cX8_deep 25 = .ok (.iand, 1) := by decide +kernel
theorem dX8_deep_26 : decode cX8_deep 26 = .ok (.iconst 1, 1) := by decide +kernel
theorem dX8_deep_27 : decode cX8_deep 27 = .ok (.if_icmp .ne 21, 3) := by decide +kernel
theorem dX8_deep_30 : decode cX8_deep 30 = .ok (.aload_n 0, 1) := by decide +kernel
theorem dX8_deep_31 : decode cX8_deep 31 = .ok (.getfield 33, 3) := by decide +kernel
theorem dX8_deep_34 : decode cX8_deep 34 = .ok (.iload 4, 2) := by decide +kernel
theorem dX8_deep_36 : decode cX8_deep 36 = .ok (.iaload, 1) := by decide +kernel
theorem dX8_deep_37 : decode cX8_deep 37 = .ok (.iload_n 2, 1) := by decide +kernel
theorem dX8_deep_38 : decode cX8_deep 38 = .ok (.iconst (-1), 1) := by decide +kernel
theorem dX8_deep_39 : decode cX8_deep 39 = .ok (.ixor, 1) := by decide +kernel
theorem dX8_deep_40 : decode cX8_deep 40 = .ok (.iand, 1) := by decide +kernel
theorem dX8_deep_41 : decode cX8_deep 41 = .ok (.ifCond .ne 7, 3) := by decide +kernel
theorem dX8_deep_44 : decode cX8_deep 44 = .ok (.iconst 1, 1) := by decide +kernel
theorem dX8_deep_45 : decode cX8_deep 45 = .ok (.goto 4, 3) := by decide +kernel
theorem dX8_deep_48 : decode cX8_deep 48 = .ok (.iconst 0, 1) := by decide +kernel
theorem dX8_deep_49 : decode cX8_deep 49 = .ok (.iadd, 1) := by decide +kernel
theorem dX8_deep_50 : decode cX8_deep 50 = .ok (.istore_n 3, 1) := by decide +kernel
theorem dX8_deep_51 : decode cX8_deep 51 = .ok (.iinc 4 1, 3) := by decide +kernel
theorem dX8_deep_54 : decode cX8_deep 54 = .ok (.goto (-49), 3) := by decide +kernel
theorem dX8_deep_57 : decode cX8_deep 57 = .ok (.iload_n 3, 1) := by decide +kernel
theorem dX8_deep_58 : decode cX8_deep 58 = .ok (.ireturn, 1) := by decide +kernel
theorem dX8_weighted_0 : decode cX8_weighted 0 = .ok (.lconst 0, 1) := by decide +kernel
theorem dX8_weighted_1 : decode cX8_weighted 1 = .ok (.lstore_n 3, 1) := by decide +kernel
theorem dX8_weighted_2 : decode cX8_weighted 2 = .ok (.iconst 0, 1) := by decide +kernel
theorem dX8_weighted_3 : decode cX8_weighted 3 = .ok (.istore 5, 2) := by decide +kernel
theorem dX8_weighted_5 : decode cX8_weighted 5 = .ok (.iload 5, 2) := by decide +kernel
theorem dX8_weighted_7 : decode cX8_weighted 7 = .ok (.bipush 20, 2) := by decide +kernel
theorem dX8_weighted_9 : decode cX8_weighted 9 = .ok (.if_icmp .ge 87, 3) := by decide +kernel
theorem dX8_weighted_12 : decode cX8_weighted 12 = .ok (.iload_n 1, 1) := by decide +kernel
theorem dX8_weighted_13 : decode cX8_weighted 13 = .ok (.iload 5, 2) := by decide +kernel
theorem dX8_weighted_15 : decode cX8_weighted 15 = .ok (.ishr, 1) := by decide +kernel
