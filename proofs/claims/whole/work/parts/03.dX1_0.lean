theorem dX1_init_0 : decode cX1_init 0 = .ok (.aload_n 0, 1) := by decide +kernel
theorem dX1_init_1 : decode cX1_init 1 = .ok (.invokespecial 3, 3) := by decide +kernel
theorem dX1_init_4 : decode cX1_init 4 = .ok (.aload_n 0, 1) := by decide +kernel
theorem dX1_init_5 : decode cX1_init 5 = .ok (.new 9, 3) := by decide +kernel
theorem dX1_init_8 : decode cX1_init 8 = .ok (.dup, 1) := by decide +kernel
theorem dX1_init_9 : decode cX1_init 9 = .ok (.invokespecial 11, 3) := by decide +kernel
theorem dX1_init_12 : decode cX1_init 12 = .ok (.putfield 12, 3) := by decide +kernel
theorem dX1_init_15 : decode cX1_init 15 = .ok (.aload_n 0, 1) := by decide +kernel
theorem dX1_init_16 : decode cX1_init 16 = .ok (.bipush 19, 2) := by decide +kernel
theorem dX1_init_18 : decode cX1_init 18 = .ok (.newarray .int, 2) := by decide +kernel
theorem dX1_init_20 : decode cX1_init 20 = .ok (.putfield 18, 3) := by decide +kernel
theorem dX1_init_23 : decode cX1_init 23 = .ok (.aload_n 0, 1) := by decide +kernel
theorem dX1_init_24 : decode cX1_init 24 = .ok (.bipush 20, 2) := by decide +kernel
theorem dX1_init_26 : decode cX1_init 26 = .ok (.newarray .int, 2) := by decide +kernel
theorem dX1_init_28 : decode cX1_init 28 = .ok (.putfield 22, 3) := by decide +kernel
theorem dX1_init_31 : decode cX1_init 31 = .ok (.aload_n 0, 1) := by decide +kernel
theorem dX1_init_32 : decode cX1_init 32 = .ok (.bipush 20, 2) := by decide +kernel
theorem dX1_init_34 : decode cX1_init 34 = .ok (.newarray .int, 2) := by decide +kernel
theorem dX1_init_36 : decode cX1_init 36 = .ok (.putfield 25, 3) := by decide +kernel
theorem dX1_init_39 : decode cX1_init 39 = .ok (.aload_n 0, 1) := by decide +kernel
theorem dX1_init_40 : decode cX1_init 40 = .ok (.bipush 20, 2) := by decide +kernel
theorem dX1_init_42 : decode cX1_init 42 = .ok (.newarray .int, 2) := by decide +kernel
theorem dX1_init_44 : decode cX1_init 44 = .ok (.putfield 28, 3) := by decide +kernel
theorem dX1_init_47 : decode cX1_init 47 = .ok (.aload_n 0, 1) := by decide +kernel
theorem dX1_init_48 : decode cX1_init 48 = .ok (.bipush 20, 2) := by decide +kernel
theorem dX1_init_50 : decode cX1_init 50 = .ok (.newarray .long, 2) := by decide +kernel
theorem dX1_init_52 : decode cX1_init 52 = .ok (.putfield 31, 3) := by decide +kernel
theorem dX1_init_55 : decode cX1_init 55 = .ok (.aload_n 0, 1) := by decide +kernel
theorem dX1_init_56 : decode cX1_init 56 = .ok (.bipush 20, 2) := by decide +kernel
theorem dX1_init_58 : decode cX1_init 58 = .ok (.bipush 20, 2) := by decide +kernel
theorem dX1_init_60 : decode cX1_init 60 = .ok (.multianewarray 35 2, 4) := by decide +kernel
theorem dX1_init_64 : decode cX1_init 64 = .ok (.putfield 37, 3) := by decide +kernel
theorem dX1_init_67 : decode cX1_init 67 = .ok (.aload_n 0, 1) := by decide +kernel
theorem dX1_init_68 : decode cX1_init 68 = .ok (.bipush 20, 2) := by decide +kernel
theorem dX1_init_70 : decode cX1_init 70 = .ok (.bipush 20, 2) := by decide +kernel
theorem dX1_init_72 : decode cX1_init 72 = .ok (.multianewarray 35 2, 4) := by decide +kernel
theorem dX1_init_76 : decode cX1_init 76 = .ok (.putfield 40, 3) := by decide +kernel
theorem dX1_init_79 : decode cX1_init 79 = .ok (.aload_n 0, 1) := by decide +kernel
theorem dX1_init_80 : decode cX1_init 80 = .ok (.bipush 20, 2) := by decide +kernel
theorem dX1_init_82 : decode cX1_init 82 = .ok (.bipush 20, 2) := by decide +kernel
theorem dX1_init_84 : decode cX1_init 84 = .ok (.multianewarray 35 2, 4) := by decide +kernel
theorem dX1_init_88 : decode cX1_init 88 = .ok (.putfield 43, 3) := by decide +kernel
theorem dX1_init_91 : decode cX1_init 91 = .ok (.aload_n 0, 1) := by decide +kernel
theorem dX1_init_92 : decode cX1_init 92 = .ok (.bipush 20, 2) := by decide +kernel
theorem dX1_init_94 : decode cX1_init 94 = .ok (.newarray .int, 2) := by decide +kernel
theorem dX1_init_96 : decode cX1_init 96 = .ok (.putfield 46, 3) := by decide +kernel
theorem dX1_init_99 : decode cX1_init 99 = .ok (.return_, 1) := by decide +kernel
theorem dX1_begin_0 : decode cX1_begin 0 = .ok (.aload_n 0, 1) := by decide +kernel
theorem dX1_begin_1 : decode cX1_begin 1 = .ok (.aload_n 1, 1) := by decide +kernel
theorem dX1_begin_2 : decode cX1_begin 2 = .ok (.getfield 49, 3) := by decide +kernel
theorem dX1_begin_5 : decode cX1_begin 5 = .ok (.putfield 55, 3) := by decide +kernel
theorem dX1_begin_8 : decode cX1_begin 8 = .ok (.aload_n 0, 1) := by decide +kernel
theorem dX1_begin_9 : decode cX1_begin 9 = .ok (.iload_n 2, 1) := by decide +kernel
theorem dX1_begin_10 : decode cX1_begin 10 = .ok (.putfield 58, 3) := by decide +kernel
theorem dX1_begin_13 : decode cX1_begin 13 = .ok (.aload_n 0, 1) := by decide +kernel
theorem dX1_begin_14 : decode cX1_begin 14 = .ok (.iconst 0, 1) := by decide +kernel
theorem dX1_begin_15 : decode cX1_begin 15 = .ok (.putfield 61, 3) := by decide +kernel
theorem dX1_begin_18 : decode cX1_begin 18 = .ok (.aload_n 0, 1) := by decide +kernel
theorem dX1_begin_19 : decode cX1_begin 19 = .ok (.getfield 12, 3) := by decide +kernel
theorem dX1_begin_22 : decode cX1_begin 22 = .ok (.iconst 0, 1) := by decide +kernel
theorem dX1_begin_23 : decode cX1_begin 23 = .ok (.putfield 64, 3) := by decide +kernel
theorem dX1_begin_26 : decode cX1_begin 26 = .ok (.aload_n 0, 1) := by decide +kernel
theorem dX1_begin_27 : decode cX1_begin 27 = .ok (.aload_n 0, 1) := by decide +kernel
theorem dX1_begin_28 : decode cX1_begin 28 = .ok (.getfield 55, 3) := by decide +kernel
theorem dX1_begin_31 : decode cX1_begin 31 = .ok (.putfield 65, 3) := by decide +kernel
theorem dX1_begin_34 : decode cX1_begin 34 = .ok (.aload_n 0, 1) := by decide +kernel
theorem dX1_begin_35 : decode cX1_begin 35 = .ok (.iconst 0, 1) := by decide +kernel
theorem dX1_begin_36 : decode cX1_begin 36 = .ok (.putfield 66, 3) := by decide +kernel
theorem dX1_begin_39 : decode cX1_begin 39 = .ok (.iconst 0, 1) := by decide +kernel
theorem dX1_begin_40 : decode cX1_begin 40 = .ok (.istore_n 3, 1) := by decide +kernel
theorem dX1_begin_41 : decode cX1_begin 41 = .ok (.iload_n 3, 1) := by decide +kernel
theorem dX1_begin_42 : decode cX1_begin 42 = .ok (.aload_n 0, 1) := by decide +kernel
theorem dX1_begin_43 : decode cX1_begin 43 = .ok (.getfield 55, 3) := by decide +kernel
theorem dX1_begin_46 : decode cX1_begin 46 = .ok (.if_icmp .ge 39, 3) := by decide +kernel
theorem dX1_begin_49 : decode cX1_begin 49 = .ok (.aload_n 0, 1) := by decide +kernel
theorem dX1_begin_50 : decode cX1_begin 50 = .ok (.getfield 22, 3) := by decide +kernel
theorem dX1_begin_53 : decode cX1_begin 53 = .ok (.iload_n 3, 1) := by decide +kernel
theorem dX1_begin_54 : decode cX1_begin 54 = .ok (.iload_n 3, 1) := by decide +kernel
theorem dX1_begin_55 : decode cX1_begin 55 = .ok (.iastore, 1) := by decide +kernel
theorem dX1_begin_56 : decode cX1_begin 56 = .ok (.aload_n 0, 1) := by decide +kernel
theorem dX1_begin_57 : decode cX1_begin 57 = .ok (.getfield 25, 3) := by decide +kernel
theorem dX1_begin_60 : decode cX1_begin 60 = .ok (.iload_n 3, 1) := by decide +kernel
theorem dX1_begin_61 : decode cX1_begin 61 = .ok (.iload_n 3, 1) := by decide +kernel
theorem dX1_begin_62 : decode cX1_begin 62 = .ok (.iastore, 1) := by decide +kernel
theorem dX1_begin_63 : decode cX1_begin 63 = .ok (.aload_n 0, 1) := by decide +kernel
theorem dX1_begin_64 : decode cX1_begin 64 = .ok (.getfield 28, 3) := by decide +kernel
theorem dX1_begin_67 : decode cX1_begin 67 = .ok (.iload_n 3, 1) := by decide +kernel
theorem dX1_begin_68 : decode cX1_begin 68 = .ok (.iconst 1, 1) := by decide +kernel
theorem dX1_begin_69 : decode cX1_begin 69 = .ok (.iload_n 3, 1) := by decide +kernel
theorem dX1_begin_70 : decode cX1_begin 70 = .ok (.ishl, 1) := by decide +kernel
theorem dX1_begin_71 : decode cX1_begin 71 = .ok (.iastore, 1) := by decide +kernel
theorem dX1_begin_72 : decode cX1_begin 72 = .ok (.aload_n 0, 1) := by decide +kernel
theorem dX1_begin_73 : decode cX1_begin 73 = .ok (.getfield 31, 3) := by decide +kernel
theorem dX1_begin_76 : decode cX1_begin 76 = .ok (.iload_n 3, 1) := by decide +kernel
theorem dX1_begin_77 : decode cX1_begin 77 = .ok (.lconst 0, 1) := by decide +kernel
theorem dX1_begin_78 : decode cX1_begin 78 = .ok (.lastore, 1) := by decide +kernel
theorem dX1_begin_79 : decode cX1_begin 79 = .ok (.iinc 3 1, 3) := by decide +kernel
theorem dX1_begin_82 : decode cX1_begin 82 = .ok (.goto (-41), 3) := by decide +kernel
theorem dX1_begin_85 : decode cX1_begin 85 = .ok (.iconst 1, 1) := by decide +kernel
theorem dX1_begin_86 : decode cX1_begin 86 = .ok (.istore_n 3, 1) := by decide +kernel
theorem dX1_begin_87 : decode cX1_begin 87 = .ok (.iload_n 3, 1) := by decide +kernel
theorem dX1_begin_88 : decode cX1_begin 88 = .ok (.aload_n 0, 1) := by decide +kernel
theorem dX1_begin_89 : decode cX1_begin 89 = .ok (.getfield 55, 3) := by decide +kernel
theorem dX1_begin_92 : decode cX1_begin 92 = .ok (.if_icmp .ge 47, 3) := by decide +kernel
theorem dX1_begin_95 : decode cX1_begin 95 = .ok (.iconst 0, 1) := by decide +kernel
theorem dX1_begin_96 : decode cX1_begin 96 = .ok (.istore 4, 2) := by decide +kernel
theorem dX1_begin_98 : decode cX1_begin 98 = .ok (.iload 4, 2) := by decide +kernel
theorem dX1_begin_100 : decode cX1_begin 100 = .ok (.iload_n 3, 1) := by decide +kernel
theorem dX1_begin_101 : decode cX1_begin 101 = .ok (.if_icmp .ge 32, 3) := by decide +kernel
theorem dX1_begin_104 : decode cX1_begin 104 = .ok (.aload_n 0, 1) := by decide +kernel
theorem dX1_begin_105 : decode cX1_begin 105 = .ok (.iload_n 3, 1) := by decide +kernel
theorem dX1_begin_106 : decode cX1_begin 106 = .ok (.iload 4, 2) := by decide +kernel
theorem dX1_begin_108 : decode cX1_begin 108 = .ok (.aload_n 0, 1) := by decide +kernel
theorem dX1_begin_109 : decode cX1_begin 109 = .ok (.getfield 58, 3) := by decide +kernel
theorem dX1_begin_112 : decode cX1_begin 112 = .ok (.aload_n 1, 1) := by decide +kernel
theorem dX1_begin_113 : decode cX1_begin 113 = .ok (.getfield 69, 3) := by decide +kernel
theorem dX1_begin_116 : decode cX1_begin 116 = .ok (.iload_n 3, 1) := by decide +kernel
theorem dX1_begin_117 : decode cX1_begin 117 = .ok (.aaload, 1) := by decide +kernel
theorem dX1_begin_118 : decode cX1_begin 118 = .ok (.iload 4, 2) := by decide +kernel
theorem dX1_begin_120 : decode cX1_begin 120 = .ok (.iaload, 1) := by decide +kernel
theorem dX1_begin_121 : decode cX1_begin 121 = .ok (.invokestatic 73, 3) := by decide +kernel
theorem dX1_begin_124 : decode cX1_begin 124 = .ok (.invokevirtual 79, 3) := by decide +kernel
theorem dX1_begin_127 : decode cX1_begin 127 = .ok (.iinc 4 1, 3) := by decide +kernel
theorem dX1_begin_130 : decode cX1_begin 130 = .ok (.goto (-32), 3) := by decide +kernel
theorem dX1_begin_133 : decode cX1_begin 133 = .ok (.iinc 3 1, 3) := by decide +kernel
theorem dX1_begin_136 : decode cX1_begin 136 = .ok (.goto (-49), 3) := by decide +kernel
theorem dX1_begin_139 : decode cX1_begin 139 = .ok (.return_, 1) := by decide +kernel
theorem dX1_setCore_0 : decode cX1_setCore 0 = .ok (.aload_n 0, 1) := by decide +kernel
theorem dX1_setCore_1 : decode cX1_setCore 1 = .ok (.getfield 28, 3) := by decide +kernel
theorem dX1_setCore_4 : decode cX1_setCore 4 = .ok (.iload_n 1, 1) := by decide +kernel
theorem dX1_setCore_5 : decode cX1_setCore 5 = .ok (.iaload, 1) := by decide +kernel
theorem dX1_setCore_6 : decode cX1_setCore 6 = .ok (.invokestatic 83, 3) := by decide +kernel
theorem dX1_setCore_9 : decode cX1_setCore 9 = .ok (.istore 5, 2) := by decide +kernel
theorem dX1_setCore_11 : decode cX1_setCore 11 = .ok (.aload_n 0, 1) := by decide +kernel
theorem dX1_setCore_12 : decode cX1_setCore 12 = .ok (.getfield 28, 3) := by decide +kernel
theorem dX1_setCore_15 : decode cX1_setCore 15 = .ok (.iload_n 2, 1) := by decide +kernel
theorem dX1_setCore_16 : decode cX1_setCore 16 = .ok (.iaload, 1) := by decide +kernel
theorem dX1_setCore_17 : decode cX1_setCore 17 = .ok (.invokestatic 83, 3) := by decide +kernel
theorem dX1_setCore_20 : decode cX1_setCore 20 = .ok (.istore 6, 2) := by decide +kernel
theorem dX1_setCore_22 : decode cX1_setCore 22 = .ok (.aload_n 0, 1) := by decide +kernel
theorem dX1_setCore_23 : decode cX1_setCore 23 = .ok (.getfield 58, 3) := by decide +kernel
theorem dX1_setCore_26 : decode cX1_setCore 26 = .ok (.iconst 3, 1) := by decide +kernel
theorem dX1_setCore_27 : decode cX1_setCore 27 = .ok (.if_icmp .ne 26, 3) := by decide +kernel
theorem dX1_setCore_30 : decode cX1_setCore 30 = .ok (.lload_n 3, 1) := by decide +kernel
theorem dX1_setCore_31 : decode cX1_setCore 31 = .ok (.iload 5, 2) := by decide +kernel
theorem dX1_setCore_33 : decode cX1_setCore 33 = .ok (.iload 6, 2) := by decide +kernel
theorem dX1_setCore_35 : decode cX1_setCore 35 = .ok (.aload_n 0, 1) := by decide +kernel
theorem dX1_setCore_36 : decode cX1_setCore 36 = .ok (.getfield 31, 3) := by decide +kernel
theorem dX1_setCore_39 : decode cX1_setCore 39 = .ok (.iload_n 1, 1) := by decide +kernel
theorem dX1_setCore_40 : decode cX1_setCore 40 = .ok (.laload, 1) := by decide +kernel
theorem dX1_setCore_41 : decode cX1_setCore 41 = .ok (.aload_n 0, 1) := by decide +kernel
theorem dX1_setCore_42 : decode cX1_setCore 42 = .ok (.getfield 31, 3) := by decide +kernel
theorem dX1_setCore_45 : decode cX1_setCore 45 = .ok (.iload_n 2, 1) := by decide +kernel
theorem dX1_setCore_46 : decode cX1_setCore 46 = .ok (.laload, 1) := by decide +kernel
theorem dX1_setCore_47 : decode cX1_setCore 47 = .ok (.invokestatic 89, 3) := by decide +kernel
theorem dX1_setCore_50 : decode cX1_setCore 50 = .ok (.goto 4, 3) := by decide +kernel
theorem dX1_setCore_53 : decode cX1_setCore 53 = .ok (.lload_n 3, 1) := by decide +kernel
theorem dX1_setCore_54 : decode cX1_setCore 54 = .ok (.lstore 7, 2) := by decide +kernel
theorem dX1_setCore_56 : decode cX1_setCore 56 = .ok (.aload_n 0, 1) := by decide +kernel
theorem dX1_setCore_57 : decode cX1_setCore 57 = .ok (.getfield 58, 3) := by decide +kernel
theorem dX1_setCore_60 : decode cX1_setCore 60 = .ok (.iload 5, 2) := by decide +kernel
theorem dX1_setCore_62 : decode cX1_setCore 62 = .ok (.iload 6, 2) := by decide +kernel
theorem dX1_setCore_64 : decode cX1_setCore 64 = .ok (.invokestatic 93, 3) := by decide +kernel
theorem dX1_setCore_67 : decode cX1_setCore 67 = .ok (.lstore 9, 2) := by decide +kernel
theorem dX1_setCore_69 : decode cX1_setCore 69 = .ok (.aload_n 0, 1) := by decide +kernel
theorem dX1_setCore_70 : decode cX1_setCore 70 = .ok (.getfield 37, 3) := by decide +kernel
theorem dX1_setCore_73 : decode cX1_setCore 73 = .ok (.iload_n 1, 1) := by decide +kernel
theorem dX1_setCore_74 : decode cX1_setCore 74 = .ok (.aaload, 1) := by decide +kernel
theorem dX1_setCore_75 : decode cX1_setCore 75 = .ok (.iload_n 2, 1) := by decide +kernel
theorem dX1_setCore_76 : decode cX1_setCore 76 = .ok (.lload_n 3, 1) := by decide +kernel
theorem dX1_setCore_77 : decode cX1_setCore 77 = .ok (.lastore, 1) := by decide +kernel
theorem dX1_setCore_78 : decode cX1_setCore 78 = .ok (.aload_n 0, 1) := by decide +kernel
theorem dX1_setCore_79 : decode cX1_setCore 79 = .ok (.getfield 37, 3) := by decide +kernel
theorem dX1_setCore_82 : decode cX1_setCore 82 = .ok (.iload_n 2, 1) := by decide +kernel
theorem dX1_setCore_83 : decode cX1_setCore 83 = .ok (.aaload, 1) := by decide +kernel
theorem dX1_setCore_84 : decode cX1_setCore 84 = .ok (.iload_n 1, 1) := by decide +kernel
theorem dX1_setCore_85 : decode cX1_setCore 85 = .ok (.lload_n 3, 1) := by decide +kernel
theorem dX1_setCore_86 : decode cX1_setCore 86 = .ok (.lastore, 1) := by decide +kernel
theorem dX1_setCore_87 : decode cX1_setCore 87 = .ok (.aload_n 0, 1) := by decide +kernel
theorem dX1_setCore_88 : decode cX1_setCore 88 = .ok (.getfield 40, 3) := by decide +kernel
theorem dX1_setCore_91 : decode cX1_setCore 91 = .ok (.iload_n 1, 1) := by decide +kernel
theorem dX1_setCore_92 : decode cX1_setCore 92 = .ok (.aaload, 1) := by decide +kernel
theorem dX1_setCore_93 : decode cX1_setCore 93 = .ok (.iload_n 2, 1) := by decide +kernel
theorem dX1_setCore_94 : decode cX1_setCore 94 = .ok (.lload 7, 2) := by decide +kernel
theorem dX1_setCore_96 : decode cX1_setCore 96 = .ok (.lastore, 1) := by decide +kernel
theorem dX1_setCore_97 : decode cX1_setCore 97 = .ok (.aload_n 0, 1) := by decide +kernel
theorem dX1_setCore_98 : decode cX1_setCore 98 = .ok (.getfield 40, 3) := by decide +kernel
theorem dX1_setCore_101 : decode cX1_setCore 101 = .ok (.iload_n 2, 1) := by decide +kernel
theorem dX1_setCore_102 : decode cX1_setCore 102 = .ok (.aaload, 1) := by decide +kernel
theorem dX1_setCore_103 : decode cX1_setCore 103 = .ok (.iload_n 1, 1) := by decide +kernel
theorem dX1_setCore_104 : decode cX1_setCore 104 = .ok (.lload 7, 2) := by decide +kernel
theorem dX1_setCore_106 : decode cX1_setCore 106 = .ok (.lastore, 1) := by decide +kernel
theorem dX1_setCore_107 : decode cX1_setCore 107 = .ok (.aload_n 0, 1) := by decide +kernel
theorem dX1_setCore_108 : decode cX1_setCore 108 = .ok (.getfield 43, 3) := by decide +kernel
theorem dX1_setCore_111 : decode cX1_setCore 111 = .ok (.iload_n 1, 1) := by decide +kernel
theorem dX1_setCore_112 : decode cX1_setCore 112 = .ok (.aaload, 1) := by decide +kernel
theorem dX1_setCore_113 : decode cX1_setCore 113 = .ok (.iload_n 2, 1) := by decide +kernel
theorem dX1_setCore_114 : decode cX1_setCore 114 = .ok (.lload 9, 2) := by decide +kernel
theorem dX1_setCore_116 : decode cX1_setCore 116 = .ok (.lastore, 1) := by decide +kernel
theorem dX1_setCore_117 : decode cX1_setCore 117 = .ok (.aload_n 0, 1) := by decide +kernel
theorem dX1_setCore_118 : decode cX1_setCore 118 = .ok (.getfield 43, 3) := by decide +kernel
theorem dX1_setCore_121 : decode cX1_setCore 121 = .ok (.iload_n 2, 1) := by decide +kernel
theorem dX1_setCore_122 : decode cX1_setCore 122 = .ok (.aaload, 1) := by decide +kernel
theorem dX1_setCore_123 : decode cX1_setCore 123 = .ok (.iload_n 1, 1) := by decide +kernel
theorem dX1_setCore_124 : decode cX1_setCore 124 = .ok (.lload 9, 2) := by decide +kernel
theorem dX1_setCore_126 : decode cX1_setCore 126 = .ok (.lastore, 1) := by decide +kernel
theorem dX1_setCore_127 : decode cX1_setCore 127 = .ok (.return_, 1) := by decide +kernel
theorem dX1_compareLinkages_0 : decode cX1_compareLinkages 0 = .ok (.aload_n 0, 1) := by decide +kernel
theorem dX1_compareLinkages_1 : decode cX1_compareLinkages 1 = .ok (.getfield 40, 3) := by decide +kernel
theorem dX1_compareLinkages_4 : decode cX1_compareLinkages 4 = .ok (.iload_n 1, 1) := by decide +kernel
theorem dX1_compareLinkages_5 : decode cX1_compareLinkages 5 = .ok (.aaload, 1) := by decide +kernel
theorem dX1_compareLinkages_6 : decode cX1_compareLinkages 6 = .ok (.iload_n 2, 1) := by decide +kernel
theorem dX1_compareLinkages_7 : decode cX1_compareLinkages 7 = .ok (.laload, 1) := by decide +kernel
theorem dX1_compareLinkages_8 : decode cX1_compareLinkages 8 = .ok (.aload_n 0, 1) := by decide +kernel
theorem dX1_compareLinkages_9 : decode cX1_compareLinkages 9 = .ok (.getfield 43, 3) := by decide +kernel
theorem dX1_compareLinkages_12 : decode cX1_compareLinkages 12 = .ok (.iload_n 3, 1) := by decide +kernel
theorem dX1_compareLinkages_13 : decode cX1_compareLinkages 13 = .ok (.aaload, 1) := by decide +kernel
theorem dX1_compareLinkages_14 : decode cX1_compareLinkages 14 = .ok (.iload 4, 2) := by decide +kernel
theorem dX1_compareLinkages_16 : decode cX1_compareLinkages 16 = .ok (.laload, 1) := by decide +kernel
theorem dX1_compareLinkages_17 : decode cX1_compareLinkages 17 = .ok (.lmul, 1) := by decide +kernel
theorem dX1_compareLinkages_18 : decode cX1_compareLinkages 18 = .ok (.aload_n 0, 1) := by decide +kernel
theorem dX1_compareLinkages_19 : decode cX1_compareLinkages 19 = .ok (.getfield 40, 3) := by decide +kernel
theorem dX1_compareLinkages_22 : decode cX1_compareLinkages 22 = .ok (.iload_n 3, 1) := by decide +kernel
theorem dX1_compareLinkages_23 : decode cX1_compareLinkages 23 = .ok (.aaload, 1) := by decide +kernel
theorem dX1_compareLinkages_24 : decode cX1_compareLinkages 24 = .ok (.iload 4, 2) := by decide +kernel
theorem dX1_compareLinkages_26 : decode cX1_compareLinkages 26 = .ok (.laload, 1) := by decide +kernel
theorem dX1_compareLinkages_27 : decode cX1_compareLinkages 27 = .ok (.aload_n 0, 1) := by decide +kernel
theorem dX1_compareLinkages_28 : decode cX1_compareLinkages 28 = .ok (.getfield 43, 3) := by decide +kernel
theorem dX1_compareLinkages_31 : decode cX1_compareLinkages 31 = .ok (.iload_n 1, 1) := by decide +kernel
theorem dX1_compareLinkages_32 : decode cX1_compareLinkages 32 = .ok (.aaload, 1) := by decide +kernel
theorem dX1_compareLinkages_33 : decode cX1_compareLinkages 33 = .ok (.iload_n 2, 1) := by decide +kernel
theorem dX1_compareLinkages_34 : decode cX1_compareLinkages 34 = .ok (.laload, 1) := by decide +kernel
theorem dX1_compareLinkages_35 : decode cX1_compareLinkages 35 = .ok (.lmul, 1) := by decide +kernel
theorem dX1_compareLinkages_36 : decode cX1_compareLinkages 36 = .ok (.invokestatic 97, 3) := by decide +kernel
theorem dX1_compareLinkages_39 : decode cX1_compareLinkages 39 = .ok (.ireturn, 1) := by decide +kernel
theorem dX1_joinGreedily_0 : decode cX1_joinGreedily 0 = .ok (.iconst 0, 1) := by decide +kernel
theorem dX1_joinGreedily_1 : decode cX1_joinGreedily 1 = .ok (.istore_n 1, 1) := by decide +kernel
theorem dX1_joinGreedily_2 : decode cX1_joinGreedily 2 = .ok (.iload_n 1, 1) := by decide +kernel
theorem dX1_joinGreedily_3 : decode cX1_joinGreedily 3 = .ok (.bipush 19, 2) := by decide +kernel
theorem dX1_joinGreedily_5 : decode cX1_joinGreedily 5 = .ok (.if_icmp .ge 21, 3) := by decide +kernel
theorem dX1_joinGreedily_8 : decode cX1_joinGreedily 8 = .ok (.aload_n 0, 1) := by decide +kernel
theorem dX1_joinGreedily_9 : decode cX1_joinGreedily 9 = .ok (.getfield 65, 3) := by decide +kernel
theorem dX1_joinGreedily_12 : decode cX1_joinGreedily 12 = .ok (.iconst 1, 1) := by decide +kernel
theorem dX1_joinGreedily_13 : decode cX1_joinGreedily 13 = .ok (.if_icmp .le 13, 3) := by decide +kernel
theorem dX1_joinGreedily_16 : decode cX1_joinGreedily 16 = .ok (.aload_n 0, 1) := by decide +kernel
theorem dX1_joinGreedily_17 : decode cX1_joinGreedily 17 = .ok (.invokevirtual 103, 3) := by decide +kernel
theorem dX1_joinGreedily_20 : decode cX1_joinGreedily 20 = .ok (.iinc 1 1, 3) := by decide +kernel
theorem dX1_joinGreedily_23 : decode cX1_joinGreedily 23 = .ok (.goto (-21), 3) := by decide +kernel
theorem dX1_joinGreedily_26 : decode cX1_joinGreedily 26 = .ok (.return_, 1) := by decide +kernel
theorem dX1_joinLeastPair_0 : decode cX1_joinLeastPair 0 = .ok (.aload_n 0, 1) := by decide +kernel
theorem dX1_joinLeastPair_1 : decode cX1_joinLeastPair 1 = .ok (.getfield 22, 3) := by decide +kernel
theorem dX1_joinLeastPair_4 : decode cX1_joinLeastPair 4 = .ok (.iconst 0, 1) := by decide +kernel
theorem dX1_joinLeastPair_5 : decode cX1_joinLeastPair 5 = .ok (.iaload, 1) := by decide +kernel
theorem dX1_joinLeastPair_6 : decode cX1_joinLeastPair 6 = .ok (.istore_n 1, 1) := by decide +kernel
theorem dX1_joinLeastPair_7 : decode cX1_joinLeastPair 7 = .ok (.aload_n 0, 1) := by decide +kernel
theorem dX1_joinLeastPair_8 : decode cX1_joinLeastPair 8 = .ok (.getfield 22, 3) := by decide +kernel
theorem dX1_joinLeastPair_11 : decode cX1_joinLeastPair 11 = .ok (.iconst 1, 1) := by decide +kernel
theorem dX1_joinLeastPair_12 : decode cX1_joinLeastPair 12 = .ok (.iaload, 1) := by decide +kernel
theorem dX1_joinLeastPair_13 : decode cX1_joinLeastPair 13 = .ok (.istore_n 2, 1) := by decide +kernel
theorem dX1_joinLeastPair_14 : decode cX1_joinLeastPair 14 = .ok (.iconst 0, 1) := by decide +kernel
theorem dX1_joinLeastPair_15 : decode cX1_joinLeastPair 15 = .ok (.istore_n 3, 1) := by decide +kernel
theorem dX1_joinLeastPair_16 : decode cX1_joinLeastPair 16 = .ok (.iconst 0, 1) := by decide +kernel
theorem dX1_joinLeastPair_17 : decode cX1_joinLeastPair 17 = .ok (.istore 4, 2) := by decide +kernel
theorem dX1_joinLeastPair_19 : decode cX1_joinLeastPair 19 = .ok (.iload 4, 2) := by decide +kernel
theorem dX1_joinLeastPair_21 : decode cX1_joinLeastPair 21 = .ok (.aload_n 0, 1) := by decide +kernel
theorem dX1_joinLeastPair_22 : decode cX1_joinLeastPair 22 = .ok (.getfield 65, 3) := by decide +kernel
theorem dX1_joinLeastPair_25 : decode cX1_joinLeastPair 25 = .ok (.if_icmp .ge 86, 3) := by decide +kernel
theorem dX1_joinLeastPair_28 : decode cX1_joinLeastPair 28 = .ok (.iload 4, 2) := by decide +kernel
theorem dX1_joinLeastPair_30 : decode cX1_joinLeastPair 30 = .ok (.iconst 1, 1) := by decide +kernel
theorem dX1_joinLeastPair_31 : decode cX1_joinLeastPair 31 = .ok (.iadd, 1) := by decide +kernel
theorem dX1_joinLeastPair_32 : decode cX1_joinLeastPair 32 = .ok (.istore 5, 2) := by decide +kernel
theorem dX1_joinLeastPair_34 : decode cX1_joinLeastPair 34 = .ok (.iload 5, 2) := by decide +kernel
theorem dX1_joinLeastPair_36 : decode cX1_joinLeastPair 36 = .ok (.aload_n 0, 1) := by decide +kernel
theorem dX1_joinLeastPair_37 : decode cX1_joinLeastPair 37 = .ok (.getfield 65, 3) := by decide +kernel
theorem dX1_joinLeastPair_40 : decode cX1_joinLeastPair 40 = .ok (.if_icmp .ge 65, 3) := by decide +kernel
theorem dX1_joinLeastPair_43 : decode cX1_joinLeastPair 43 = .ok (.aload_n 0, 1) := by decide +kernel
theorem dX1_joinLeastPair_44 : decode cX1_joinLeastPair 44 = .ok (.aload_n 0, 1) := by decide +kernel
theorem dX1_joinLeastPair_45 : decode cX1_joinLeastPair 45 = .ok (.getfield 22, 3) := by decide +kernel
theorem dX1_joinLeastPair_48 : decode cX1_joinLeastPair 48 = .ok (.iload 4, 2) := by decide +kernel
theorem dX1_joinLeastPair_50 : decode cX1_joinLeastPair 50 = .ok (.iaload, 1) := by decide +kernel
theorem dX1_joinLeastPair_51 : decode cX1_joinLeastPair 51 = .ok (.aload_n 0, 1) := by decide +kernel
theorem dX1_joinLeastPair_52 : decode cX1_joinLeastPair 52 = .ok (.getfield 22, 3) := by decide +kernel
theorem dX1_joinLeastPair_55 : decode cX1_joinLeastPair 55 = .ok (.iload 5, 2) := by decide +kernel
theorem dX1_joinLeastPair_57 : decode cX1_joinLeastPair 57 = .ok (.iaload, 1) := by decide +kernel
theorem dX1_joinLeastPair_58 : decode cX1_joinLeastPair 58 = .ok (.iload_n 1, 1) := by decide +kernel
theorem dX1_joinLeastPair_59 : decode cX1_joinLeastPair 59 = .ok (.iload_n 2, 1) := by decide +kernel
theorem dX1_joinLeastPair_60 : decode cX1_joinLeastPair 60 = .ok (.invokevirtual 106, 3) := by decide +kernel
theorem dX1_joinLeastPair_63 : decode cX1_joinLeastPair 63 = .ok (.istore 6, 2) := by decide +kernel
theorem dX1_joinLeastPair_65 : decode cX1_joinLeastPair 65 = .ok (.iload 6, 2) := by decide +kernel
theorem dX1_joinLeastPair_67 : decode cX1_joinLeastPair 67 = .ok (.ifCond .ge 24, 3) := by decide +kernel
theorem dX1_joinLeastPair_70 : decode cX1_joinLeastPair 70 = .ok (.aload_n 0, 1) := by decide +kernel
theorem dX1_joinLeastPair_71 : decode cX1_joinLeastPair 71 = .ok (.getfield 22, 3) := by decide +kernel
theorem dX1_joinLeastPair_74 : decode cX1_joinLeastPair 74 = .ok (.iload 4, 2) := by decide +kernel
theorem dX1_joinLeastPair_76 : decode cX1_joinLeastPair 76 = .ok (.iaload, 1) := by decide +kernel
theorem dX1_joinLeastPair_77 : decode cX1_joinLeastPair 77 = .ok (.istore_n 1, 1) := by decide +kernel
theorem dX1_joinLeastPair_78 : decode cX1_joinLeastPair 78 = .ok (.aload_n 0, 1) := by decide +kernel
theorem dX1_joinLeastPair_79 : decode cX1_joinLeastPair 79 = .ok (.getfield 22, 3) := by decide +kernel
theorem dX1_joinLeastPair_82 : decode cX1_joinLeastPair 82 = .ok (.iload 5, 2) := by decide +kernel
theorem dX1_joinLeastPair_84 : decode cX1_joinLeastPair 84 = .ok (.iaload, 1) := by decide +kernel
theorem dX1_joinLeastPair_85 : decode cX1_joinLeastPair 85 = .ok (.istore_n 2, 1) := by decide +kernel
theorem dX1_joinLeastPair_86 : decode cX1_joinLeastPair 86 = .ok (.iconst 1, 1) := by decide +kernel
theorem dX1_joinLeastPair_87 : decode cX1_joinLeastPair 87 = .ok (.istore_n 3, 1) := by decide +kernel
theorem dX1_joinLeastPair_88 : decode cX1_joinLeastPair 88 = .ok (.goto 11, 3) := by decide +kernel
theorem dX1_joinLeastPair_91 : decode cX1_joinLeastPair 91 = .ok (.iload 6, 2) := by decide +kernel
theorem dX1_joinLeastPair_93 : decode cX1_joinLeastPair 93 = .ok (.ifCond .ne 6, 3) := by decide +kernel
theorem dX1_joinLeastPair_96 : decode cX1_joinLeastPair 96 = .ok (.iinc 3 1, 3) := by decide +kernel
theorem dX1_joinLeastPair_99 : decode cX1_joinLeastPair 99 = .ok (.iinc 5 1, 3) := by decide +kernel
theorem dX1_joinLeastPair_102 : decode cX1_joinLeastPair 102 = .ok (.goto (-68), 3) := by decide +kernel
theorem dX1_joinLeastPair_105 : decode cX1_joinLeastPair 105 = .ok (.iinc 4 1, 3) := by decide +kernel
theorem dX1_joinLeastPair_108 : decode cX1_joinLeastPair 108 = .ok (.goto (-89), 3) := by decide +kernel
theorem dX1_joinLeastPair_111 : decode cX1_joinLeastPair 111 = .ok (.iload_n 3, 1) := by decide +kernel
theorem dX1_joinLeastPair_112 : decode cX1_joinLeastPair 112 = .ok (.iconst 1, 1) := by decide +kernel
theorem dX1_joinLeastPair_113 : decode cX1_joinLeastPair 113 = .ok (.if_icmp .le 13, 3) := by decide +kernel
theorem dX1_joinLeastPair_116 : decode cX1_joinLeastPair 116 = .ok (.aload_n 0, 1) := by decide +kernel
theorem dX1_joinLeastPair_117 : decode cX1_joinLeastPair 117 = .ok (.dup, 1) := by decide +kernel
theorem dX1_joinLeastPair_118 : decode cX1_joinLeastPair 118 = .ok (.getfield 61, 3) := by decide +kernel
theorem dX1_joinLeastPair_121 : decode cX1_joinLeastPair 121 = .ok (.iconst 1, 1) := by decide +kernel
theorem dX1_joinLeastPair_122 : decode cX1_joinLeastPair 122 = .ok (.iadd, 1) := by decide +kernel
theorem dX1_joinLeastPair_123 : decode cX1_joinLeastPair 123 = .ok (.putfield 61, 3) := by decide +kernel
theorem dX1_joinLeastPair_126 : decode cX1_joinLeastPair 126 = .ok (.aload_n 0, 1) := by decide +kernel
theorem dX1_joinLeastPair_127 : decode cX1_joinLeastPair 127 = .ok (.iload_n 1, 1) := by decide +kernel
theorem dX1_joinLeastPair_128 : decode cX1_joinLeastPair 128 = .ok (.iload_n 2, 1) := by decide +kernel
theorem dX1_joinLeastPair_129 : decode cX1_joinLeastPair 129 = .ok (.invokevirtual 110, 3) := by decide +kernel
theorem dX1_joinLeastPair_132 : decode cX1_joinLeastPair 132 = .ok (.return_, 1) := by decide +kernel
theorem dX1_joinAlongChains_0 : decode cX1_joinAlongChains 0 = .ok (.iconst 0, 1) := by decide +kernel
theorem dX1_joinAlongChains_1 : decode cX1_joinAlongChains 1 = .ok (.istore_n 1, 1) := by decide +kernel
theorem dX1_joinAlongChains_2 : decode cX1_joinAlongChains 2 = .ok (.iload_n 1, 1) := by decide +kernel
theorem dX1_joinAlongChains_3 : decode cX1_joinAlongChains 3 = .ok (.sipush 1000, 3) := by decide +kernel
theorem dX1_joinAlongChains_6 : decode cX1_joinAlongChains 6 = .ok (.if_icmp .ge 21, 3) := by decide +kernel
theorem dX1_joinAlongChains_9 : decode cX1_joinAlongChains 9 = .ok (.aload_n 0, 1) := by decide +kernel
theorem dX1_joinAlongChains_10 : decode cX1_joinAlongChains 10 = .ok (.getfield 65, 3) := by decide +kernel
theorem dX1_joinAlongChains_13 : decode cX1_joinAlongChains 13 = .ok (.iconst 1, 1) := by decide +kernel
theorem dX1_joinAlongChains_14 : decode cX1_joinAlongChains 14 = .ok (.if_icmp .le 13, 3) := by decide +kernel
theorem dX1_joinAlongChains_17 : decode cX1_joinAlongChains 17 = .ok (.aload_n 0, 1) := by decide +kernel
theorem dX1_joinAlongChains_18 : decode cX1_joinAlongChains 18 = .ok (.invokevirtual 114, 3) := by decide +kernel
theorem dX1_joinAlongChains_21 : decode cX1_joinAlongChains 21 = .ok (.iinc 1 1, 3) := by decide +kernel
theorem dX1_joinAlongChains_24 : decode cX1_joinAlongChains 24 = .ok (.goto (-22), 3) := by decide +kernel
theorem dX1_joinAlongChains_27 : decode cX1_joinAlongChains 27 = .ok (.return_, 1) := by decide +kernel
theorem dX1_followChain_0 : decode cX1_followChain 0 = .ok (.aload_n 0, 1) := by decide +kernel
theorem dX1_followChain_1 : decode cX1_followChain 1 = .ok (.getfield 66, 3) := by decide +kernel
theorem dX1_followChain_4 : decode cX1_followChain 4 = .ok (.ifCond .ne 20, 3) := by decide +kernel
theorem dX1_followChain_7 : decode cX1_followChain 7 = .ok (.aload_n 0, 1) := by decide +kernel
theorem dX1_followChain_8 : decode cX1_followChain 8 = .ok (.getfield 46, 3) := by decide +kernel
theorem dX1_followChain_11 : decode cX1_followChain 11 = .ok (.iconst 0, 1) := by decide +kernel
theorem dX1_followChain_12 : decode cX1_followChain 12 = .ok (.aload_n 0, 1) := by decide +kernel
theorem dX1_followChain_13 : decode cX1_followChain 13 = .ok (.getfield 22, 3) := by decide +kernel
theorem dX1_followChain_16 : decode cX1_followChain 16 = .ok (.iconst 0, 1) := by decide +kernel
theorem dX1_followChain_17 : decode cX1_followChain 17 = .ok (.iaload, 1) := by decide +kernel
theorem dX1_followChain_18 : decode cX1_followChain 18 = .ok (.iastore, 1) := by decide +kernel
theorem dX1_followChain_19 : decode cX1_followChain 19 = .ok (.aload_n 0, 1) := by decide +kernel
theorem dX1_followChain_20 : decode cX1_followChain 20 = .ok (.iconst 1, 1) := by decide +kernel
theorem dX1_followChain_21 : decode cX1_followChain 21 = .ok (.putfield 66, 3) := by decide +kernel
theorem dX1_followChain_24 : decode cX1_followChain 24 = .ok (.aload_n 0, 1) := by decide +kernel
theorem dX1_followChain_25 : decode cX1_followChain 25 = .ok (.getfield 46, 3) := by decide +kernel
theorem dX1_followChain_28 : decode cX1_followChain 28 = .ok (.aload_n 0, 1) := by decide +kernel
theorem dX1_followChain_29 : decode cX1_followChain 29 = .ok (.getfield 66, 3) := by decide +kernel
theorem dX1_followChain_32 : decode cX1_followChain 32 = .ok (.iconst 1, 1) := by decide +kernel
theorem dX1_followChain_33 : decode cX1_followChain 33 = .ok (.isub, 1) := by decide +kernel
theorem dX1_followChain_34 : decode cX1_followChain 34 = .ok (.iaload, 1) := by decide +kernel
theorem dX1_followChain_35 : decode cX1_followChain 35 = .ok (.istore_n 1, 1) := by decide +kernel
theorem dX1_followChain_36 : decode cX1_followChain 36 = .ok (.aload_n 0, 1) := by decide +kernel
theorem dX1_followChain_37 : decode cX1_followChain 37 = .ok (.getfield 66, 3) := by decide +kernel
theorem dX1_followChain_40 : decode cX1_followChain 40 = .ok (.iconst 1, 1) := by decide +kernel
theorem dX1_followChain_41 : decode cX1_followChain 41 = .ok (.if_icmp .le 17, 3) := by decide +kernel
theorem dX1_followChain_44 : decode cX1_followChain 44 = .ok (.aload_n 0, 1) := by decide +kernel
theorem dX1_followChain_45 : decode cX1_followChain 45 = .ok (.getfield 46, 3) := by decide +kernel
theorem dX1_followChain_48 : decode cX1_followChain 48 = .ok (.aload_n 0, 1) := by decide +kernel
theorem dX1_followChain_49 : decode cX1_followChain 49 = .ok (.getfield 66, 3) := by decide +kernel
theorem dX1_followChain_52 : decode cX1_followChain 52 = .ok (.iconst 2, 1) := by decide +kernel
theorem dX1_followChain_53 : decode cX1_followChain 53 = .ok (.isub, 1) := by decide +kernel
theorem dX1_followChain_54 : decode cX1_followChain 54 = .ok (.iaload, 1) := by decide +kernel
theorem dX1_followChain_55 : decode cX1_followChain 55 = .ok (.goto 4, 3) := by decide +kernel
theorem dX1_followChain_58 : decode cX1_followChain 58 = .ok (.iconst (-1), 1) := by decide +kernel
theorem dX1_followChain_59 : decode cX1_followChain 59 = .ok (.istore_n 2, 1) := by decide +kernel
theorem dX1_followChain_60 : decode cX1_followChain 60 = .ok (.aload_n 0, 1) := by decide +kernel
theorem dX1_followChain_61 : decode cX1_followChain 61 = .ok (.iload_n 1, 1) := by decide +kernel
theorem dX1_followChain_62 : decode cX1_followChain 62 = .ok (.iload_n 2, 1) := by decide +kernel
theorem dX1_followChain_63 : decode cX1_followChain 63 = .ok (.invokevirtual 117, 3) := by decide +kernel
theorem dX1_followChain_66 : decode cX1_followChain 66 = .ok (.istore_n 3, 1) := by decide +kernel
theorem dX1_followChain_67 : decode cX1_followChain 67 = .ok (.iload_n 3, 1) := by decide +kernel
theorem dX1_followChain_68 : decode cX1_followChain 68 = .ok (.iconst (-1), 1) := by decide +kernel
theorem dX1_followChain_69 : decode cX1_followChain 69 = .ok (.if_icmp .ne 4, 3) := by decide +kernel
theorem dX1_followChain_72 : decode cX1_followChain 72 = .ok (.return_, 1) := by decide +kernel
theorem dX1_followChain_73 : decode cX1_followChain 73 = .ok (.iload_n 3, 1) := by decide +kernel
theorem dX1_followChain_74 : decode cX1_followChain 74 = .ok (.iload_n 2, 1) := by decide +kernel
theorem dX1_followChain_75 : decode cX1_followChain 75 = .ok (.if_icmp .ne 22, 3) := by decide +kernel
theorem dX1_followChain_78 : decode cX1_followChain 78 = .ok (.aload_n 0, 1) := by decide +kernel
theorem dX1_followChain_79 : decode cX1_followChain 79 = .ok (.dup, 1) := by decide +kernel
theorem dX1_followChain_80 : decode cX1_followChain 80 = .ok (.getfield 66, 3) := by decide +kernel
theorem dX1_followChain_83 : decode cX1_followChain 83 = .ok (.iconst 2, 1) := by decide +kernel
theorem dX1_followChain_84 : decode cX1_followChain 84 = .ok (.isub, 1) := by decide +kernel
theorem dX1_followChain_85 : decode cX1_followChain 85 = .ok (.putfield 66, 3) := by decide +kernel
theorem dX1_followChain_88 : decode cX1_followChain 88 = .ok (.aload_n 0, 1) := by decide +kernel
theorem dX1_followChain_89 : decode cX1_followChain 89 = .ok (.iload_n 2, 1) := by decide +kernel
theorem dX1_followChain_90 : decode cX1_followChain 90 = .ok (.iload_n 1, 1) := by decide +kernel
theorem dX1_followChain_91 : decode cX1_followChain 91 = .ok (.invokevirtual 110, 3) := by decide +kernel
theorem dX1_followChain_94 : decode cX1_followChain 94 = .ok (.goto 32, 3) := by decide +kernel
theorem dX1_followChain_97 : decode cX1_followChain 97 = .ok (.aload_n 0, 1) := by decide +kernel
theorem dX1_followChain_98 : decode cX1_followChain 98 = .ok (.getfield 66, 3) := by decide +kernel
theorem dX1_followChain_101 : decode cX1_followChain 101 = .ok (.bipush 20, 2) := by decide +kernel
theorem dX1_followChain_103 : decode cX1_followChain 103 = .ok (.if_icmp .ge 23, 3) := by decide +kernel
theorem dX1_followChain_106 : decode cX1_followChain 106 = .ok (.aload_n 0, 1) := by decide +kernel
theorem dX1_followChain_107 : decode cX1_followChain 107 = .ok (.getfield 46, 3) := by decide +kernel
theorem dX1_followChain_110 : decode cX1_followChain 110 = .ok (.aload_n 0, 1) := by decide +kernel
theorem dX1_followChain_111 : decode cX1_followChain 111 = .ok (.getfield 66, 3) := by decide +kernel
theorem dX1_followChain_114 : decode cX1_followChain 114 = .ok (.iload_n 3, 1) := by decide +kernel
theorem dX1_followChain_115 : decode cX1_followChain 115 = .ok (.iastore, 1) := by decide +kernel
theorem dX1_followChain_116 : decode cX1_followChain 116 = .ok (.aload_n 0, 1) := by decide +kernel
theorem dX1_followChain_117 : decode cX1_followChain 117 = .ok (.dup, 1) := by decide +kernel
theorem dX1_followChain_118 : decode cX1_followChain 118 = .ok (.getfield 66, 3) := by decide +kernel
theorem dX1_followChain_121 : decode cX1_followChain 121 = .ok (.iconst 1, 1) := by decide +kernel
theorem dX1_followChain_122 : decode cX1_followChain 122 = .ok (.iadd, 1) := by decide +kernel
theorem dX1_followChain_123 : decode cX1_followChain 123 = .ok (.putfield 66, 3) := by decide +kernel
theorem dX1_followChain_126 : decode cX1_followChain 126 = .ok (.return_, 1) := by decide +kernel
theorem dX1_nearestTo_0 : decode cX1_nearestTo 0 = .ok (.iconst (-1), 1) := by decide +kernel
theorem dX1_nearestTo_1 : decode cX1_nearestTo 1 = .ok (.istore_n 3, 1) := by decide +kernel
theorem dX1_nearestTo_2 : decode cX1_nearestTo 2 = .ok (.iconst 0, 1) := by decide +kernel
theorem dX1_nearestTo_3 : decode cX1_nearestTo 3 = .ok (.istore 4, 2) := by decide +kernel
theorem dX1_nearestTo_5 : decode cX1_nearestTo 5 = .ok (.iconst 0, 1) := by decide +kernel
theorem dX1_nearestTo_6 : decode cX1_nearestTo 6 = .ok (.istore 5, 2) := by decide +kernel
theorem dX1_nearestTo_8 : decode cX1_nearestTo 8 = .ok (.iload 5, 2) := by decide +kernel
theorem dX1_nearestTo_10 : decode cX1_nearestTo 10 = .ok (.aload_n 0, 1) := by decide +kernel
theorem dX1_nearestTo_11 : decode cX1_nearestTo 11 = .ok (.getfield 65, 3) := by decide +kernel
theorem dX1_nearestTo_14 : decode cX1_nearestTo 14 = .ok (.if_icmp .ge 88, 3) := by decide +kernel
theorem dX1_nearestTo_17 : decode cX1_nearestTo 17 = .ok (.aload_n 0, 1) := by decide +kernel
theorem dX1_nearestTo_18 : decode cX1_nearestTo 18 = .ok (.getfield 22, 3) := by decide +kernel
theorem dX1_nearestTo_21 : decode cX1_nearestTo 21 = .ok (.iload 5, 2) := by decide +kernel
theorem dX1_nearestTo_23 : decode cX1_nearestTo 23 = .ok (.iaload, 1) := by decide +kernel
theorem dX1_nearestTo_24 : decode cX1_nearestTo 24 = .ok (.istore 6, 2) := by decide +kernel
theorem dX1_nearestTo_26 : decode cX1_nearestTo 26 = .ok (.iload 6, 2) := by decide +kernel
theorem dX1_nearestTo_28 : decode cX1_nearestTo 28 = .ok (.iload_n 1, 1) := by decide +kernel
theorem dX1_nearestTo_29 : decode cX1_nearestTo 29 = .ok (.if_icmp .eq 67, 3) := by decide +kernel
theorem dX1_nearestTo_32 : decode cX1_nearestTo 32 = .ok (.iload_n 3, 1) := by decide +kernel
theorem dX1_nearestTo_33 : decode cX1_nearestTo 33 = .ok (.iconst (-1), 1) := by decide +kernel
theorem dX1_nearestTo_34 : decode cX1_nearestTo 34 = .ok (.if_icmp .ne 7, 3) := by decide +kernel
theorem dX1_nearestTo_37 : decode cX1_nearestTo 37 = .ok (.iconst (-1), 1) := by decide +kernel
theorem dX1_nearestTo_38 : decode cX1_nearestTo 38 = .ok (.goto 12, 3) := by decide +kernel
theorem dX1_nearestTo_41 : decode cX1_nearestTo 41 = .ok (.aload_n 0, 1) := by decide +kernel
theorem dX1_nearestTo_42 : decode cX1_nearestTo 42 = .ok (.iload_n 1, 1) := by decide +kernel
theorem dX1_nearestTo_43 : decode cX1_nearestTo 43 = .ok (.iload 6, 2) := by decide +kernel
theorem dX1_nearestTo_45 : decode cX1_nearestTo 45 = .ok (.iload_n 1, 1) := by decide +kernel
theorem dX1_nearestTo_46 : decode cX1_nearestTo 46 = .ok (.iload_n 3, 1) := by decide +kernel
theorem dX1_nearestTo_47 : decode cX1_nearestTo 47 = .ok (.invokevirtual 106, 3) := by decide +kernel
theorem dX1_nearestTo_50 : decode cX1_nearestTo 50 = .ok (.istore 7, 2) := by decide +kernel
theorem dX1_nearestTo_52 : decode cX1_nearestTo 52 = .ok (.iload 7, 2) := by decide +kernel
theorem dX1_nearestTo_54 : decode cX1_nearestTo 54 = .ok (.ifCond .lt 14, 3) := by decide +kernel
theorem dX1_nearestTo_57 : decode cX1_nearestTo 57 = .ok (.iload 7, 2) := by decide +kernel
theorem dX1_nearestTo_59 : decode cX1_nearestTo 59 = .ok (.ifCond .ne 12, 3) := by decide +kernel
theorem dX1_nearestTo_62 : decode cX1_nearestTo 62 = .ok (.iload 6, 2) := by decide +kernel
theorem dX1_nearestTo_64 : decode cX1_nearestTo 64 = .ok (.iload_n 2, 1) := by decide +kernel
theorem dX1_nearestTo_65 : decode cX1_nearestTo 65 = .ok (.if_icmp .ne 6, 3) := by decide +kernel
theorem dX1_nearestTo_68 : decode cX1_nearestTo 68 = .ok (.iload 6, 2) := by decide +kernel
theorem dX1_nearestTo_70 : decode cX1_nearestTo 70 = .ok (.istore_n 3, 1) := by decide +kernel
theorem dX1_nearestTo_71 : decode cX1_nearestTo 71 = .ok (.iload 7, 2) := by decide +kernel
theorem dX1_nearestTo_73 : decode cX1_nearestTo 73 = .ok (.ifCond .ge 7, 3) := by decide +kernel
theorem dX1_nearestTo_76 : decode cX1_nearestTo 76 = .ok (.iconst 1, 1) := by decide +kernel
theorem dX1_nearestTo_77 : decode cX1_nearestTo 77 = .ok (.goto 17, 3) := by decide +kernel
theorem dX1_nearestTo_80 : decode cX1_nearestTo 80 = .ok (.iload 7, 2) := by decide +kernel
theorem dX1_nearestTo_82 : decode cX1_nearestTo 82 = .ok (.ifCond .ne 10, 3) := by decide +kernel
theorem dX1_nearestTo_85 : decode cX1_nearestTo 85 = .ok (.iload 4, 2) := by decide +kernel
theorem dX1_nearestTo_87 : decode cX1_nearestTo 87 = .ok (.iconst 1, 1) := by decide +kernel
theorem dX1_nearestTo_88 : decode cX1_nearestTo 88 = .ok (.iadd, 1) := by decide +kernel
theorem dX1_nearestTo_89 : decode cX1_nearestTo 89 = .ok (.goto 5, 3) := by decide +kernel
theorem dX1_nearestTo_92 : decode cX1_nearestTo 92 = .ok (.iload 4, 2) := by decide +kernel
theorem dX1_nearestTo_94 : decode cX1_nearestTo 94 = .ok (.istore 4, 2) := by decide +kernel
theorem dX1_nearestTo_96 : decode cX1_nearestTo 96 = .ok (.iinc 5 1, 3) := by decide +kernel
theorem dX1_nearestTo_99 : decode cX1_nearestTo 99 = .ok (.goto (-91), 3) := by decide +kernel
theorem dX1_nearestTo_102 : decode cX1_nearestTo 102 = .ok (.iload 4, 2) := by decide +kernel
theorem dX1_nearestTo_104 : decode cX1_nearestTo 104 = .ok (.iconst 1, 1) := by decide +kernel
theorem dX1_nearestTo_105 : decode cX1_nearestTo 105 = .ok (.if_icmp .le 13, 3) := by decide +kernel
theorem dX1_nearestTo_108 : decode cX1_nearestTo 108 = .ok (.aload_n 0, 1) := by decide +kernel
theorem dX1_nearestTo_109 : decode cX1_nearestTo 109 = .ok (.dup, 1) := by decide +kernel
theorem dX1_nearestTo_110 : decode cX1_nearestTo 110 = .ok (.getfield 61, 3) := by decide +kernel
theorem dX1_nearestTo_113 : decode cX1_nearestTo 113 = .ok (.iconst 1, 1) := by decide +kernel
theorem dX1_nearestTo_114 : decode cX1_nearestTo 114 = .ok (.iadd, 1) := by decide +kernel
theorem dX1_nearestTo_115 : decode cX1_nearestTo 115 = .ok (.putfield 61, 3) := by decide +kernel
theorem dX1_nearestTo_118 : decode cX1_nearestTo 118 = .ok (.iload_n 3, 1) := by decide +kernel
theorem dX1_nearestTo_119 : decode cX1_nearestTo 119 = .ok (.ireturn, 1) := by decide +kernel
theorem dX1_join_0 : decode cX1_join 0 = .ok (.aload_n 0, 1) := by decide +kernel
theorem dX1_join_1 : decode cX1_join 1 = .ok (.getfield 12, 3) := by decide +kernel
theorem dX1_join_4 : decode cX1_join 4 = .ok (.getfield 64, 3) := by decide +kernel
theorem dX1_join_7 : decode cX1_join 7 = .ok (.istore_n 3, 1) := by decide +kernel
theorem dX1_join_8 : decode cX1_join 8 = .ok (.aload_n 0, 1) := by decide +kernel
theorem dX1_join_9 : decode cX1_join 9 = .ok (.getfield 12, 3) := by decide +kernel
theorem dX1_join_12 : decode cX1_join 12 = .ok (.iload_n 3, 1) := by decide +kernel
theorem dX1_join_13 : decode cX1_join 13 = .ok (.aload_n 0, 1) := by decide +kernel
theorem dX1_join_14 : decode cX1_join 14 = .ok (.getfield 25, 3) := by decide +kernel
theorem dX1_join_17 : decode cX1_join 17 = .ok (.iload_n 1, 1) := by decide +kernel
theorem dX1_join_18 : decode cX1_join 18 = .ok (.iaload, 1) := by decide +kernel
theorem dX1_join_19 : decode cX1_join 19 = .ok (.aload_n 0, 1) := by decide +kernel
theorem dX1_join_20 : decode cX1_join 20 = .ok (.getfield 25, 3) := by decide +kernel
theorem dX1_join_23 : decode cX1_join 23 = .ok (.iload_n 2, 1) := by decide +kernel
theorem dX1_join_24 : decode cX1_join 24 = .ok (.iaload, 1) := by decide +kernel
theorem dX1_join_25 : decode cX1_join 25 = .ok (.aload_n 0, 1) := by decide +kernel
theorem dX1_join_26 : decode cX1_join 26 = .ok (.getfield 28, 3) := by decide +kernel
theorem dX1_join_29 : decode cX1_join 29 = .ok (.iload_n 1, 1) := by decide +kernel
theorem dX1_join_30 : decode cX1_join 30 = .ok (.iaload, 1) := by decide +kernel
theorem dX1_join_31 : decode cX1_join 31 = .ok (.aload_n 0, 1) := by decide +kernel
theorem dX1_join_32 : decode cX1_join 32 = .ok (.getfield 28, 3) := by decide +kernel
theorem dX1_join_35 : decode cX1_join 35 = .ok (.iload_n 2, 1) := by decide +kernel
theorem dX1_join_36 : decode cX1_join 36 = .ok (.iaload, 1) := by decide +kernel
theorem dX1_join_37 : decode cX1_join 37 = .ok (.ior, 1) := by decide +kernel
theorem dX1_join_38 : decode cX1_join 38 = .ok (.invokevirtual 121, 3) := by decide +kernel
theorem dX1_join_41 : decode cX1_join 41 = .ok (.aload_n 0, 1) := by decide +kernel
theorem dX1_join_42 : decode cX1_join 42 = .ok (.getfield 12, 3) := by decide +kernel
theorem dX1_join_45 : decode cX1_join 45 = .ok (.iload_n 3, 1) := by decide +kernel
theorem dX1_join_46 : decode cX1_join 46 = .ok (.aload_n 0, 1) := by decide +kernel
theorem dX1_join_47 : decode cX1_join 47 = .ok (.getfield 40, 3) := by decide +kernel
theorem dX1_join_50 : decode cX1_join 50 = .ok (.iload_n 1, 1) := by decide +kernel
theorem dX1_join_51 : decode cX1_join 51 = .ok (.aaload, 1) := by decide +kernel
theorem dX1_join_52 : decode cX1_join 52 = .ok (.iload_n 2, 1) := by decide +kernel
theorem dX1_join_53 : decode cX1_join 53 = .ok (.laload, 1) := by decide +kernel
theorem dX1_join_54 : decode cX1_join 54 = .ok (.aload_n 0, 1) := by decide +kernel
theorem dX1_join_55 : decode cX1_join 55 = .ok (.getfield 43, 3) := by decide +kernel
theorem dX1_join_58 : decode cX1_join 58 = .ok (.iload_n 1, 1) := by decide +kernel
theorem dX1_join_59 : decode cX1_join 59 = .ok (.aaload, 1) := by decide +kernel
theorem dX1_join_60 : decode cX1_join 60 = .ok (.iload_n 2, 1) := by decide +kernel
theorem dX1_join_61 : decode cX1_join 61 = .ok (.laload, 1) := by decide +kernel
theorem dX1_join_62 : decode cX1_join 62 = .ok (.invokevirtual 125, 3) := by decide +kernel
theorem dX1_join_65 : decode cX1_join 65 = .ok (.aload_n 0, 1) := by decide +kernel
theorem dX1_join_66 : decode cX1_join 66 = .ok (.getfield 12, 3) := by decide +kernel
theorem dX1_join_69 : decode cX1_join 69 = .ok (.iload_n 3, 1) := by decide +kernel
theorem dX1_join_70 : decode cX1_join 70 = .ok (.iconst 1, 1) := by decide +kernel
theorem dX1_join_71 : decode cX1_join 71 = .ok (.iadd, 1) := by decide +kernel
theorem dX1_join_72 : decode cX1_join 72 = .ok (.putfield 64, 3) := by decide +kernel
theorem dX1_join_75 : decode cX1_join 75 = .ok (.aload_n 0, 1) := by decide +kernel
theorem dX1_join_76 : decode cX1_join 76 = .ok (.getfield 31, 3) := by decide +kernel
theorem dX1_join_79 : decode cX1_join 79 = .ok (.iload_n 1, 1) := by decide +kernel
theorem dX1_join_80 : decode cX1_join 80 = .ok (.dup2, 1) := by decide +kernel
theorem dX1_join_81 : decode cX1_join 81 = .ok (.laload, 1) := by decide +kernel
theorem dX1_join_82 : decode cX1_join 82 = .ok (.aload_n 0, 1) := by decide +kernel
theorem dX1_join_83 : decode cX1_join 83 = .ok (.getfield 31, 3) := by decide +kernel
theorem dX1_join_86 : decode cX1_join 86 = .ok (.iload_n 2, 1) := by decide +kernel
theorem dX1_join_87 : decode cX1_join 87 = .ok (.laload, 1) := by decide +kernel
theorem dX1_join_88 : decode cX1_join 88 = .ok (.aload_n 0, 1) := by decide +kernel
theorem dX1_join_89 : decode cX1_join 89 = .ok (.getfield 37, 3) := by decide +kernel
theorem dX1_join_92 : decode cX1_join 92 = .ok (.iload_n 1, 1) := by decide +kernel
theorem dX1_join_93 : decode cX1_join 93 = .ok (.aaload, 1) := by decide +kernel
theorem dX1_join_94 : decode cX1_join 94 = .ok (.iload_n 2, 1) := by decide +kernel
theorem dX1_join_95 : decode cX1_join 95 = .ok (.laload, 1) := by decide +kernel
theorem dX1_join_96 : decode cX1_join 96 = .ok (.ladd, 1) := by decide +kernel
theorem dX1_join_97 : decode cX1_join 97 = .ok (.ladd, 1) := by decide +kernel
theorem dX1_join_98 : decode cX1_join 98 = .ok (.lastore, 1) := by decide +kernel
theorem dX1_join_99 : decode cX1_join 99 = .ok (.aload_n 0, 1) := by decide +kernel
theorem dX1_join_100 : decode cX1_join 100 = .ok (.getfield 28, 3) := by decide +kernel
theorem dX1_join_103 : decode cX1_join 103 = .ok (.iload_n 1, 1) := by decide +kernel
theorem dX1_join_104 : decode cX1_join 104 = .ok (.dup2, 1) := by decide +kernel
theorem dX1_join_105 : decode cX1_join 105 = .ok (.iaload, 1) := by decide +kernel
theorem dX1_join_106 : decode cX1_join 106 = .ok (.aload_n 0, 1) := by decide +kernel
theorem dX1_join_107 : decode cX1_join 107 = .ok (.getfield 28, 3) := by decide +kernel
theorem dX1_join_110 : decode cX1_join 110 = .ok (.iload_n 2, 1) := by decide +kernel
theorem dX1_join_111 : decode cX1_join 111 = .ok (.iaload, 1) := by decide +kernel
theorem dX1_join_112 : decode cX1_join 112 = .ok (.ior, 1) := by decide +kernel
theorem dX1_join_113 : decode cX1_join 113 = .ok (.iastore, 1) := by decide +kernel
theorem dX1_join_114 : decode cX1_join 114 = .ok (.aload_n 0, 1) := by decide +kernel
theorem dX1_join_115 : decode cX1_join 115 = .ok (.getfield 25, 3) := by decide +kernel
theorem dX1_join_118 : decode cX1_join 118 = .ok (.iload_n 1, 1) := by decide +kernel
theorem dX1_join_119 : decode cX1_join 119 = .ok (.aload_n 0, 1) := by decide +kernel
theorem dX1_join_120 : decode cX1_join 120 = .ok (.getfield 55, 3) := by decide +kernel
theorem dX1_join_123 : decode cX1_join 123 = .ok (.iload_n 3, 1) := by decide +kernel
theorem dX1_join_124 : decode cX1_join 124 = .ok (.iadd, 1) := by decide +kernel
theorem dX1_join_125 : decode cX1_join 125 = .ok (.iastore, 1) := by decide +kernel
theorem dX1_join_126 : decode cX1_join 126 = .ok (.aload_n 0, 1) := by decide +kernel
theorem dX1_join_127 : decode cX1_join 127 = .ok (.iload_n 1, 1) := by decide +kernel
theorem dX1_join_128 : decode cX1_join 128 = .ok (.invokevirtual 129, 3) := by decide +kernel
theorem dX1_join_131 : decode cX1_join 131 = .ok (.aload_n 0, 1) := by decide +kernel
theorem dX1_join_132 : decode cX1_join 132 = .ok (.iload_n 2, 1) := by decide +kernel
theorem dX1_join_133 : decode cX1_join 133 = .ok (.invokevirtual 129, 3) := by decide +kernel
theorem dX1_join_136 : decode cX1_join 136 = .ok (.iconst 0, 1) := by decide +kernel
theorem dX1_join_137 : decode cX1_join 137 = .ok (.istore 4, 2) := by decide +kernel
theorem dX1_join_139 : decode cX1_join 139 = .ok (.iload 4, 2) := by decide +kernel
theorem dX1_join_141 : decode cX1_join 141 = .ok (.aload_n 0, 1) := by decide +kernel
theorem dX1_join_142 : decode cX1_join 142 = .ok (.getfield 65, 3) := by decide +kernel
theorem dX1_join_145 : decode cX1_join 145 = .ok (.if_icmp .ge 50, 3) := by decide +kernel
theorem dX1_join_148 : decode cX1_join 148 = .ok (.aload_n 0, 1) := by decide +kernel
theorem dX1_join_149 : decode cX1_join 149 = .ok (.getfield 22, 3) := by decide +kernel
theorem dX1_join_152 : decode cX1_join 152 = .ok (.iload 4, 2) := by decide +kernel
theorem dX1_join_154 : decode cX1_join 154 = .ok (.iaload, 1) := by decide +kernel
theorem dX1_join_155 : decode cX1_join 155 = .ok (.istore 5, 2) := by decide +kernel
theorem dX1_join_157 : decode cX1_join 157 = .ok (.aload_n 0, 1) := by decide +kernel
theorem dX1_join_158 : decode cX1_join 158 = .ok (.iload_n 1, 1) := by decide +kernel
theorem dX1_join_159 : decode cX1_join 159 = .ok (.iload 5, 2) := by decide +kernel
theorem dX1_join_161 : decode cX1_join 161 = .ok (.aload_n 0, 1) := by decide +kernel
theorem dX1_join_162 : decode cX1_join 162 = .ok (.getfield 58, 3) := by decide +kernel
theorem dX1_join_165 : decode cX1_join 165 = .ok (.aload_n 0, 1) := by decide +kernel
theorem dX1_join_166 : decode cX1_join 166 = .ok (.getfield 37, 3) := by decide +kernel
theorem dX1_join_169 : decode cX1_join 169 = .ok (.iload_n 1, 1) := by decide +kernel
theorem dX1_join_170 : decode cX1_join 170 = .ok (.aaload, 1) := by decide +kernel
theorem dX1_join_171 : decode cX1_join 171 = .ok (.iload 5, 2) := by decide +kernel
theorem dX1_join_173 : decode cX1_join 173 = .ok (.laload, 1) := by decide +kernel
theorem dX1_join_174 : decode cX1_join 174 = .ok (.aload_n 0, 1) := by decide +kernel
theorem dX1_join_175 : decode cX1_join 175 = .ok (.getfield 37, 3) := by decide +kernel
theorem dX1_join_178 : decode cX1_join 178 = .ok (.iload_n 2, 1) := by decide +kernel
theorem dX1_join_179 : decode cX1_join 179 = .ok (.aaload, 1) := by decide +kernel
theorem dX1_join_180 : decode cX1_join 180 = .ok (.iload 5, 2) := by decide +kernel
theorem dX1_join_182 : decode cX1_join 182 = .ok (.laload, 1) := by decide +kernel
theorem dX1_join_183 : decode cX1_join 183 = .ok (.invokestatic 133, 3) := by decide +kernel
theorem dX1_join_186 : decode cX1_join 186 = .ok (.invokevirtual 79, 3) := by decide +kernel
theorem dX1_join_189 : decode cX1_join 189 = .ok (.iinc 4 1, 3) := by decide +kernel
theorem dX1_join_192 : decode cX1_join 192 = .ok (.goto (-53), 3) := by decide +kernel
theorem dX1_join_195 : decode cX1_join 195 = .ok (.aload_n 0, 1) := by decide +kernel
theorem dX1_join_196 : decode cX1_join 196 = .ok (.getfield 22, 3) := by decide +kernel
theorem dX1_join_199 : decode cX1_join 199 = .ok (.aload_n 0, 1) := by decide +kernel
theorem dX1_join_200 : decode cX1_join 200 = .ok (.getfield 65, 3) := by decide +kernel
theorem dX1_join_203 : decode cX1_join 203 = .ok (.iload_n 1, 1) := by decide +kernel
theorem dX1_join_204 : decode cX1_join 204 = .ok (.iastore, 1) := by decide +kernel
theorem dX1_join_205 : decode cX1_join 205 = .ok (.aload_n 0, 1) := by decide +kernel
theorem dX1_join_206 : decode cX1_join 206 = .ok (.dup, 1) := by decide +kernel
theorem dX1_join_207 : decode cX1_join 207 = .ok (.getfield 65, 3) := by decide +kernel
theorem dX1_join_210 : decode cX1_join 210 = .ok (.iconst 1, 1) := by decide +kernel
theorem dX1_join_211 : decode cX1_join 211 = .ok (.iadd, 1) := by decide +kernel
theorem dX1_join_212 : decode cX1_join 212 = .ok (.putfield 65, 3) := by decide +kernel
theorem dX1_join_215 : decode cX1_join 215 = .ok (.return_, 1) := by decide +kernel
theorem dX1_leave_0 : decode cX1_leave 0 = .ok (.iconst 0, 1) := by decide +kernel
theorem dX1_leave_1 : decode cX1_leave 1 = .ok (.istore_n 2, 1) := by decide +kernel
theorem dX1_leave_2 : decode cX1_leave 2 = .ok (.iconst 0, 1) := by decide +kernel
theorem dX1_leave_3 : decode cX1_leave 3 = .ok (.istore_n 3, 1) := by decide +kernel
theorem dX1_leave_4 : decode cX1_leave 4 = .ok (.iload_n 3, 1) := by decide +kernel
theorem dX1_leave_5 : decode cX1_leave 5 = .ok (.aload_n 0, 1) := by decide +kernel
theorem dX1_leave_6 : decode cX1_leave 6 = .ok (.getfield 65, 3) := by decide +kernel
theorem dX1_leave_9 : decode cX1_leave 9 = .ok (.if_icmp .ge 34, 3) := by decide +kernel
theorem dX1_leave_12 : decode cX1_leave 12 = .ok (.aload_n 0, 1) := by decide +kernel
theorem dX1_leave_13 : decode cX1_leave 13 = .ok (.getfield 22, 3) := by decide +kernel
theorem dX1_leave_16 : decode cX1_leave 16 = .ok (.iload_n 3, 1) := by decide +kernel
theorem dX1_leave_17 : decode cX1_leave 17 = .ok (.iaload, 1) := by decide +kernel
theorem dX1_leave_18 : decode cX1_leave 18 = .ok (.iload_n 1, 1) := by decide +kernel
theorem dX1_leave_19 : decode cX1_leave 19 = .ok (.if_icmp .eq 18, 3) := by decide +kernel
theorem dX1_leave_22 : decode cX1_leave 22 = .ok (.aload_n 0, 1) := by decide +kernel
theorem dX1_leave_23 : decode cX1_leave 23 = .ok (.getfield 22, 3) := by decide +kernel
theorem dX1_leave_26 : decode cX1_leave 26 = .ok (.iload_n 2, 1) := by decide +kernel
theorem dX1_leave_27 : decode cX1_leave 27 = .ok (.aload_n 0, 1) := by decide +kernel
theorem dX1_leave_28 : decode cX1_leave 28 = .ok (.getfield 22, 3) := by decide +kernel
theorem dX1_leave_31 : decode cX1_leave 31 = .ok (.iload_n 3, 1) := by decide +kernel
theorem dX1_leave_32 : decode cX1_leave 32 = .ok (.iaload, 1) := by decide +kernel
theorem dX1_leave_33 : decode cX1_leave 33 = .ok (.iastore, 1) := by decide +kernel
theorem dX1_leave_34 : decode cX1_leave 34 = .ok (.iinc 2 1, 3) := by decide +kernel
theorem dX1_leave_37 : decode cX1_leave 37 = .ok (.iinc 3 1, 3) := by decide +kernel
theorem dX1_leave_40 : decode cX1_leave 40 = .ok (.goto (-36), 3) := by decide +kernel
theorem dX1_leave_43 : decode cX1_leave 43 = .ok (.aload_n 0, 1) := by decide +kernel
theorem dX1_leave_44 : decode cX1_leave 44 = .ok (.iload_n 2, 1) := by decide +kernel
theorem dX1_leave_45 : decode cX1_leave 45 = .ok (.putfield 65, 3) := by decide +kernel
theorem dX1_leave_48 : decode cX1_leave 48 = .ok (.return_, 1) := by decide +kernel
theorem dX1_deliver_0 : decode cX1_deliver 0 = .ok (.aload_n 1, 1) := by decide +kernel
theorem dX1_deliver_1 : decode cX1_deliver 1 = .ok (.iconst 1, 1) := by decide +kernel
theorem dX1_deliver_2 : decode cX1_deliver 2 = .ok (.putfield 137, 3) := by decide +kernel
theorem dX1_deliver_5 : decode cX1_deliver 5 = .ok (.aload_n 1, 1) := by decide +kernel
theorem dX1_deliver_6 : decode cX1_deliver 6 = .ok (.iload_n 2, 1) := by decide +kernel
theorem dX1_deliver_7 : decode cX1_deliver 7 = .ok (.putfield 142, 3) := by decide +kernel
theorem dX1_deliver_10 : decode cX1_deliver 10 = .ok (.aload_n 1, 1) := by decide +kernel
theorem dX1_deliver_11 : decode cX1_deliver 11 = .ok (.aload_n 0, 1) := by decide +kernel
theorem dX1_deliver_12 : decode cX1_deliver 12 = .ok (.getfield 55, 3) := by decide +kernel
theorem dX1_deliver_15 : decode cX1_deliver 15 = .ok (.putfield 145, 3) := by decide +kernel
theorem dX1_deliver_18 : decode cX1_deliver 18 = .ok (.aload_n 1, 1) := by decide +kernel
theorem dX1_deliver_19 : decode cX1_deliver 19 = .ok (.aload_n 0, 1) := by decide +kernel
theorem dX1_deliver_20 : decode cX1_deliver 20 = .ok (.getfield 58, 3) := by decide +kernel
theorem dX1_deliver_23 : decode cX1_deliver 23 = .ok (.putfield 146, 3) := by decide +kernel
theorem dX1_deliver_26 : decode cX1_deliver 26 = .ok (.aload_n 1, 1) := by decide +kernel
theorem dX1_deliver_27 : decode cX1_deliver 27 = .ok (.aload_n 0, 1) := by decide +kernel
theorem dX1_deliver_28 : decode cX1_deliver 28 = .ok (.getfield 61, 3) := by decide +kernel
theorem dX1_deliver_31 : decode cX1_deliver 31 = .ok (.putfield 147, 3) := by decide +kernel
theorem dX1_deliver_34 : decode cX1_deliver 34 = .ok (.aload_n 1, 1) := by decide +kernel
theorem dX1_deliver_35 : decode cX1_deliver 35 = .ok (.getfield 148, 3) := by decide +kernel
theorem dX1_deliver_38 : decode cX1_deliver 38 = .ok (.aload_n 0, 1) := by decide +kernel
theorem dX1_deliver_39 : decode cX1_deliver 39 = .ok (.getfield 12, 3) := by decide +kernel
theorem dX1_deliver_42 : decode cX1_deliver 42 = .ok (.getfield 64, 3) := by decide +kernel
theorem dX1_deliver_45 : decode cX1_deliver 45 = .ok (.putfield 64, 3) := by decide +kernel
theorem dX1_deliver_48 : decode cX1_deliver 48 = .ok (.iconst 0, 1) := by decide +kernel
theorem dX1_deliver_49 : decode cX1_deliver 49 = .ok (.istore_n 3, 1) := by decide +kernel
theorem dX1_deliver_50 : decode cX1_deliver 50 = .ok (.iload_n 3, 1) := by decide +kernel
theorem dX1_deliver_51 : decode cX1_deliver 51 = .ok (.aload_n 0, 1) := by decide +kernel
theorem dX1_deliver_52 : decode cX1_deliver 52 = .ok (.getfield 12, 3) := by decide +kernel
theorem dX1_deliver_55 : decode cX1_deliver 55 = .ok (.getfield 64, 3) := by decide +kernel
theorem dX1_deliver_58 : decode cX1_deliver 58 = .ok (.if_icmp .ge 31, 3) := by decide +kernel
theorem dX1_deliver_61 : decode cX1_deliver 61 = .ok (.aload_n 0, 1) := by decide +kernel
theorem dX1_deliver_62 : decode cX1_deliver 62 = .ok (.getfield 18, 3) := by decide +kernel
theorem dX1_deliver_65 : decode cX1_deliver 65 = .ok (.iload_n 3, 1) := by decide +kernel
theorem dX1_deliver_66 : decode cX1_deliver 66 = .ok (.iload_n 2, 1) := by decide +kernel
theorem dX1_deliver_67 : decode cX1_deliver 67 = .ok (.ifCond .eq 14, 3) := by decide +kernel
theorem dX1_deliver_70 : decode cX1_deliver 70 = .ok (.aload_n 0, 1) := by decide +kernel
theorem dX1_deliver_71 : decode cX1_deliver 71 = .ok (.getfield 12, 3) := by decide +kernel
theorem dX1_deliver_74 : decode cX1_deliver 74 = .ok (.iload_n 3, 1) := by decide +kernel
theorem dX1_deliver_75 : decode cX1_deliver 75 = .ok (.invokevirtual 151, 3) := by decide +kernel
theorem dX1_deliver_78 : decode cX1_deliver 78 = .ok (.goto 4, 3) := by decide +kernel
theorem dX1_deliver_81 : decode cX1_deliver 81 = .ok (.iload_n 3, 1) := by decide +kernel
theorem dX1_deliver_82 : decode cX1_deliver 82 = .ok (.iastore, 1) := by decide +kernel
theorem dX1_deliver_83 : decode cX1_deliver 83 = .ok (.iinc 3 1, 3) := by decide +kernel
theorem dX1_deliver_86 : decode cX1_deliver 86 = .ok (.goto (-36), 3) := by decide +kernel
theorem dX1_deliver_89 : decode cX1_deliver 89 = .ok (.iconst 0, 1) := by decide +kernel
theorem dX1_deliver_90 : decode cX1_deliver 90 = .ok (.istore_n 3, 1) := by decide +kernel
theorem dX1_deliver_91 : decode cX1_deliver 91 = .ok (.iload_n 3, 1) := by decide +kernel
theorem dX1_deliver_92 : decode cX1_deliver 92 = .ok (.aload_n 0, 1) := by decide +kernel
theorem dX1_deliver_93 : decode cX1_deliver 93 = .ok (.getfield 12, 3) := by decide +kernel
theorem dX1_deliver_96 : decode cX1_deliver 96 = .ok (.getfield 64, 3) := by decide +kernel
theorem dX1_deliver_99 : decode cX1_deliver 99 = .ok (.if_icmp .ge 88, 3) := by decide +kernel
theorem dX1_deliver_102 : decode cX1_deliver 102 = .ok (.aload_n 1, 1) := by decide +kernel
theorem dX1_deliver_103 : decode cX1_deliver 103 = .ok (.getfield 148, 3) := by decide +kernel
theorem dX1_deliver_106 : decode cX1_deliver 106 = .ok (.aload_n 0, 1) := by decide +kernel
theorem dX1_deliver_107 : decode cX1_deliver 107 = .ok (.getfield 18, 3) := by decide +kernel
theorem dX1_deliver_110 : decode cX1_deliver 110 = .ok (.iload_n 3, 1) := by decide +kernel
theorem dX1_deliver_111 : decode cX1_deliver 111 = .ok (.iaload, 1) := by decide +kernel
theorem dX1_deliver_112 : decode cX1_deliver 112 = .ok (.aload_n 0, 1) := by decide +kernel
theorem dX1_deliver_113 : decode cX1_deliver 113 = .ok (.aload_n 0, 1) := by decide +kernel
theorem dX1_deliver_114 : decode cX1_deliver 114 = .ok (.getfield 12, 3) := by decide +kernel
theorem dX1_deliver_117 : decode cX1_deliver 117 = .ok (.getfield 154, 3) := by decide +kernel
theorem dX1_deliver_120 : decode cX1_deliver 120 = .ok (.iload_n 3, 1) := by decide +kernel
theorem dX1_deliver_121 : decode cX1_deliver 121 = .ok (.iaload, 1) := by decide +kernel
theorem dX1_deliver_122 : decode cX1_deliver 122 = .ok (.invokevirtual 157, 3) := by decide +kernel
theorem dX1_deliver_125 : decode cX1_deliver 125 = .ok (.aload_n 0, 1) := by decide +kernel
theorem dX1_deliver_126 : decode cX1_deliver 126 = .ok (.aload_n 0, 1) := by decide +kernel
theorem dX1_deliver_127 : decode cX1_deliver 127 = .ok (.getfield 12, 3) := by decide +kernel
theorem dX1_deliver_130 : decode cX1_deliver 130 = .ok (.getfield 160, 3) := by decide +kernel
theorem dX1_deliver_133 : decode cX1_deliver 133 = .ok (.iload_n 3, 1) := by decide +kernel
theorem dX1_deliver_134 : decode cX1_deliver 134 = .ok (.iaload, 1) := by decide +kernel
theorem dX1_deliver_135 : decode cX1_deliver 135 = .ok (.invokevirtual 157, 3) := by decide +kernel
theorem dX1_deliver_138 : decode cX1_deliver 138 = .ok (.aload_n 0, 1) := by decide +kernel
theorem dX1_deliver_139 : decode cX1_deliver 139 = .ok (.getfield 12, 3) := by decide +kernel
theorem dX1_deliver_142 : decode cX1_deliver 142 = .ok (.getfield 163, 3) := by decide +kernel
theorem dX1_deliver_145 : decode cX1_deliver 145 = .ok (.iload_n 3, 1) := by decide +kernel
theorem dX1_deliver_146 : decode cX1_deliver 146 = .ok (.iaload, 1) := by decide +kernel
theorem dX1_deliver_147 : decode cX1_deliver 147 = .ok (.invokevirtual 121, 3) := by decide +kernel
theorem dX1_deliver_150 : decode cX1_deliver 150 = .ok (.aload_n 1, 1) := by decide +kernel
theorem dX1_deliver_151 : decode cX1_deliver 151 = .ok (.getfield 148, 3) := by decide +kernel
theorem dX1_deliver_154 : decode cX1_deliver 154 = .ok (.aload_n 0, 1) := by decide +kernel
theorem dX1_deliver_155 : decode cX1_deliver 155 = .ok (.getfield 18, 3) := by decide +kernel
theorem dX1_deliver_158 : decode cX1_deliver 158 = .ok (.iload_n 3, 1) := by decide +kernel
theorem dX1_deliver_159 : decode cX1_deliver 159 = .ok (.iaload, 1) := by decide +kernel
theorem dX1_deliver_160 : decode cX1_deliver 160 = .ok (.aload_n 0, 1) := by decide +kernel
theorem dX1_deliver_161 : decode cX1_deliver 161 = .ok (.getfield 12, 3) := by decide +kernel
theorem dX1_deliver_164 : decode cX1_deliver 164 = .ok (.getfield 164, 3) := by decide +kernel
theorem dX1_deliver_167 : decode cX1_deliver 167 = .ok (.iload_n 3, 1) := by decide +kernel
theorem dX1_deliver_168 : decode cX1_deliver 168 = .ok (.laload, 1) := by decide +kernel
theorem dX1_deliver_169 : decode cX1_deliver 169 = .ok (.aload_n 0, 1) := by decide +kernel
theorem dX1_deliver_170 : decode cX1_deliver 170 = .ok (.getfield 12, 3) := by decide +kernel
theorem dX1_deliver_173 : decode cX1_deliver 173 = .ok (.getfield 166, 3) := by decide +kernel
theorem dX1_deliver_176 : decode cX1_deliver 176 = .ok (.iload_n 3, 1) := by decide +kernel
theorem dX1_deliver_177 : decode cX1_deliver 177 = .ok (.laload, 1) := by decide +kernel
theorem dX1_deliver_178 : decode cX1_deliver 178 = .ok (.invokevirtual 125, 3) := by decide +kernel
theorem dX1_deliver_181 : decode cX1_deliver 181 = .ok (.iinc 3 1, 3) := by decide +kernel
theorem dX1_deliver_184 : decode cX1_deliver 184 = .ok (.goto (-93), 3) := by decide +kernel
theorem dX1_deliver_187 : decode cX1_deliver 187 = .ok (.iconst 0, 1) := by decide +kernel
theorem dX1_deliver_188 : decode cX1_deliver 188 = .ok (.istore_n 3, 1) := by decide +kernel
theorem dX1_deliver_189 : decode cX1_deliver 189 = .ok (.iload_n 3, 1) := by decide +kernel
theorem dX1_deliver_190 : decode cX1_deliver 190 = .ok (.bipush 20, 2) := by decide +kernel
theorem dX1_deliver_192 : decode cX1_deliver 192 = .ok (.if_icmp .ge 16, 3) := by decide +kernel
theorem dX1_deliver_195 : decode cX1_deliver 195 = .ok (.aload_n 1, 1) := by decide +kernel
theorem dX1_deliver_196 : decode cX1_deliver 196 = .ok (.getfield 168, 3) := by decide +kernel
theorem dX1_deliver_199 : decode cX1_deliver 199 = .ok (.iload_n 3, 1) := by decide +kernel
theorem dX1_deliver_200 : decode cX1_deliver 200 = .ok (.iconst 0, 1) := by decide +kernel
theorem dX1_deliver_201 : decode cX1_deliver 201 = .ok (.iastore, 1) := by decide +kernel
theorem dX1_deliver_202 : decode cX1_deliver 202 = .ok (.iinc 3 1, 3) := by decide +kernel
theorem dX1_deliver_205 : decode cX1_deliver 205 = .ok (.goto (-16), 3) := by decide +kernel
theorem dX1_deliver_208 : decode cX1_deliver 208 = .ok (.return_, 1) := by decide +kernel
theorem dX1_renumbered_0 : decode cX1_renumbered 0 = .ok (.aload_n 0, 1) := by decide +kernel
theorem dX1_renumbered_1 : decode cX1_renumbered 1 = .ok (.getfield 12, 3) := by decide +kernel
theorem dX1_renumbered_4 : decode cX1_renumbered 4 = .ok (.iload_n 1, 1) := by decide +kernel
theorem dX1_renumbered_5 : decode cX1_renumbered 5 = .ok (.aload_n 0, 1) := by decide +kernel
theorem dX1_renumbered_6 : decode cX1_renumbered 6 = .ok (.getfield 55, 3) := by decide +kernel
theorem dX1_renumbered_9 : decode cX1_renumbered 9 = .ok (.isub, 1) := by decide +kernel
theorem dX1_renumbered_10 : decode cX1_renumbered 10 = .ok (.invokevirtual 171, 3) := by decide +kernel
theorem dX1_renumbered_13 : decode cX1_renumbered 13 = .ok (.ifCond .eq 22, 3) := by decide +kernel
theorem dX1_renumbered_16 : decode cX1_renumbered 16 = .ok (.aload_n 0, 1) := by decide +kernel
theorem dX1_renumbered_17 : decode cX1_renumbered 17 = .ok (.getfield 55, 3) := by decide +kernel
theorem dX1_renumbered_20 : decode cX1_renumbered 20 = .ok (.aload_n 0, 1) := by decide +kernel
theorem dX1_renumbered_21 : decode cX1_renumbered 21 = .ok (.getfield 18, 3) := by decide +kernel
theorem dX1_renumbered_24 : decode cX1_renumbered 24 = .ok (.iload_n 1, 1) := by decide +kernel
theorem dX1_renumbered_25 : decode cX1_renumbered 25 = .ok (.aload_n 0, 1) := by decide +kernel
theorem dX1_renumbered_26 : decode cX1_renumbered 26 = .ok (.getfield 55, 3) := by decide +kernel
theorem dX1_renumbered_29 : decode cX1_renumbered 29 = .ok (.isub, 1) := by decide +kernel
theorem dX1_renumbered_30 : decode cX1_renumbered 30 = .ok (.iaload, 1) := by decide +kernel
theorem dX1_renumbered_31 : decode cX1_renumbered 31 = .ok (.iadd, 1) := by decide +kernel
theorem dX1_renumbered_32 : decode cX1_renumbered 32 = .ok (.goto 4, 3) := by decide +kernel
theorem dX1_renumbered_35 : decode cX1_renumbered 35 = .ok (.iload_n 1, 1) := by decide +kernel
theorem dX1_renumbered_36 : decode cX1_renumbered 36 = .ok (.ireturn, 1) := by decide +kernel
