theorem dX2_coreOfPoints_0 : decode cX2_coreOfPoints 0 = .ok (.iload_n 0, 1) := by decide +kernel
theorem dX2_coreOfPoints_1 : decode cX2_coreOfPoints 1 = .ok (.iconst 4, 1) := by decide +kernel
theorem dX2_coreOfPoints_2 : decode cX2_coreOfPoints 2 = .ok (.if_icmp .ne 12, 3) := by decide +kernel
theorem dX2_coreOfPoints_5 : decode cX2_coreOfPoints 5 = .ok (.iload_n 1, 1) := by decide +kernel
theorem dX2_coreOfPoints_6 : decode cX2_coreOfPoints 6 = .ok (.i2l, 1) := by decide +kernel
theorem dX2_coreOfPoints_7 : decode cX2_coreOfPoints 7 = .ok (.ldc2_w 9, 3) := by decide +kernel
theorem dX2_coreOfPoints_10 : decode cX2_coreOfPoints 10 = .ok (.lmul, 1) := by decide +kernel
theorem dX2_coreOfPoints_11 : decode cX2_coreOfPoints 11 = .ok (.goto 5, 3) := by decide +kernel
theorem dX2_coreOfPoints_14 : decode cX2_coreOfPoints 14 = .ok (.iload_n 1, 1) := by decide +kernel
theorem dX2_coreOfPoints_15 : decode cX2_coreOfPoints 15 = .ok (.i2l, 1) := by decide +kernel
theorem dX2_coreOfPoints_16 : decode cX2_coreOfPoints 16 = .ok (.lreturn, 1) := by decide +kernel
theorem dX2_carriedOn_0 : decode cX2_carriedOn 0 = .ok (.iload_n 0, 1) := by decide +kernel
theorem dX2_carriedOn_1 : decode cX2_carriedOn 1 = .ok (.tableswitch 55 0 4 #[35, 41, 55, 55, 47], 35) := by decide +kernel
theorem dX2_carriedOn_36 : decode cX2_carriedOn 36 = .ok (.lload_n 1, 1) := by decide +kernel
theorem dX2_carriedOn_37 : decode cX2_carriedOn 37 = .ok (.lload_n 3, 1) := by decide +kernel
theorem dX2_carriedOn_38 : decode cX2_carriedOn 38 = .ok (.invokestatic 11, 3) := by decide +kernel
theorem dX2_carriedOn_41 : decode cX2_carriedOn 41 = .ok (.lreturn, 1) := by decide +kernel
theorem dX2_carriedOn_42 : decode cX2_carriedOn 42 = .ok (.lload_n 1, 1) := by decide +kernel
theorem dX2_carriedOn_43 : decode cX2_carriedOn 43 = .ok (.lload_n 3, 1) := by decide +kernel
theorem dX2_carriedOn_44 : decode cX2_carriedOn 44 = .ok (.invokestatic 17, 3) := by decide +kernel
theorem dX2_carriedOn_47 : decode cX2_carriedOn 47 = .ok (.lreturn, 1) := by decide +kernel
theorem dX2_carriedOn_48 : decode cX2_carriedOn 48 = .ok (.lload_n 1, 1) := by decide +kernel
theorem dX2_carriedOn_49 : decode cX2_carriedOn 49 = .ok (.lload_n 3, 1) := by decide +kernel
theorem dX2_carriedOn_50 : decode cX2_carriedOn 50 = .ok (.ladd, 1) := by decide +kernel
theorem dX2_carriedOn_51 : decode cX2_carriedOn 51 = .ok (.ldc2_w 20, 3) := by decide +kernel
theorem dX2_carriedOn_54 : decode cX2_carriedOn 54 = .ok (.ldiv, 1) := by decide +kernel
theorem dX2_carriedOn_55 : decode cX2_carriedOn 55 = .ok (.lreturn, 1) := by decide +kernel
theorem dX2_carriedOn_56 : decode cX2_carriedOn 56 = .ok (.lload_n 1, 1) := by decide +kernel
theorem dX2_carriedOn_57 : decode cX2_carriedOn 57 = .ok (.lload_n 3, 1) := by decide +kernel
theorem dX2_carriedOn_58 : decode cX2_carriedOn 58 = .ok (.ladd, 1) := by decide +kernel
theorem dX2_carriedOn_59 : decode cX2_carriedOn 59 = .ok (.lreturn, 1) := by decide +kernel
theorem dX2_wardTop_0 : decode cX2_wardTop 0 = .ok (.ldc2_w 20, 3) := by decide +kernel
theorem dX2_wardTop_3 : decode cX2_wardTop 3 = .ok (.iload_n 2, 1) := by decide +kernel
theorem dX2_wardTop_4 : decode cX2_wardTop 4 = .ok (.iload_n 3, 1) := by decide +kernel
theorem dX2_wardTop_5 : decode cX2_wardTop 5 = .ok (.imul, 1) := by decide +kernel
theorem dX2_wardTop_6 : decode cX2_wardTop 6 = .ok (.i2l, 1) := by decide +kernel
theorem dX2_wardTop_7 : decode cX2_wardTop 7 = .ok (.lload_n 0, 1) := by decide +kernel
theorem dX2_wardTop_8 : decode cX2_wardTop 8 = .ok (.lmul, 1) := by decide +kernel
theorem dX2_wardTop_9 : decode cX2_wardTop 9 = .ok (.iload_n 3, 1) := by decide +kernel
theorem dX2_wardTop_10 : decode cX2_wardTop 10 = .ok (.iload_n 3, 1) := by decide +kernel
theorem dX2_wardTop_11 : decode cX2_wardTop 11 = .ok (.imul, 1) := by decide +kernel
theorem dX2_wardTop_12 : decode cX2_wardTop 12 = .ok (.i2l, 1) := by decide +kernel
theorem dX2_wardTop_13 : decode cX2_wardTop 13 = .ok (.lload 4, 2) := by decide +kernel
theorem dX2_wardTop_15 : decode cX2_wardTop 15 = .ok (.lmul, 1) := by decide +kernel
theorem dX2_wardTop_16 : decode cX2_wardTop 16 = .ok (.lsub, 1) := by decide +kernel
theorem dX2_wardTop_17 : decode cX2_wardTop 17 = .ok (.iload_n 2, 1) := by decide +kernel
theorem dX2_wardTop_18 : decode cX2_wardTop 18 = .ok (.iload_n 2, 1) := by decide +kernel
theorem dX2_wardTop_19 : decode cX2_wardTop 19 = .ok (.imul, 1) := by decide +kernel
theorem dX2_wardTop_20 : decode cX2_wardTop 20 = .ok (.i2l, 1) := by decide +kernel
theorem dX2_wardTop_21 : decode cX2_wardTop 21 = .ok (.lload 6, 2) := by decide +kernel
theorem dX2_wardTop_23 : decode cX2_wardTop 23 = .ok (.lmul, 1) := by decide +kernel
theorem dX2_wardTop_24 : decode cX2_wardTop 24 = .ok (.lsub, 1) := by decide +kernel
theorem dX2_wardTop_25 : decode cX2_wardTop 25 = .ok (.lmul, 1) := by decide +kernel
theorem dX2_wardTop_26 : decode cX2_wardTop 26 = .ok (.lreturn, 1) := by decide +kernel
theorem dX2_bottomOf_0 : decode cX2_bottomOf 0 = .ok (.iload_n 0, 1) := by decide +kernel
theorem dX2_bottomOf_1 : decode cX2_bottomOf 1 = .ok (.tableswitch 45 2 4 #[27, 32, 41], 27) := by decide +kernel
theorem dX2_bottomOf_28 : decode cX2_bottomOf 28 = .ok (.iload_n 1, 1) := by decide +kernel
theorem dX2_bottomOf_29 : decode cX2_bottomOf 29 = .ok (.iload_n 2, 1) := by decide +kernel
theorem dX2_bottomOf_30 : decode cX2_bottomOf 30 = .ok (.imul, 1) := by decide +kernel
theorem dX2_bottomOf_31 : decode cX2_bottomOf 31 = .ok (.i2l, 1) := by decide +kernel
theorem dX2_bottomOf_32 : decode cX2_bottomOf 32 = .ok (.lreturn, 1) := by decide +kernel
theorem dX2_bottomOf_33 : decode cX2_bottomOf 33 = .ok (.iload_n 1, 1) := by decide +kernel
theorem dX2_bottomOf_34 : decode cX2_bottomOf 34 = .ok (.iload_n 2, 1) := by decide +kernel
theorem dX2_bottomOf_35 : decode cX2_bottomOf 35 = .ok (.imul, 1) := by decide +kernel
theorem dX2_bottomOf_36 : decode cX2_bottomOf 36 = .ok (.iload_n 1, 1) := by decide +kernel
theorem dX2_bottomOf_37 : decode cX2_bottomOf 37 = .ok (.iload_n 2, 1) := by decide +kernel
theorem dX2_bottomOf_38 : decode cX2_bottomOf 38 = .ok (.iadd, 1) := by decide +kernel
theorem dX2_bottomOf_39 : decode cX2_bottomOf 39 = .ok (.imul, 1) := by decide +kernel
theorem dX2_bottomOf_40 : decode cX2_bottomOf 40 = .ok (.i2l, 1) := by decide +kernel
theorem dX2_bottomOf_41 : decode cX2_bottomOf 41 = .ok (.lreturn, 1) := by decide +kernel
theorem dX2_bottomOf_42 : decode cX2_bottomOf 42 = .ok (.ldc2_w 9, 3) := by decide +kernel
theorem dX2_bottomOf_45 : decode cX2_bottomOf 45 = .ok (.lreturn, 1) := by decide +kernel
theorem dX2_bottomOf_46 : decode cX2_bottomOf 46 = .ok (.lconst 1, 1) := by decide +kernel
theorem dX2_bottomOf_47 : decode cX2_bottomOf 47 = .ok (.lreturn, 1) := by decide +kernel
