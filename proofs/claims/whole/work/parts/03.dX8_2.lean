theorem dX8_chain_9 : decode cX8_chain 9 = .ok (.iconst 5, 1) := by decide +kernel
theorem dX8_chain_10 : decode cX8_chain 10 = .ok (.invokestatic 110, 3) := by decide +kernel
theorem dX8_chain_13 : decode cX8_chain 13 = .ok (.ifCond .ne 5, 3) := by decide +kernel
theorem dX8_chain_16 : decode cX8_chain 16 = .ok (.iconst (-1), 1) := by decide +kernel
theorem dX8_chain_17 : decode cX8_chain 17 = .ok (.ireturn, 1) := by decide +kernel
theorem dX8_chain_18 : decode cX8_chain 18 = .ok (.aload_n 0, 1) := by decide +kernel
theorem dX8_chain_19 : decode cX8_chain 19 = .ok (.invokevirtual 202, 3) := by decide +kernel
theorem dX8_chain_22 : decode cX8_chain 22 = .ok (.aload_n 0, 1) := by decide +kernel
theorem dX8_chain_23 : decode cX8_chain 23 = .ok (.iconst 0, 1) := by decide +kernel
theorem dX8_chain_24 : decode cX8_chain 24 = .ok (.putfield 199, 3) := by decide +kernel
theorem dX8_chain_27 : decode cX8_chain 27 = .ok (.aload_n 0, 1) := by decide +kernel
theorem dX8_chain_28 : decode cX8_chain 28 = .ok (.getfield 147, 3) := by decide +kernel
theorem dX8_chain_31 : decode cX8_chain 31 = .ok (.aload_n 0, 1) := by decide +kernel
theorem dX8_chain_32 : decode cX8_chain 32 = .ok (.getfield 107, 3) := by decide +kernel
theorem dX8_chain_35 : decode cX8_chain 35 = .ok (.iconst 1, 1) := by decide +kernel
theorem dX8_chain_36 : decode cX8_chain 36 = .ok (.isub, 1) := by decide +kernel
theorem dX8_chain_37 : decode cX8_chain 37 = .ok (.if_icmp .ge 11, 3) := by decide +kernel
theorem dX8_chain_40 : decode cX8_chain 40 = .ok (.aload_n 0, 1) := by decide +kernel
theorem dX8_chain_41 : decode cX8_chain 41 = .ok (.iload_n 2, 1) := by decide +kernel
theorem dX8_chain_42 : decode cX8_chain 42 = .ok (.invokevirtual 212, 3) := by decide +kernel
theorem dX8_chain_45 : decode cX8_chain 45 = .ok (.goto (-18), 3) := by decide +kernel
theorem dX8_chain_48 : decode cX8_chain 48 = .ok (.aload_n 0, 1) := by decide +kernel
theorem dX8_chain_49 : decode cX8_chain 49 = .ok (.iload_n 1, 1) := by decide +kernel
theorem dX8_chain_50 : decode cX8_chain 50 = .ok (.iload_n 2, 1) := by decide +kernel
theorem dX8_chain_51 : decode cX8_chain 51 = .ok (.iconst 1, 1) := by decide +kernel
theorem dX8_chain_52 : decode cX8_chain 52 = .ok (.invokevirtual 208, 3) := by decide +kernel
theorem dX8_chain_55 : decode cX8_chain 55 = .ok (.aload_n 0, 1) := by decide +kernel
theorem dX8_chain_56 : decode cX8_chain 56 = .ok (.getfield 147, 3) := by decide +kernel
theorem dX8_chain_59 : decode cX8_chain 59 = .ok (.ireturn, 1) := by decide +kernel
theorem dX8_isTree_0 : decode cX8_isTree 0 = .ok (.iload_n 1, 1) := by decide +kernel
theorem dX8_isTree_1 : decode cX8_isTree 1 = .ok (.iconst 4, 1) := by decide +kernel
theorem dX8_isTree_2 : decode cX8_isTree 2 = .ok (.invokestatic 110, 3) := by decide +kernel
theorem dX8_isTree_5 : decode cX8_isTree 5 = .ok (.ifCond .eq 16, 3) := by decide +kernel
theorem dX8_isTree_8 : decode cX8_isTree 8 = .ok (.aload_n 0, 1) := by decide +kernel
theorem dX8_isTree_9 : decode cX8_isTree 9 = .ok (.getfield 36, 3) := by decide +kernel
theorem dX8_isTree_12 : decode cX8_isTree 12 = .ok (.iload_n 1, 1) := by decide +kernel
theorem dX8_isTree_13 : decode cX8_isTree 13 = .ok (.baload, 1) := by decide +kernel
theorem dX8_isTree_14 : decode cX8_isTree 14 = .ok (.ifCond .eq 7, 3) := by decide +kernel
theorem dX8_isTree_17 : decode cX8_isTree 17 = .ok (.iconst 1, 1) := by decide +kernel
theorem dX8_isTree_18 : decode cX8_isTree 18 = .ok (.goto 4, 3) := by decide +kernel
theorem dX8_isTree_21 : decode cX8_isTree 21 = .ok (.iconst 0, 1) := by decide +kernel
theorem dX8_isTree_22 : decode cX8_isTree 22 = .ok (.ireturn, 1) := by decide +kernel
theorem dX8_steps_0 : decode cX8_steps 0 = .ok (.aload_n 0, 1) := by decide +kernel
theorem dX8_steps_1 : decode cX8_steps 1 = .ok (.getfield 40, 3) := by decide +kernel
theorem dX8_steps_4 : decode cX8_steps 4 = .ok (.iload_n 1, 1) := by decide +kernel
theorem dX8_steps_5 : decode cX8_steps 5 = .ok (.iaload, 1) := by decide +kernel
theorem dX8_steps_6 : decode cX8_steps 6 = .ok (.iconst 1, 1) := by decide +kernel
theorem dX8_steps_7 : decode cX8_steps 7 = .ok (.if_icmp .le 14, 3) := by decide +kernel
theorem dX8_steps_10 : decode cX8_steps 10 = .ok (.aload_n 0, 1) := by decide +kernel
theorem dX8_steps_11 : decode cX8_steps 11 = .ok (.getfield 40, 3) := by decide +kernel
theorem dX8_steps_14 : decode cX8_steps 14 = .ok (.iload_n 1, 1) := by decide +kernel
theorem dX8_steps_15 : decode cX8_steps 15 = .ok (.iaload, 1) := by decide +kernel
theorem dX8_steps_16 : decode cX8_steps 16 = .ok (.iconst 1, 1) := by decide +kernel
theorem dX8_steps_17 : decode cX8_steps 17 = .ok (.isub, 1) := by decide +kernel
theorem dX8_steps_18 : decode cX8_steps 18 = .ok (.goto 4, 3) := by decide +kernel
theorem dX8_steps_21 : decode cX8_steps 21 = .ok (.iconst 0, 1) := by decide +kernel
theorem dX8_steps_22 : decode cX8_steps 22 = .ok (.ireturn, 1) := by decide +kernel
theorem dX8_isStep_0 : decode cX8_isStep 0 = .ok (.aload_n 0, 1) := by decide +kernel
theorem dX8_isStep_1 : decode cX8_isStep 1 = .ok (.iload_n 1, 1) := by decide +kernel
theorem dX8_isStep_2 : decode cX8_isStep 2 = .ok (.invokevirtual 215, 3) := by decide +kernel
theorem dX8_isStep_5 : decode cX8_isStep 5 = .ok (.ifCond .eq 19, 3) := by decide +kernel
theorem dX8_isStep_8 : decode cX8_isStep 8 = .ok (.iload_n 2, 1) := by decide +kernel
theorem dX8_isStep_9 : decode cX8_isStep 9 = .ok (.aload_n 0, 1) := by decide +kernel
theorem dX8_isStep_10 : decode cX8_isStep 10 = .ok (.iload_n 1, 1) := by decide +kernel
theorem dX8_isStep_11 : decode cX8_isStep 11 = .ok (.invokevirtual 219, 3) := by decide +kernel
theorem dX8_isStep_14 : decode cX8_isStep 14 = .ok (.invokestatic 110, 3) := by decide +kernel
theorem dX8_isStep_17 : decode cX8_isStep 17 = .ok (.ifCond .eq 7, 3) := by decide +kernel
theorem dX8_isStep_20 : decode cX8_isStep 20 = .ok (.iconst 1, 1) := by decide +kernel
theorem dX8_isStep_21 : decode cX8_isStep 21 = .ok (.goto 4, 3) := by decide +kernel
theorem dX8_isStep_24 : decode cX8_isStep 24 = .ok (.iconst 0, 1) := by decide +kernel
theorem dX8_isStep_25 : decode cX8_isStep 25 = .ok (.ireturn, 1) := by decide +kernel
theorem dX8_tree_0 : decode cX8_tree 0 = .ok (.aload_n 0, 1) := by decide +kernel
theorem dX8_tree_1 : decode cX8_tree 1 = .ok (.iload_n 1, 1) := by decide +kernel
theorem dX8_tree_2 : decode cX8_tree 2 = .ok (.invokevirtual 215, 3) := by decide +kernel
theorem dX8_tree_5 : decode cX8_tree 5 = .ok (.ifCond .ne 5, 3) := by decide +kernel
theorem dX8_tree_8 : decode cX8_tree 8 = .ok (.iconst (-1), 1) := by decide +kernel
theorem dX8_tree_9 : decode cX8_tree 9 = .ok (.ireturn, 1) := by decide +kernel
theorem dX8_tree_10 : decode cX8_tree 10 = .ok (.iload_n 2, 1) := by decide +kernel
theorem dX8_tree_11 : decode cX8_tree 11 = .ok (.tableswitch 67 0 4 #[33, 39, 46, 53, 60], 33) := by decide +kernel
theorem dX8_tree_44 : decode cX8_tree 44 = .ok (.aload_n 0, 1) := by decide +kernel
theorem dX8_tree_45 : decode cX8_tree 45 = .ok (.iload_n 1, 1) := by decide +kernel
theorem dX8_tree_46 : decode cX8_tree 46 = .ok (.invokevirtual 219, 3) := by decide +kernel
theorem dX8_tree_49 : decode cX8_tree 49 = .ok (.ireturn, 1) := by decide +kernel
theorem dX8_tree_50 : decode cX8_tree 50 = .ok (.aload_n 0, 1) := by decide +kernel
theorem dX8_tree_51 : decode cX8_tree 51 = .ok (.getfield 49, 3) := by decide +kernel
theorem dX8_tree_54 : decode cX8_tree 54 = .ok (.iload_n 1, 1) := by decide +kernel
theorem dX8_tree_55 : decode cX8_tree 55 = .ok (.iaload, 1) := by decide +kernel
theorem dX8_tree_56 : decode cX8_tree 56 = .ok (.ireturn, 1) := by decide +kernel
theorem dX8_tree_57 : decode cX8_tree 57 = .ok (.aload_n 0, 1) := by decide +kernel
theorem dX8_tree_58 : decode cX8_tree 58 = .ok (.getfield 40, 3) := by decide +kernel
theorem dX8_tree_61 : decode cX8_tree 61 = .ok (.iload_n 1, 1) := by decide +kernel
theorem dX8_tree_62 : decode cX8_tree 62 = .ok (.iaload, 1) := by decide +kernel
theorem dX8_tree_63 : decode cX8_tree 63 = .ok (.ireturn, 1) := by decide +kernel
theorem dX8_tree_64 : decode cX8_tree 64 = .ok (.aload_n 0, 1) := by decide +kernel
theorem dX8_tree_65 : decode cX8_tree 65 = .ok (.getfield 43, 3) := by decide +kernel
theorem dX8_tree_68 : decode cX8_tree 68 = .ok (.iload_n 1, 1) := by decide +kernel
theorem dX8_tree_69 : decode cX8_tree 69 = .ok (.iaload, 1) := by decide +kernel
theorem dX8_tree_70 : decode cX8_tree 70 = .ok (.ireturn, 1) := by decide +kernel
theorem dX8_tree_71 : decode cX8_tree 71 = .ok (.aload_n 0, 1) := by decide +kernel
theorem dX8_tree_72 : decode cX8_tree 72 = .ok (.getfield 46, 3) := by decide +kernel
theorem dX8_tree_75 : decode cX8_tree 75 = .ok (.iload_n 1, 1) := by decide +kernel
theorem dX8_tree_76 : decode cX8_tree 76 = .ok (.iaload, 1) := by decide +kernel
theorem dX8_tree_77 : decode cX8_tree 77 = .ok (.ireturn, 1) := by decide +kernel
theorem dX8_tree_78 : decode cX8_tree 78 = .ok (.iconst (-1), 1) := by decide +kernel
theorem dX8_tree_79 : decode cX8_tree 79 = .ok (.ireturn, 1) := by decide +kernel
theorem dX8_step_0 : decode cX8_step 0 = .ok (.aload_n 0, 1) := by decide +kernel
theorem dX8_step_1 : decode cX8_step 1 = .ok (.iload_n 1, 1) := by decide +kernel
theorem dX8_step_2 : decode cX8_step 2 = .ok (.iload_n 2, 1) := by decide +kernel
theorem dX8_step_3 : decode cX8_step 3 = .ok (.invokevirtual 222, 3) := by decide +kernel
theorem dX8_step_6 : decode cX8_step 6 = .ok (.ifCond .ne 5, 3) := by decide +kernel
theorem dX8_step_9 : decode cX8_step 9 = .ok (.iconst (-1), 1) := by decide +kernel
theorem dX8_step_10 : decode cX8_step 10 = .ok (.ireturn, 1) := by decide +kernel
theorem dX8_step_11 : decode cX8_step 11 = .ok (.bipush 19, 2) := by decide +kernel
theorem dX8_step_13 : decode cX8_step 13 = .ok (.iload_n 1, 1) := by decide +kernel
theorem dX8_step_14 : decode cX8_step 14 = .ok (.imul, 1) := by decide +kernel
theorem dX8_step_15 : decode cX8_step 15 = .ok (.iload_n 2, 1) := by decide +kernel
theorem dX8_step_16 : decode cX8_step 16 = .ok (.iadd, 1) := by decide +kernel
theorem dX8_step_17 : decode cX8_step 17 = .ok (.istore 4, 2) := by decide +kernel
theorem dX8_step_19 : decode cX8_step 19 = .ok (.iload_n 3, 1) := by decide +kernel
theorem dX8_step_20 : decode cX8_step 20 = .ok (.ifCond .ne 13, 3) := by decide +kernel
theorem dX8_step_23 : decode cX8_step 23 = .ok (.aload_n 0, 1) := by decide +kernel
theorem dX8_step_24 : decode cX8_step 24 = .ok (.getfield 52, 3) := by decide +kernel
theorem dX8_step_27 : decode cX8_step 27 = .ok (.iload 4, 2) := by decide +kernel
theorem dX8_step_29 : decode cX8_step 29 = .ok (.iaload, 1) := by decide +kernel
theorem dX8_step_30 : decode cX8_step 30 = .ok (.goto 52, 3) := by decide +kernel
theorem dX8_step_33 : decode cX8_step 33 = .ok (.iload_n 3, 1) := by decide +kernel
theorem dX8_step_34 : decode cX8_step 34 = .ok (.iconst 1, 1) := by decide +kernel
theorem dX8_step_35 : decode cX8_step 35 = .ok (.if_icmp .ne 13, 3) := by decide +kernel
theorem dX8_step_38 : decode cX8_step 38 = .ok (.aload_n 0, 1) := by decide +kernel
theorem dX8_step_39 : decode cX8_step 39 = .ok (.getfield 55, 3) := by decide +kernel
theorem dX8_step_42 : decode cX8_step 42 = .ok (.iload 4, 2) := by decide +kernel
theorem dX8_step_44 : decode cX8_step 44 = .ok (.iaload, 1) := by decide +kernel
theorem dX8_step_45 : decode cX8_step 45 = .ok (.goto 37, 3) := by decide +kernel
theorem dX8_step_48 : decode cX8_step 48 = .ok (.iload_n 3, 1) := by decide +kernel
theorem dX8_step_49 : decode cX8_step 49 = .ok (.iconst 2, 1) := by decide +kernel
theorem dX8_step_50 : decode cX8_step 50 = .ok (.if_icmp .ne 16, 3) := by decide +kernel
theorem dX8_step_53 : decode cX8_step 53 = .ok (.aload_n 0, 1) := by decide +kernel
theorem dX8_step_54 : decode cX8_step 54 = .ok (.getfield 58, 3) := by decide +kernel
theorem dX8_step_57 : decode cX8_step 57 = .ok (.iload 4, 2) := by decide +kernel
theorem dX8_step_59 : decode cX8_step 59 = .ok (.iaload, 1) := by decide +kernel
theorem dX8_step_60 : decode cX8_step 60 = .ok (.invokestatic 161, 3) := by decide +kernel
theorem dX8_step_63 : decode cX8_step 63 = .ok (.goto 19, 3) := by decide +kernel
theorem dX8_step_66 : decode cX8_step 66 = .ok (.iload_n 3, 1) := by decide +kernel
theorem dX8_step_67 : decode cX8_step 67 = .ok (.iconst 3, 1) := by decide +kernel
theorem dX8_step_68 : decode cX8_step 68 = .ok (.if_icmp .ne 13, 3) := by decide +kernel
theorem dX8_step_71 : decode cX8_step 71 = .ok (.aload_n 0, 1) := by decide +kernel
theorem dX8_step_72 : decode cX8_step 72 = .ok (.getfield 58, 3) := by decide +kernel
theorem dX8_step_75 : decode cX8_step 75 = .ok (.iload 4, 2) := by decide +kernel
theorem dX8_step_77 : decode cX8_step 77 = .ok (.iaload, 1) := by decide +kernel
theorem dX8_step_78 : decode cX8_step 78 = .ok (.goto 4, 3) := by decide +kernel
theorem dX8_step_81 : decode cX8_step 81 = .ok (.iconst (-1), 1) := by decide +kernel
theorem dX8_step_82 : decode cX8_step 82 = .ok (.ireturn, 1) := by decide +kernel
theorem dX8_height_0 : decode cX8_height 0 = .ok (.aload_n 0, 1) := by decide +kernel
theorem dX8_height_1 : decode cX8_height 1 = .ok (.iload_n 1, 1) := by decide +kernel
theorem dX8_height_2 : decode cX8_height 2 = .ok (.iload_n 2, 1) := by decide +kernel
theorem dX8_height_3 : decode cX8_height 3 = .ok (.invokevirtual 222, 3) := by decide +kernel
theorem dX8_height_6 : decode cX8_height 6 = .ok (.ifCond .ne 7, 3) := by decide +kernel
theorem dX8_height_9 : decode cX8_height 9 = .ok (.ldc2_w 183, 3) := by decide +kernel
theorem dX8_height_12 : decode cX8_height 12 = .ok (.lreturn, 1) := by decide +kernel
theorem dX8_height_13 : decode cX8_height 13 = .ok (.iload_n 3, 1) := by decide +kernel
theorem dX8_height_14 : decode cX8_height 14 = .ok (.ifCond .ne 17, 3) := by decide +kernel
theorem dX8_height_17 : decode cX8_height 17 = .ok (.aload_n 0, 1) := by decide +kernel
theorem dX8_height_18 : decode cX8_height 18 = .ok (.getfield 61, 3) := by decide +kernel
theorem dX8_height_21 : decode cX8_height 21 = .ok (.bipush 19, 2) := by decide +kernel
theorem dX8_height_23 : decode cX8_height 23 = .ok (.iload_n 1, 1) := by decide +kernel
theorem dX8_height_24 : decode cX8_height 24 = .ok (.imul, 1) := by decide +kernel
theorem dX8_height_25 : decode cX8_height 25 = .ok (.iload_n 2, 1) := by decide +kernel
theorem dX8_height_26 : decode cX8_height 26 = .ok (.iadd, 1) := by decide +kernel
theorem dX8_height_27 : decode cX8_height 27 = .ok (.laload, 1) := by decide +kernel
theorem dX8_height_28 : decode cX8_height 28 = .ok (.goto 25, 3) := by decide +kernel
theorem dX8_height_31 : decode cX8_height 31 = .ok (.iload_n 3, 1) := by decide +kernel
theorem dX8_height_32 : decode cX8_height 32 = .ok (.iconst 1, 1) := by decide +kernel
theorem dX8_height_33 : decode cX8_height 33 = .ok (.if_icmp .ne 17, 3) := by decide +kernel
theorem dX8_height_36 : decode cX8_height 36 = .ok (.aload_n 0, 1) := by decide +kernel
theorem dX8_height_37 : decode cX8_height 37 = .ok (.getfield 65, 3) := by decide +kernel
theorem dX8_height_40 : decode cX8_height 40 = .ok (.bipush 19, 2) := by decide +kernel
theorem dX8_height_42 : decode cX8_height 42 = .ok (.iload_n 1, 1) := by decide +kernel
theorem dX8_height_43 : decode cX8_height 43 = .ok (.imul, 1) := by decide +kernel
theorem dX8_height_44 : decode cX8_height 44 = .ok (.iload_n 2, 1) := by decide +kernel
theorem dX8_height_45 : decode cX8_height 45 = .ok (.iadd, 1) := by decide +kernel
theorem dX8_height_46 : decode cX8_height 46 = .ok (.laload, 1) := by decide +kernel
theorem dX8_height_47 : decode cX8_height 47 = .ok (.goto 6, 3) := by decide +kernel
theorem dX8_height_50 : decode cX8_height 50 = .ok (.ldc2_w 183, 3) := by decide +kernel
theorem dX8_height_53 : decode cX8_height 53 = .ok (.lreturn, 1) := by decide +kernel
theorem dX8_joins_0 : decode cX8_joins 0 = .ok (.aload_n 0, 1) := by decide +kernel
theorem dX8_joins_1 : decode cX8_joins 1 = .ok (.iload_n 1, 1) := by decide +kernel
theorem dX8_joins_2 : decode cX8_joins 2 = .ok (.invokevirtual 215, 3) := by decide +kernel
theorem dX8_joins_5 : decode cX8_joins 5 = .ok (.ifCond .eq 34, 3) := by decide +kernel
theorem dX8_joins_8 : decode cX8_joins 8 = .ok (.iload_n 2, 1) := by decide +kernel
theorem dX8_joins_9 : decode cX8_joins 9 = .ok (.aload_n 0, 1) := by decide +kernel
theorem dX8_joins_10 : decode cX8_joins 10 = .ok (.getfield 40, 3) := by decide +kernel
theorem dX8_joins_13 : decode cX8_joins 13 = .ok (.iload_n 1, 1) := by decide +kernel
theorem dX8_joins_14 : decode cX8_joins 14 = .ok (.iaload, 1) := by decide +kernel
theorem dX8_joins_15 : decode cX8_joins 15 = .ok (.invokestatic 110, 3) := by decide +kernel
theorem dX8_joins_18 : decode cX8_joins 18 = .ok (.ifCond .eq 21, 3) := by decide +kernel
theorem dX8_joins_21 : decode cX8_joins 21 = .ok (.iload_n 3, 1) := by decide +kernel
theorem dX8_joins_22 : decode cX8_joins 22 = .ok (.aload_n 0, 1) := by decide +kernel
theorem dX8_joins_23 : decode cX8_joins 23 = .ok (.getfield 40, 3) := by decide +kernel
theorem dX8_joins_26 : decode cX8_joins 26 = .ok (.iload_n 1, 1) := by decide +kernel
theorem dX8_joins_27 : decode cX8_joins 27 = .ok (.iaload, 1) := by decide +kernel
theorem dX8_joins_28 : decode cX8_joins 28 = .ok (.invokestatic 110, 3) := by decide +kernel
theorem dX8_joins_31 : decode cX8_joins 31 = .ok (.ifCond .eq 8, 3) := by decide +kernel
theorem dX8_joins_34 : decode cX8_joins 34 = .ok (.iload_n 2, 1) := by decide +kernel
theorem dX8_joins_35 : decode cX8_joins 35 = .ok (.iload_n 3, 1) := by decide +kernel
theorem dX8_joins_36 : decode cX8_joins 36 = .ok (.if_icmp .ne 5, 3) := by decide +kernel
theorem dX8_joins_39 : decode cX8_joins 39 = .ok (.iconst (-1), 1) := by decide +kernel
theorem dX8_joins_40 : decode cX8_joins 40 = .ok (.ireturn, 1) := by decide +kernel
theorem dX8_joins_41 : decode cX8_joins 41 = .ok (.iconst 0, 1) := by decide +kernel
theorem dX8_joins_42 : decode cX8_joins 42 = .ok (.istore 4, 2) := by decide +kernel
theorem dX8_joins_44 : decode cX8_joins 44 = .ok (.iconst 1, 1) := by decide +kernel
theorem dX8_joins_45 : decode cX8_joins 45 = .ok (.iload_n 2, 1) := by decide +kernel
theorem dX8_joins_46 : decode cX8_joins 46 = .ok (.ishl, 1) := by decide +kernel
theorem dX8_joins_47 : decode cX8_joins 47 = .ok (.iconst 1, 1) := by decide +kernel
theorem dX8_joins_48 : decode cX8_joins 48 = .ok (.iload_n 3, 1) := by decide +kernel
theorem dX8_joins_49 : decode cX8_joins 49 = .ok (.ishl, 1) := by decide +kernel
theorem dX8_joins_50 : decode cX8_joins 50 = .ok (.ior, 1) := by decide +kernel
theorem dX8_joins_51 : decode cX8_joins 51 = .ok (.istore 5, 2) := by decide +kernel
theorem dX8_joins_53 : decode cX8_joins 53 = .ok (.aload_n 0, 1) := by decide +kernel
theorem dX8_joins_54 : decode cX8_joins 54 = .ok (.getfield 58, 3) := by decide +kernel
theorem dX8_joins_57 : decode cX8_joins 57 = .ok (.bipush 19, 2) := by decide +kernel
theorem dX8_joins_59 : decode cX8_joins 59 = .ok (.iload_n 1, 1) := by decide +kernel
theorem dX8_joins_60 : decode cX8_joins 60 = .ok (.imul, 1) := by decide +kernel
theorem dX8_joins_61 : decode cX8_joins 61 = .ok (.iload 4, 2) := by decide +kernel
theorem dX8_joins_63 : decode cX8_joins 63 = .ok (.iadd, 1) := by decide +kernel
theorem dX8_joins_64 : decode cX8_joins 64 = .ok (.iaload, 1) := by decide +kernel
theorem dX8_joins_65 : decode cX8_joins 65 = .ok (.iload 5, 2) := by decide +kernel
theorem dX8_joins_67 : decode cX8_joins 67 = .ok (.iand, 1) := by decide +kernel
theorem dX8_joins_68 : decode cX8_joins 68 = .ok (.iload 5, 2) := by decide +kernel
theorem dX8_joins_70 : decode cX8_joins 70 = .ok (.if_icmp .eq 9, 3) := by decide +kernel
theorem dX8_joins_73 : decode cX8_joins 73 = .ok (.iinc 4 1, 3) := by decide +kernel
theorem dX8_joins_76 : decode cX8_joins 76 = .ok (.goto (-23), 3) := by decide +kernel
theorem dX8_joins_79 : decode cX8_joins 79 = .ok (.iload 4, 2) := by decide +kernel
theorem dX8_joins_81 : decode cX8_joins 81 = .ok (.ireturn, 1) := by decide +kernel
theorem dX8_same_0 : decode cX8_same 0 = .ok (.aload_n 0, 1) := by decide +kernel
theorem dX8_same_1 : decode cX8_same 1 = .ok (.iload_n 1, 1) := by decide +kernel
theorem dX8_same_2 : decode cX8_same 2 = .ok (.invokevirtual 215, 3) := by decide +kernel
theorem dX8_same_5 : decode cX8_same 5 = .ok (.ifCond .eq 26, 3) := by decide +kernel
theorem dX8_same_8 : decode cX8_same 8 = .ok (.aload_n 0, 1) := by decide +kernel
theorem dX8_same_9 : decode cX8_same 9 = .ok (.iload_n 2, 1) := by decide +kernel
theorem dX8_same_10 : decode cX8_same 10 = .ok (.invokevirtual 215, 3) := by decide +kernel
theorem dX8_same_13 : decode cX8_same 13 = .ok (.ifCond .eq 18, 3) := by decide +kernel
theorem dX8_same_16 : decode cX8_same 16 = .ok (.aload_n 0, 1) := by decide +kernel
theorem dX8_same_17 : decode cX8_same 17 = .ok (.getfield 40, 3) := by decide +kernel
theorem dX8_same_20 : decode cX8_same 20 = .ok (.iload_n 1, 1) := by decide +kernel
theorem dX8_same_21 : decode cX8_same 21 = .ok (.iaload, 1) := by decide +kernel
theorem dX8_same_22 : decode cX8_same 22 = .ok (.aload_n 0, 1) := by decide +kernel
theorem dX8_same_23 : decode cX8_same 23 = .ok (.getfield 40, 3) := by decide +kernel
theorem dX8_same_26 : decode cX8_same 26 = .ok (.iload_n 2, 1) := by decide +kernel
theorem dX8_same_27 : decode cX8_same 27 = .ok (.iaload, 1) := by decide +kernel
theorem dX8_same_28 : decode cX8_same 28 = .ok (.if_icmp .eq 5, 3) := by decide +kernel
theorem dX8_same_31 : decode cX8_same 31 = .ok (.iconst 0, 1) := by decide +kernel
theorem dX8_same_32 : decode cX8_same 32 = .ok (.ireturn, 1) := by decide +kernel
theorem dX8_same_33 : decode cX8_same 33 = .ok (.iconst 1, 1) := by decide +kernel
theorem dX8_same_34 : decode cX8_same 34 = .ok (.istore_n 3, 1) := by decide +kernel
theorem dX8_same_35 : decode cX8_same 35 = .ok (.iconst 0, 1) := by decide +kernel
theorem dX8_same_36 : decode cX8_same 36 = .ok (.istore 4, 2) := by decide +kernel
theorem dX8_same_38 : decode cX8_same 38 = .ok (.iload 4, 2) := by decide +kernel
theorem dX8_same_40 : decode cX8_same 40 = .ok (.aload_n 0, 1) := by decide +kernel
theorem dX8_same_41 : decode cX8_same 41 = .ok (.iload_n 1, 1) := by decide +kernel
theorem dX8_same_42 : decode cX8_same 42 = .ok (.invokevirtual 219, 3) := by decide +kernel
theorem dX8_same_45 : decode cX8_same 45 = .ok (.if_icmp .ge 107, 3) := by decide +kernel
theorem dX8_same_48 : decode cX8_same 48 = .ok (.bipush 19, 2) := by decide +kernel
theorem dX8_same_50 : decode cX8_same 50 = .ok (.iload_n 1, 1) := by decide +kernel
theorem dX8_same_51 : decode cX8_same 51 = .ok (.imul, 1) := by decide +kernel
theorem dX8_same_52 : decode cX8_same 52 = .ok (.iload 4, 2) := by decide +kernel
theorem dX8_same_54 : decode cX8_same 54 = .ok (.iadd, 1) := by decide +kernel
theorem dX8_same_55 : decode cX8_same 55 = .ok (.istore 5, 2) := by decide +kernel
theorem dX8_same_57 : decode cX8_same 57 = .ok (.bipush 19, 2) := by decide +kernel
theorem dX8_same_59 : decode cX8_same 59 = .ok (.iload_n 2, 1) := by decide +kernel
theorem dX8_same_60 : decode cX8_same 60 = .ok (.imul, 1) := by decide +kernel
theorem dX8_same_61 : decode cX8_same 61 = .ok (.iload 4, 2) := by decide +kernel
theorem dX8_same_63 : decode cX8_same 63 = .ok (.iadd, 1) := by decide +kernel
theorem dX8_same_64 : decode cX8_same 64 = .ok (.istore 6, 2) := by decide +kernel
theorem dX8_same_66 : decode cX8_same 66 = .ok (.iload_n 3, 1) := by decide +kernel
theorem dX8_same_67 : decode cX8_same 67 = .ok (.ifCond .eq 77, 3) := by decide +kernel
theorem dX8_same_70 : decode cX8_same 70 = .ok (.aload_n 0, 1) := by decide +kernel
theorem dX8_same_71 : decode cX8_same 71 = .ok (.getfield 52, 3) := by decide +kernel
theorem dX8_same_74 : decode cX8_same 74 = .ok (.iload 5, 2) := by decide +kernel
theorem dX8_same_76 : decode cX8_same 76 = .ok (.iaload, 1) := by decide +kernel
theorem dX8_same_77 : decode cX8_same 77 = .ok (.aload_n 0, 1) := by decide +kernel
theorem dX8_same_78 : decode cX8_same 78 = .ok (.getfield 52, 3) := by decide +kernel
theorem dX8_same_81 : decode cX8_same 81 = .ok (.iload 6, 2) := by decide +kernel
theorem dX8_same_83 : decode cX8_same 83 = .ok (.iaload, 1) := by decide +kernel
theorem dX8_same_84 : decode cX8_same 84 = .ok (.if_icmp .ne 60, 3) := by decide +kernel
theorem dX8_same_87 : decode cX8_same 87 = .ok (.aload_n 0, 1) := by decide +kernel
theorem dX8_same_88 : decode cX8_same 88 = .ok (.getfield 55, 3) := by decide +kernel
theorem dX8_same_91 : decode cX8_same 91 = .ok (.iload 5, 2) := by decide +kernel
theorem dX8_same_93 : decode cX8_same 93 = .ok (.iaload, 1) := by decide +kernel
theorem dX8_same_94 : decode cX8_same 94 = .ok (.aload_n 0, 1) := by decide +kernel
theorem dX8_same_95 : decode cX8_same 95 = .ok (.getfield 55, 3) := by decide +kernel
theorem dX8_same_98 : decode cX8_same 98 = .ok (.iload 6, 2) := by decide +kernel
theorem dX8_same_100 : decode cX8_same 100 = .ok (.iaload, 1) := by decide +kernel
theorem dX8_same_101 : decode cX8_same 101 = .ok (.if_icmp .ne 43, 3) := by decide +kernel
theorem dX8_same_104 : decode cX8_same 104 = .ok (.aload_n 0, 1) := by decide +kernel
theorem dX8_same_105 : decode cX8_same 105 = .ok (.getfield 61, 3) := by decide +kernel
theorem dX8_same_108 : decode cX8_same 108 = .ok (.iload 5, 2) := by decide +kernel
theorem dX8_same_110 : decode cX8_same 110 = .ok (.laload, 1) := by decide +kernel
theorem dX8_same_111 : decode cX8_same 111 = .ok (.aload_n 0, 1) := by decide +kernel
theorem dX8_same_112 : decode cX8_same 112 = .ok (.getfield 61, 3) := by decide +kernel
theorem dX8_same_115 : decode cX8_same 115 = .ok (.iload 6, 2) := by decide +kernel
theorem dX8_same_117 : decode cX8_same 117 = .ok (.laload, 1) := by decide +kernel
theorem dX8_same_118 : decode cX8_same 118 = .ok (.lcmp, 1) := by decide +kernel
theorem dX8_same_119 : decode cX8_same 119 = .ok (.ifCond .ne 25, 3) := by decide +kernel
theorem dX8_same_122 : decode cX8_same 122 = .ok (.aload_n 0, 1) := by decide +kernel
theorem dX8_same_123 : decode cX8_same 123 = .ok (.getfield 65, 3) := by decide +kernel
theorem dX8_same_126 : decode cX8_same 126 = .ok (.iload 5, 2) := by decide +kernel
theorem dX8_same_128 : decode cX8_same 128 = .ok (.laload, 1) := by decide +kernel
theorem dX8_same_129 : decode cX8_same 129 = .ok (.aload_n 0, 1) := by decide +kernel
theorem dX8_same_130 : decode cX8_same 130 = .ok (.getfield 65, 3) := by decide +kernel
theorem dX8_same_133 : decode cX8_same 133 = .ok (.iload 6, 2) := by decide +kernel
theorem dX8_same_135 : decode cX8_same 135 = .ok (.laload, 1) := by decide +kernel
theorem dX8_same_136 : decode cX8_same 136 = .ok (.lcmp, 1) := by decide +kernel
theorem dX8_same_137 : decode cX8_same 137 = .ok (.ifCond .ne 7, 3) := by decide +kernel
theorem dX8_same_140 : decode cX8_same 140 = .ok (.iconst 1, 1) := by decide +kernel
theorem dX8_same_141 : decode cX8_same 141 = .ok (.goto 4, 3) := by decide +kernel
theorem dX8_same_144 : decode cX8_same 144 = .ok (.iconst 0, 1) := by decide +kernel
theorem dX8_same_145 : decode cX8_same 145 = .ok (.istore_n 3, 1) := by decide +kernel
theorem dX8_same_146 : decode cX8_same 146 = .ok (.iinc 4 1, 3) := by decide +kernel
theorem dX8_same_149 : decode cX8_same 149 = .ok (.goto (-111), 3) := by decide +kernel
theorem dX8_same_152 : decode cX8_same 152 = .ok (.iload_n 3, 1) := by decide +kernel
theorem dX8_same_153 : decode cX8_same 153 = .ok (.ireturn, 1) := by decide +kernel
theorem dX8_leastOf_0 : decode cX8_leastOf 0 = .ok (.iload_n 2, 1) := by decide +kernel
theorem dX8_leastOf_1 : decode cX8_leastOf 1 = .ok (.aload_n 0, 1) := by decide +kernel
theorem dX8_leastOf_2 : decode cX8_leastOf 2 = .ok (.getfield 40, 3) := by decide +kernel
theorem dX8_leastOf_5 : decode cX8_leastOf 5 = .ok (.iload_n 1, 1) := by decide +kernel
theorem dX8_leastOf_6 : decode cX8_leastOf 6 = .ok (.iaload, 1) := by decide +kernel
theorem dX8_leastOf_7 : decode cX8_leastOf 7 = .ok (.if_icmp .ge 9, 3) := by decide +kernel
theorem dX8_leastOf_10 : decode cX8_leastOf 10 = .ok (.iconst 1, 1) := by decide +kernel
theorem dX8_leastOf_11 : decode cX8_leastOf 11 = .ok (.iload_n 2, 1) := by decide +kernel
theorem dX8_leastOf_12 : decode cX8_leastOf 12 = .ok (.ishl, 1) := by decide +kernel
theorem dX8_leastOf_13 : decode cX8_leastOf 13 = .ok (.goto 21, 3) := by decide +kernel
theorem dX8_leastOf_16 : decode cX8_leastOf 16 = .ok (.aload_n 0, 1) := by decide +kernel
theorem dX8_leastOf_17 : decode cX8_leastOf 17 = .ok (.getfield 58, 3) := by decide +kernel
theorem dX8_leastOf_20 : decode cX8_leastOf 20 = .ok (.bipush 19, 2) := by decide +kernel
theorem dX8_leastOf_22 : decode cX8_leastOf 22 = .ok (.iload_n 1, 1) := by decide +kernel
theorem dX8_leastOf_23 : decode cX8_leastOf 23 = .ok (.imul, 1) := by decide +kernel
theorem dX8_leastOf_24 : decode cX8_leastOf 24 = .ok (.iload_n 2, 1) := by decide +kernel
theorem dX8_leastOf_25 : decode cX8_leastOf 25 = .ok (.iadd, 1) := by decide +kernel
theorem dX8_leastOf_26 : decode cX8_leastOf 26 = .ok (.aload_n 0, 1) := by decide +kernel
theorem dX8_leastOf_27 : decode cX8_leastOf 27 = .ok (.getfield 40, 3) := by decide +kernel
theorem dX8_leastOf_30 : decode cX8_leastOf 30 = .ok (.iload_n 1, 1) := by decide +kernel
theorem dX8_leastOf_31 : decode cX8_leastOf 31 = .ok (.iaload, 1) := by decide +kernel
theorem dX8_leastOf_32 : decode cX8_leastOf 32 = .ok (.isub, 1) := by decide +kernel
theorem dX8_leastOf_33 : decode cX8_leastOf 33 = .ok (.iaload, 1) := by decide +kernel
theorem dX8_leastOf_34 : decode cX8_leastOf 34 = .ok (.istore_n 3, 1) := by decide +kernel
theorem dX8_leastOf_35 : decode cX8_leastOf 35 = .ok (.iconst 0, 1) := by decide +kernel
theorem dX8_leastOf_36 : decode cX8_leastOf 36 = .ok (.istore 4, 2) := by decide +kernel
theorem dX8_leastOf_38 : decode cX8_leastOf 38 = .ok (.iload_n 3, 1) := by decide +kernel
theorem dX8_leastOf_39 : decode cX8_leastOf 39 = .ok (.iload 4, 2) := by decide +kernel
theorem dX8_leastOf_41 : decode cX8_leastOf 41 = .ok (.ishr, 1) := by decide +kernel
theorem dX8_leastOf_42 : decode cX8_leastOf 42 = .ok (.iconst 1, 1) := by decide +kernel
theorem dX8_leastOf_43 : decode cX8_leastOf 43 = .ok (.iand, 1) := by decide +kernel
theorem dX8_leastOf_44 : decode cX8_leastOf 44 = .ok (.ifCond .ne 9, 3) := by decide +kernel
theorem dX8_leastOf_47 : decode cX8_leastOf 47 = .ok (.iinc 4 1, 3) := by decide +kernel
theorem dX8_leastOf_50 : decode cX8_leastOf 50 = .ok (.goto (-12), 3) := by decide +kernel
theorem dX8_leastOf_53 : decode cX8_leastOf 53 = .ok (.iload 4, 2) := by decide +kernel
theorem dX8_leastOf_55 : decode cX8_leastOf 55 = .ok (.ireturn, 1) := by decide +kernel
theorem dX8_tells_0 : decode cX8_tells 0 = .ok (.aload_n 0, 1) := by decide +kernel
theorem dX8_tells_1 : decode cX8_tells 1 = .ok (.getfield 40, 3) := by decide +kernel
theorem dX8_tells_4 : decode cX8_tells 4 = .ok (.iload_n 1, 1) := by decide +kernel
theorem dX8_tells_5 : decode cX8_tells 5 = .ok (.iaload, 1) := by decide +kernel
theorem dX8_tells_6 : decode cX8_tells 6 = .ok (.istore_n 2, 1) := by decide +kernel
theorem dX8_tells_7 : decode cX8_tells 7 = .ok (.aload_n 0, 1) := by decide +kernel
theorem dX8_tells_8 : decode cX8_tells 8 = .ok (.iconst 0, 1) := by decide +kernel
theorem dX8_tells_9 : decode cX8_tells 9 = .ok (.putfield 126, 3) := by decide +kernel
theorem dX8_tells_12 : decode cX8_tells 12 = .ok (.iconst 0, 1) := by decide +kernel
theorem dX8_tells_13 : decode cX8_tells 13 = .ok (.istore_n 3, 1) := by decide +kernel
theorem dX8_tells_14 : decode cX8_tells 14 = .ok (.iconst 0, 1) := by decide +kernel
theorem dX8_tells_15 : decode cX8_tells 15 = .ok (.istore 4, 2) := by decide +kernel
theorem dX8_tells_17 : decode cX8_tells 17 = .ok (.iload_n 2, 1) := by decide +kernel
theorem dX8_tells_18 : decode cX8_tells 18 = .ok (.ifCond .le 25, 3) := by decide +kernel
theorem dX8_tells_21 : decode cX8_tells 21 = .ok (.aload_n 0, 1) := by decide +kernel
theorem dX8_tells_22 : decode cX8_tells 22 = .ok (.getfield 98, 3) := by decide +kernel
theorem dX8_tells_25 : decode cX8_tells 25 = .ok (.iconst 0, 1) := by decide +kernel
theorem dX8_tells_26 : decode cX8_tells 26 = .ok (.iload_n 2, 1) := by decide +kernel
theorem dX8_tells_27 : decode cX8_tells 27 = .ok (.iconst 1, 1) := by decide +kernel
theorem dX8_tells_28 : decode cX8_tells 28 = .ok (.if_icmp .le 11, 3) := by decide +kernel
theorem dX8_tells_31 : decode cX8_tells 31 = .ok (.iconst 2, 1) := by decide +kernel
theorem dX8_tells_32 : decode cX8_tells 32 = .ok (.iload_n 2, 1) := by decide +kernel
theorem dX8_tells_33 : decode cX8_tells 33 = .ok (.imul, 1) := by decide +kernel
theorem dX8_tells_34 : decode cX8_tells 34 = .ok (.iconst 2, 1) := by decide +kernel
theorem dX8_tells_35 : decode cX8_tells 35 = .ok (.isub, 1) := by decide +kernel
theorem dX8_tells_36 : decode cX8_tells 36 = .ok (.goto 4, 3) := by decide +kernel
theorem dX8_tells_39 : decode cX8_tells 39 = .ok (.iconst 0, 1) := by decide +kernel
theorem dX8_tells_40 : decode cX8_tells 40 = .ok (.iastore, 1) := by decide +kernel
theorem dX8_tells_41 : decode cX8_tells 41 = .ok (.iconst 1, 1) := by decide +kernel
theorem dX8_tells_42 : decode cX8_tells 42 = .ok (.istore_n 3, 1) := by decide +kernel
theorem dX8_tells_43 : decode cX8_tells 43 = .ok (.iload_n 3, 1) := by decide +kernel
theorem dX8_tells_44 : decode cX8_tells 44 = .ok (.ifCond .le 268, 3) := by decide +kernel
theorem dX8_tells_47 : decode cX8_tells 47 = .ok (.iinc 3 (-1), 3) := by decide +kernel
theorem dX8_tells_50 : decode cX8_tells 50 = .ok (.aload_n 0, 1) := by decide +kernel
theorem dX8_tells_51 : decode cX8_tells 51 = .ok (.getfield 98, 3) := by decide +kernel
theorem dX8_tells_54 : decode cX8_tells 54 = .ok (.iload_n 3, 1) := by decide +kernel
theorem dX8_tells_55 : decode cX8_tells 55 = .ok (.iaload, 1) := by decide +kernel
theorem dX8_tells_56 : decode cX8_tells 56 = .ok (.istore 5, 2) := by decide +kernel
theorem dX8_tells_58 : decode cX8_tells 58 = .ok (.iload 5, 2) := by decide +kernel
theorem dX8_tells_60 : decode cX8_tells 60 = .ok (.iconst (-1), 1) := by decide +kernel
theorem dX8_tells_61 : decode cX8_tells 61 = .ok (.if_icmp .ne 12, 3) := by decide +kernel
theorem dX8_tells_64 : decode cX8_tells 64 = .ok (.aload_n 0, 1) := by decide +kernel
theorem dX8_tells_65 : decode cX8_tells 65 = .ok (.bipush 44, 2) := by decide +kernel
theorem dX8_tells_67 : decode cX8_tells 67 = .ok (.invokevirtual 133, 3) := by decide +kernel
theorem dX8_tells_70 : decode cX8_tells 70 = .ok (.goto 239, 3) := by decide +kernel
theorem dX8_tells_73 : decode cX8_tells 73 = .ok (.iload 5, 2) := by decide +kernel
theorem dX8_tells_75 : decode cX8_tells 75 = .ok (.iconst (-1), 1) := by decide +kernel
theorem dX8_tells_76 : decode cX8_tells 76 = .ok (.if_icmp .ge 69, 3) := by decide +kernel
theorem dX8_tells_79 : decode cX8_tells 79 = .ok (.bipush 19, 2) := by decide +kernel
theorem dX8_tells_81 : decode cX8_tells 81 = .ok (.iload_n 1, 1) := by decide +kernel
theorem dX8_tells_82 : decode cX8_tells 82 = .ok (.imul, 1) := by decide +kernel
theorem dX8_tells_83 : decode cX8_tells 83 = .ok (.iload 5, 2) := by decide +kernel
theorem dX8_tells_85 : decode cX8_tells 85 = .ok (.isub, 1) := by decide +kernel
theorem dX8_tells_86 : decode cX8_tells 86 = .ok (.iconst 2, 1) := by decide +kernel
theorem dX8_tells_87 : decode cX8_tells 87 = .ok (.isub, 1) := by decide +kernel
theorem dX8_tells_88 : decode cX8_tells 88 = .ok (.istore 6, 2) := by decide +kernel
theorem dX8_tells_90 : decode cX8_tells 90 = .ok (.aload_n 0, 1) := by decide +kernel
theorem dX8_tells_91 : decode cX8_tells 91 = .ok (.bipush 41, 2) := by decide +kernel
theorem dX8_tells_93 : decode cX8_tells 93 = .ok (.invokevirtual 133, 3) := by decide +kernel
theorem dX8_tells_96 : decode cX8_tells 96 = .ok (.aload_n 0, 1) := by decide +kernel
theorem dX8_tells_97 : decode cX8_tells 97 = .ok (.bipush 58, 2) := by decide +kernel
theorem dX8_tells_99 : decode cX8_tells 99 = .ok (.invokevirtual 133, 3) := by decide +kernel
theorem dX8_tells_102 : decode cX8_tells 102 = .ok (.aload_n 0, 1) := by decide +kernel
theorem dX8_tells_103 : decode cX8_tells 103 = .ok (.aload_n 0, 1) := by decide +kernel
theorem dX8_tells_104 : decode cX8_tells 104 = .ok (.getfield 61, 3) := by decide +kernel
theorem dX8_tells_107 : decode cX8_tells 107 = .ok (.iload 6, 2) := by decide +kernel
theorem dX8_tells_109 : decode cX8_tells 109 = .ok (.laload, 1) := by decide +kernel
theorem dX8_tells_110 : decode cX8_tells 110 = .ok (.invokevirtual 143, 3) := by decide +kernel
theorem dX8_tells_113 : decode cX8_tells 113 = .ok (.aload_n 0, 1) := by decide +kernel
theorem dX8_tells_114 : decode cX8_tells 114 = .ok (.getfield 65, 3) := by decide +kernel
theorem dX8_tells_117 : decode cX8_tells 117 = .ok (.iload 6, 2) := by decide +kernel
theorem dX8_tells_119 : decode cX8_tells 119 = .ok (.laload, 1) := by decide +kernel
theorem dX8_tells_120 : decode cX8_tells 120 = .ok (.lconst 1, 1) := by decide +kernel
theorem dX8_tells_121 : decode cX8_tells 121 = .ok (.lcmp, 1) := by decide +kernel
theorem dX8_tells_122 : decode cX8_tells 122 = .ok (.ifCond .eq 20, 3) := by decide +kernel
theorem dX8_tells_125 : decode cX8_tells 125 = .ok (.aload_n 0, 1) := by decide +kernel
theorem dX8_tells_126 : decode cX8_tells 126 = .ok (.bipush 47, 2) := by decide +kernel
theorem dX8_tells_128 : decode cX8_tells 128 = .ok (.invokevirtual 133, 3) := by decide +kernel
theorem dX8_tells_131 : decode cX8_tells 131 = .ok (.aload_n 0, 1) := by decide +kernel
theorem dX8_tells_132 : decode cX8_tells 132 = .ok (.aload_n 0, 1) := by decide +kernel
theorem dX8_tells_133 : decode cX8_tells 133 = .ok (.getfield 65, 3) := by decide +kernel
theorem dX8_tells_136 : decode cX8_tells 136 = .ok (.iload 6, 2) := by decide +kernel
theorem dX8_tells_138 : decode cX8_tells 138 = .ok (.laload, 1) := by decide +kernel
theorem dX8_tells_139 : decode cX8_tells 139 = .ok (.invokevirtual 143, 3) := by decide +kernel
theorem dX8_tells_142 : decode cX8_tells 142 = .ok (.goto 167, 3) := by decide +kernel
theorem dX8_tells_145 : decode cX8_tells 145 = .ok (.iload 5, 2) := by decide +kernel
theorem dX8_tells_147 : decode cX8_tells 147 = .ok (.iload_n 2, 1) := by decide +kernel
theorem dX8_tells_148 : decode cX8_tells 148 = .ok (.if_icmp .ge 25, 3) := by decide +kernel
theorem dX8_tells_151 : decode cX8_tells 151 = .ok (.aload_n 0, 1) := by decide +kernel
theorem dX8_tells_152 : decode cX8_tells 152 = .ok (.iload 5, 2) := by decide +kernel
theorem dX8_tells_154 : decode cX8_tells 154 = .ok (.i2l, 1) := by decide +kernel
theorem dX8_tells_155 : decode cX8_tells 155 = .ok (.invokevirtual 143, 3) := by decide +kernel
theorem dX8_tells_158 : decode cX8_tells 158 = .ok (.aload_n 0, 1) := by decide +kernel
theorem dX8_tells_159 : decode cX8_tells 159 = .ok (.getfield 101, 3) := by decide +kernel
theorem dX8_tells_162 : decode cX8_tells 162 = .ok (.iload 4, 2) := by decide +kernel
theorem dX8_tells_164 : decode cX8_tells 164 = .ok (.iload 5, 2) := by decide +kernel
theorem dX8_tells_166 : decode cX8_tells 166 = .ok (.iastore, 1) := by decide +kernel
theorem dX8_tells_167 : decode cX8_tells 167 = .ok (.iinc 4 1, 3) := by decide +kernel
theorem dX8_tells_170 : decode cX8_tells 170 = .ok (.goto 139, 3) := by decide +kernel
theorem dX8_tells_173 : decode cX8_tells 173 = .ok (.bipush 19, 2) := by decide +kernel
theorem dX8_tells_175 : decode cX8_tells 175 = .ok (.iload_n 1, 1) := by decide +kernel
theorem dX8_tells_176 : decode cX8_tells 176 = .ok (.imul, 1) := by decide +kernel
theorem dX8_tells_177 : decode cX8_tells 177 = .ok (.iload 5, 2) := by decide +kernel
theorem dX8_tells_179 : decode cX8_tells 179 = .ok (.iadd, 1) := by decide +kernel
theorem dX8_tells_180 : decode cX8_tells 180 = .ok (.iload_n 2, 1) := by decide +kernel
theorem dX8_tells_181 : decode cX8_tells 181 = .ok (.isub, 1) := by decide +kernel
theorem dX8_tells_182 : decode cX8_tells 182 = .ok (.istore 6, 2) := by decide +kernel
theorem dX8_tells_184 : decode cX8_tells 184 = .ok (.aload_n 0, 1) := by decide +kernel
theorem dX8_tells_185 : decode cX8_tells 185 = .ok (.iload_n 1, 1) := by decide +kernel
theorem dX8_tells_186 : decode cX8_tells 186 = .ok (.aload_n 0, 1) := by decide +kernel
theorem dX8_tells_187 : decode cX8_tells 187 = .ok (.getfield 52, 3) := by decide +kernel
theorem dX8_tells_190 : decode cX8_tells 190 = .ok (.iload 6, 2) := by decide +kernel
theorem dX8_tells_192 : decode cX8_tells 192 = .ok (.iaload, 1) := by decide +kernel
theorem dX8_tells_193 : decode cX8_tells 193 = .ok (.invokevirtual 225, 3) := by decide +kernel
theorem dX8_tells_196 : decode cX8_tells 196 = .ok (.aload_n 0, 1) := by decide +kernel
theorem dX8_tells_197 : decode cX8_tells 197 = .ok (.iload_n 1, 1) := by decide +kernel
theorem dX8_tells_198 : decode cX8_tells 198 = .ok (.aload_n 0, 1) := by decide +kernel
theorem dX8_tells_199 : decode cX8_tells 199 = .ok (.getfield 55, 3) := by decide +kernel
theorem dX8_tells_202 : decode cX8_tells 202 = .ok (.iload 6, 2) := by decide +kernel
theorem dX8_tells_204 : decode cX8_tells 204 = .ok (.iaload, 1) := by decide +kernel
theorem dX8_tells_205 : decode cX8_tells 205 = .ok (.invokevirtual 225, 3) := by decide +kernel
theorem dX8_tells_208 : decode cX8_tells 208 = .ok (.if_icmp .le 7, 3) := by decide +kernel
theorem dX8_tells_211 : decode cX8_tells 211 = .ok (.iconst 1, 1) := by decide +kernel
theorem dX8_tells_212 : decode cX8_tells 212 = .ok (.goto 4, 3) := by decide +kernel
theorem dX8_tells_215 : decode cX8_tells 215 = .ok (.iconst 0, 1) := by decide +kernel
theorem dX8_tells_216 : decode cX8_tells 216 = .ok (.istore 7, 2) := by decide +kernel
theorem dX8_tells_218 : decode cX8_tells 218 = .ok (.aload_n 0, 1) := by decide +kernel
theorem dX8_tells_219 : decode cX8_tells 219 = .ok (.bipush 40, 2) := by decide +kernel
theorem dX8_tells_221 : decode cX8_tells 221 = .ok (.invokevirtual 133, 3) := by decide +kernel
theorem dX8_tells_224 : decode cX8_tells 224 = .ok (.aload_n 0, 1) := by decide +kernel
theorem dX8_tells_225 : decode cX8_tells 225 = .ok (.getfield 98, 3) := by decide +kernel
theorem dX8_tells_228 : decode cX8_tells 228 = .ok (.iload_n 3, 1) := by decide +kernel
theorem dX8_tells_229 : decode cX8_tells 229 = .ok (.bipush (-2), 2) := by decide +kernel
theorem dX8_tells_231 : decode cX8_tells 231 = .ok (.iload 5, 2) := by decide +kernel
theorem dX8_tells_233 : decode cX8_tells 233 = .ok (.iload_n 2, 1) := by decide +kernel
theorem dX8_tells_234 : decode cX8_tells 234 = .ok (.isub, 1) := by decide +kernel
theorem dX8_tells_235 : decode cX8_tells 235 = .ok (.isub, 1) := by decide +kernel
theorem dX8_tells_236 : decode cX8_tells 236 = .ok (.iastore, 1) := by decide +kernel
theorem dX8_tells_237 : decode cX8_tells 237 = .ok (.aload_n 0, 1) := by decide +kernel
theorem dX8_tells_238 : decode cX8_tells 238 = .ok (.getfield 98, 3) := by decide +kernel
theorem dX8_tells_241 : decode cX8_tells 241 = .ok (.iload_n 3, 1) := by decide +kernel
theorem dX8_tells_242 : decode cX8_tells 242 = .ok (.iconst 1, 1) := by decide +kernel
theorem dX8_tells_243 : decode cX8_tells 243 = .ok (.iadd, 1) := by decide +kernel
theorem dX8_tells_244 : decode cX8_tells 244 = .ok (.iload 7, 2) := by decide +kernel
theorem dX8_tells_246 : decode cX8_tells 246 = .ok (.ifCond .eq 13, 3) := by decide +kernel
theorem dX8_tells_249 : decode cX8_tells 249 = .ok (.aload_n 0, 1) := by decide +kernel
theorem dX8_tells_250 : decode cX8_tells 250 = .ok (.getfield 52, 3) := by decide +kernel
theorem dX8_tells_253 : decode cX8_tells 253 = .ok (.iload 6, 2) := by decide +kernel
theorem dX8_tells_255 : decode cX8_tells 255 = .ok (.iaload, 1) := by decide +kernel
theorem dX8_tells_256 : decode cX8_tells 256 = .ok (.goto 10, 3) := by decide +kernel
theorem dX8_tells_259 : decode cX8_tells 259 = .ok (.aload_n 0, 1) := by decide +kernel
theorem dX8_tells_260 : decode cX8_tells 260 = .ok (.getfield 55, 3) := by decide +kernel
theorem dX8_tells_263 : decode cX8_tells 263 = .ok (.iload 6, 2) := by decide +kernel
theorem dX8_tells_265 : decode cX8_tells 265 = .ok (.iaload, 1) := by decide +kernel
theorem dX8_tells_266 : decode cX8_tells 266 = .ok (.iastore, 1) := by decide +kernel
theorem dX8_tells_267 : decode cX8_tells 267 = .ok (.aload_n 0, 1) := by decide +kernel
theorem dX8_tells_268 : decode cX8_tells 268 = .ok (.getfield 98, 3) := by decide +kernel
theorem dX8_tells_271 : decode cX8_tells 271 = .ok (.iload_n 3, 1) := by decide +kernel
theorem dX8_tells_272 : decode cX8_tells 272 = .ok (.iconst 2, 1) := by decide +kernel
theorem dX8_tells_273 : decode cX8_tells 273 = .ok (.iadd, 1) := by decide +kernel
theorem dX8_tells_274 : decode cX8_tells 274 = .ok (.iconst (-1), 1) := by decide +kernel
theorem dX8_tells_275 : decode cX8_tells 275 = .ok (.iastore, 1) := by decide +kernel
theorem dX8_tells_276 : decode cX8_tells 276 = .ok (.aload_n 0, 1) := by decide +kernel
theorem dX8_tells_277 : decode cX8_tells 277 = .ok (.getfield 98, 3) := by decide +kernel
theorem dX8_tells_280 : decode cX8_tells 280 = .ok (.iload_n 3, 1) := by decide +kernel
theorem dX8_tells_281 : decode cX8_tells 281 = .ok (.iconst 3, 1) := by decide +kernel
theorem dX8_tells_282 : decode cX8_tells 282 = .ok (.iadd, 1) := by decide +kernel
theorem dX8_tells_283 : decode cX8_tells 283 = .ok (.iload 7, 2) := by decide +kernel
theorem dX8_tells_285 : decode cX8_tells 285 = .ok (.ifCond .eq 13, 3) := by decide +kernel
theorem dX8_tells_288 : decode cX8_tells 288 = .ok (.aload_n 0, 1) := by decide +kernel
theorem dX8_tells_289 : decode cX8_tells 289 = .ok (.getfield 55, 3) := by decide +kernel
theorem dX8_tells_292 : decode cX8_tells 292 = .ok (.iload 6, 2) := by decide +kernel
theorem dX8_tells_294 : decode cX8_tells 294 = .ok (.iaload, 1) := by decide +kernel
theorem dX8_tells_295 : decode cX8_tells 295 = .ok (.goto 10, 3) := by decide +kernel
theorem dX8_tells_298 : decode cX8_tells 298 = .ok (.aload_n 0, 1) := by decide +kernel
theorem dX8_tells_299 : decode cX8_tells 299 = .ok (.getfield 52, 3) := by decide +kernel
theorem dX8_tells_302 : decode cX8_tells 302 = .ok (.iload 6, 2) := by decide +kernel
theorem dX8_tells_304 : decode cX8_tells 304 = .ok (.iaload, 1) := by decide +kernel
theorem dX8_tells_305 : decode cX8_tells 305 = .ok (.iastore, 1) := by decide +kernel
theorem dX8_tells_306 : decode cX8_tells 306 = .ok (.iinc 3 4, 3) := by decide +kernel
theorem dX8_tells_309 : decode cX8_tells 309 = .ok (.goto (-266), 3) := by decide +kernel
theorem dX8_tells_312 : decode cX8_tells 312 = .ok (.aload_n 0, 1) := by decide +kernel
theorem dX8_tells_313 : decode cX8_tells 313 = .ok (.bipush 59, 2) := by decide +kernel
theorem dX8_tells_315 : decode cX8_tells 315 = .ok (.invokevirtual 133, 3) := by decide +kernel
theorem dX8_tells_318 : decode cX8_tells 318 = .ok (.return_, 1) := by decide +kernel
theorem dX8_text_0 : decode cX8_text 0 = .ok (.aload_n 0, 1) := by decide +kernel
theorem dX8_text_1 : decode cX8_text 1 = .ok (.iload_n 1, 1) := by decide +kernel
theorem dX8_text_2 : decode cX8_text 2 = .ok (.invokevirtual 215, 3) := by decide +kernel
theorem dX8_text_5 : decode cX8_text 5 = .ok (.ifCond .ne 5, 3) := by decide +kernel
theorem dX8_text_8 : decode cX8_text 8 = .ok (.iconst (-1), 1) := by decide +kernel
theorem dX8_text_9 : decode cX8_text 9 = .ok (.ireturn, 1) := by decide +kernel
theorem dX8_text_10 : decode cX8_text 10 = .ok (.aload_n 0, 1) := by decide +kernel
theorem dX8_text_11 : decode cX8_text 11 = .ok (.iload_n 1, 1) := by decide +kernel
theorem dX8_text_12 : decode cX8_text 12 = .ok (.invokevirtual 228, 3) := by decide +kernel
theorem dX8_text_15 : decode cX8_text 15 = .ok (.aload_n 0, 1) := by decide +kernel
theorem dX8_text_16 : decode cX8_text 16 = .ok (.getfield 126, 3) := by decide +kernel
theorem dX8_text_19 : decode cX8_text 19 = .ok (.ireturn, 1) := by decide +kernel
theorem dX8_order_0 : decode cX8_order 0 = .ok (.aload_n 0, 1) := by decide +kernel
theorem dX8_order_1 : decode cX8_order 1 = .ok (.iload_n 1, 1) := by decide +kernel
theorem dX8_order_2 : decode cX8_order 2 = .ok (.invokevirtual 215, 3) := by decide +kernel
theorem dX8_order_5 : decode cX8_order 5 = .ok (.ifCond .eq 16, 3) := by decide +kernel
theorem dX8_order_8 : decode cX8_order 8 = .ok (.iload_n 2, 1) := by decide +kernel
theorem dX8_order_9 : decode cX8_order 9 = .ok (.aload_n 0, 1) := by decide +kernel
theorem dX8_order_10 : decode cX8_order 10 = .ok (.getfield 40, 3) := by decide +kernel
theorem dX8_order_13 : decode cX8_order 13 = .ok (.iload_n 1, 1) := by decide +kernel
theorem dX8_order_14 : decode cX8_order 14 = .ok (.iaload, 1) := by decide +kernel
theorem dX8_order_15 : decode cX8_order 15 = .ok (.invokestatic 110, 3) := by decide +kernel
theorem dX8_order_18 : decode cX8_order 18 = .ok (.ifCond .ne 5, 3) := by decide +kernel
theorem dX8_order_21 : decode cX8_order 21 = .ok (.iconst (-1), 1) := by decide +kernel
theorem dX8_order_22 : decode cX8_order 22 = .ok (.ireturn, 1) := by decide +kernel
theorem dX8_order_23 : decode cX8_order 23 = .ok (.aload_n 0, 1) := by decide +kernel
theorem dX8_order_24 : decode cX8_order 24 = .ok (.getfield 126, 3) := by decide +kernel
theorem dX8_order_27 : decode cX8_order 27 = .ok (.istore_n 3, 1) := by decide +kernel
theorem dX8_order_28 : decode cX8_order 28 = .ok (.iconst 0, 1) := by decide +kernel
theorem dX8_order_29 : decode cX8_order 29 = .ok (.istore 4, 2) := by decide +kernel
theorem dX8_order_31 : decode cX8_order 31 = .ok (.iload 4, 2) := by decide +kernel
theorem dX8_order_33 : decode cX8_order 33 = .ok (.iload_n 3, 1) := by decide +kernel
theorem dX8_order_34 : decode cX8_order 34 = .ok (.if_icmp .ge 23, 3) := by decide +kernel
theorem dX8_order_37 : decode cX8_order 37 = .ok (.aload_n 0, 1) := by decide +kernel
theorem dX8_order_38 : decode cX8_order 38 = .ok (.getfield 104, 3) := by decide +kernel
theorem dX8_order_41 : decode cX8_order 41 = .ok (.iload 4, 2) := by decide +kernel
theorem dX8_order_43 : decode cX8_order 43 = .ok (.aload_n 0, 1) := by decide +kernel
theorem dX8_order_44 : decode cX8_order 44 = .ok (.getfield 23, 3) := by decide +kernel
theorem dX8_order_47 : decode cX8_order 47 = .ok (.iload 4, 2) := by decide +kernel
theorem dX8_order_49 : decode cX8_order 49 = .ok (.baload, 1) := by decide +kernel
theorem dX8_order_50 : decode cX8_order 50 = .ok (.bastore, 1) := by decide +kernel
theorem dX8_order_51 : decode cX8_order 51 = .ok (.iinc 4 1, 3) := by decide +kernel
theorem dX8_order_54 : decode cX8_order 54 = .ok (.goto (-23), 3) := by decide +kernel
theorem dX8_order_57 : decode cX8_order 57 = .ok (.aload_n 0, 1) := by decide +kernel
theorem dX8_order_58 : decode cX8_order 58 = .ok (.iload_n 1, 1) := by decide +kernel
theorem dX8_order_59 : decode cX8_order 59 = .ok (.invokevirtual 228, 3) := by decide +kernel
theorem dX8_order_62 : decode cX8_order 62 = .ok (.iconst 0, 1) := by decide +kernel
theorem dX8_order_63 : decode cX8_order 63 = .ok (.istore 4, 2) := by decide +kernel
theorem dX8_order_65 : decode cX8_order 65 = .ok (.iload 4, 2) := by decide +kernel
theorem dX8_order_67 : decode cX8_order 67 = .ok (.iload_n 3, 1) := by decide +kernel
theorem dX8_order_68 : decode cX8_order 68 = .ok (.if_icmp .ge 23, 3) := by decide +kernel
theorem dX8_order_71 : decode cX8_order 71 = .ok (.aload_n 0, 1) := by decide +kernel
theorem dX8_order_72 : decode cX8_order 72 = .ok (.getfield 23, 3) := by decide +kernel
theorem dX8_order_75 : decode cX8_order 75 = .ok (.iload 4, 2) := by decide +kernel
theorem dX8_order_77 : decode cX8_order 77 = .ok (.aload_n 0, 1) := by decide +kernel
theorem dX8_order_78 : decode cX8_order 78 = .ok (.getfield 104, 3) := by decide +kernel
theorem dX8_order_81 : decode cX8_order 81 = .ok (.iload 4, 2) := by decide +kernel
theorem dX8_order_83 : decode cX8_order 83 = .ok (.baload, 1) := by decide +kernel
theorem dX8_order_84 : decode cX8_order 84 = .ok (.bastore, 1) := by decide +kernel
theorem dX8_order_85 : decode cX8_order 85 = .ok (.iinc 4 1, 3) := by decide +kernel
theorem dX8_order_88 : decode cX8_order 88 = .ok (.goto (-23), 3) := by decide +kernel
theorem dX8_order_91 : decode cX8_order 91 = .ok (.aload_n 0, 1) := by decide +kernel
theorem dX8_order_92 : decode cX8_order 92 = .ok (.iload_n 3, 1) := by decide +kernel
theorem dX8_order_93 : decode cX8_order 93 = .ok (.putfield 126, 3) := by decide +kernel
theorem dX8_order_96 : decode cX8_order 96 = .ok (.aload_n 0, 1) := by decide +kernel
theorem dX8_order_97 : decode cX8_order 97 = .ok (.getfield 101, 3) := by decide +kernel
theorem dX8_order_100 : decode cX8_order 100 = .ok (.iload_n 2, 1) := by decide +kernel
theorem dX8_order_101 : decode cX8_order 101 = .ok (.iaload, 1) := by decide +kernel
theorem dX8_order_102 : decode cX8_order 102 = .ok (.ireturn, 1) := by decide +kernel
theorem dX8_labelled_0 : decode cX8_labelled 0 = .ok (.aload_n 0, 1) := by decide +kernel
theorem dX8_labelled_1 : decode cX8_labelled 1 = .ok (.getfield 40, 3) := by decide +kernel
theorem dX8_labelled_4 : decode cX8_labelled 4 = .ok (.iload_n 1, 1) := by decide +kernel
theorem dX8_labelled_5 : decode cX8_labelled 5 = .ok (.iaload, 1) := by decide +kernel
theorem dX8_labelled_6 : decode cX8_labelled 6 = .ok (.istore_n 3, 1) := by decide +kernel
theorem dX8_labelled_7 : decode cX8_labelled 7 = .ok (.iconst 0, 1) := by decide +kernel
theorem dX8_labelled_8 : decode cX8_labelled 8 = .ok (.istore 4, 2) := by decide +kernel
theorem dX8_labelled_10 : decode cX8_labelled 10 = .ok (.iconst 0, 1) := by decide +kernel
theorem dX8_labelled_11 : decode cX8_labelled 11 = .ok (.istore 5, 2) := by decide +kernel
theorem dX8_labelled_13 : decode cX8_labelled 13 = .ok (.iload 5, 2) := by decide +kernel
theorem dX8_labelled_15 : decode cX8_labelled 15 = .ok (.iload_n 3, 1) := by decide +kernel
theorem dX8_labelled_16 : decode cX8_labelled 16 = .ok (.if_icmp .ge 152, 3) := by decide +kernel
theorem dX8_labelled_19 : decode cX8_labelled 19 = .ok (.iconst 1, 1) := by decide +kernel
theorem dX8_labelled_20 : decode cX8_labelled 20 = .ok (.iload 5, 2) := by decide +kernel
theorem dX8_labelled_22 : decode cX8_labelled 22 = .ok (.ishl, 1) := by decide +kernel
theorem dX8_labelled_23 : decode cX8_labelled 23 = .ok (.istore 6, 2) := by decide +kernel
theorem dX8_labelled_25 : decode cX8_labelled 25 = .ok (.iconst 0, 1) := by decide +kernel
theorem dX8_labelled_26 : decode cX8_labelled 26 = .ok (.istore 7, 2) := by decide +kernel
theorem dX8_labelled_28 : decode cX8_labelled 28 = .ok (.iload 7, 2) := by decide +kernel
theorem dX8_labelled_30 : decode cX8_labelled 30 = .ok (.aload_n 0, 1) := by decide +kernel
theorem dX8_labelled_31 : decode cX8_labelled 31 = .ok (.iload_n 1, 1) := by decide +kernel
theorem dX8_labelled_32 : decode cX8_labelled 32 = .ok (.invokevirtual 219, 3) := by decide +kernel
theorem dX8_labelled_35 : decode cX8_labelled 35 = .ok (.if_icmp .ge 57, 3) := by decide +kernel
theorem dX8_labelled_38 : decode cX8_labelled 38 = .ok (.iload_n 2, 1) := by decide +kernel
theorem dX8_labelled_39 : decode cX8_labelled 39 = .ok (.iload 7, 2) := by decide +kernel
theorem dX8_labelled_41 : decode cX8_labelled 41 = .ok (.ishr, 1) := by decide +kernel
theorem dX8_labelled_42 : decode cX8_labelled 42 = .ok (.iconst 1, 1) := by decide +kernel
theorem dX8_labelled_43 : decode cX8_labelled 43 = .ok (.iand, 1) := by decide +kernel
theorem dX8_labelled_44 : decode cX8_labelled 44 = .ok (.iconst 1, 1) := by decide +kernel
theorem dX8_labelled_45 : decode cX8_labelled 45 = .ok (.if_icmp .ne 41, 3) := by decide +kernel
theorem dX8_labelled_48 : decode cX8_labelled 48 = .ok (.aload_n 0, 1) := by decide +kernel
theorem dX8_labelled_49 : decode cX8_labelled 49 = .ok (.getfield 58, 3) := by decide +kernel
theorem dX8_labelled_52 : decode cX8_labelled 52 = .ok (.bipush 19, 2) := by decide +kernel
theorem dX8_labelled_54 : decode cX8_labelled 54 = .ok (.iload_n 1, 1) := by decide +kernel
theorem dX8_labelled_55 : decode cX8_labelled 55 = .ok (.imul, 1) := by decide +kernel
theorem dX8_labelled_56 : decode cX8_labelled 56 = .ok (.iload 7, 2) := by decide +kernel
theorem dX8_labelled_58 : decode cX8_labelled 58 = .ok (.iadd, 1) := by decide +kernel
theorem dX8_labelled_59 : decode cX8_labelled 59 = .ok (.iaload, 1) := by decide +kernel
theorem dX8_labelled_60 : decode cX8_labelled 60 = .ok (.iload 5, 2) := by decide +kernel
theorem dX8_labelled_62 : decode cX8_labelled 62 = .ok (.ishr, 1) := by decide +kernel
theorem dX8_labelled_63 : decode cX8_labelled 63 = .ok (.iconst 1, 1) := by decide +kernel
theorem dX8_labelled_64 : decode cX8_labelled 64 = .ok (.iand, 1) := by decide +kernel
theorem dX8_labelled_65 : decode cX8_labelled 65 = .ok (.iconst 1, 1) := by decide +kernel
theorem dX8_labelled_66 : decode cX8_labelled 66 = .ok (.if_icmp .ne 20, 3) := by decide +kernel
theorem dX8_labelled_69 : decode cX8_labelled 69 = .ok (.iload 6, 2) := by decide +kernel
theorem dX8_labelled_71 : decode cX8_labelled 71 = .ok (.aload_n 0, 1) := by decide +kernel
theorem dX8_labelled_72 : decode cX8_labelled 72 = .ok (.getfield 58, 3) := by decide +kernel
theorem dX8_labelled_75 : decode cX8_labelled 75 = .ok (.bipush 19, 2) := by decide +kernel
theorem dX8_labelled_77 : decode cX8_labelled 77 = .ok (.iload_n 1, 1) := by decide +kernel
theorem dX8_labelled_78 : decode cX8_labelled 78 = .ok (.imul, 1) := by decide +kernel
theorem dX8_labelled_79 : decode cX8_labelled 79 = .ok (.iload 7, 2) := by decide +kernel
theorem dX8_labelled_81 : decode cX8_labelled 81 = .ok (.iadd, 1) := by decide +kernel
theorem dX8_labelled_82 : decode cX8_labelled 82 = .ok (.iaload, 1) := by decide +kernel
theorem dX8_labelled_83 : decode cX8_labelled 83 = .ok (.ior, 1) := by decide +kernel
theorem dX8_labelled_84 : decode cX8_labelled 84 = .ok (.istore 6, 2) := by decide +kernel
theorem dX8_labelled_86 : decode cX8_labelled 86 = .ok (.iinc 7 1, 3) := by decide +kernel
theorem dX8_labelled_89 : decode cX8_labelled 89 = .ok (.goto (-61), 3) := by decide +kernel
theorem dX8_labelled_92 : decode cX8_labelled 92 = .ok (.iconst 0, 1) := by decide +kernel
theorem dX8_labelled_93 : decode cX8_labelled 93 = .ok (.istore 7, 2) := by decide +kernel
theorem dX8_labelled_95 : decode cX8_labelled 95 = .ok (.iload 6, 2) := by decide +kernel
theorem dX8_labelled_97 : decode cX8_labelled 97 = .ok (.iload 7, 2) := by decide +kernel
theorem dX8_labelled_99 : decode cX8_labelled 99 = .ok (.ishr, 1) := by decide +kernel
theorem dX8_labelled_100 : decode cX8_labelled 100 = .ok (.iconst 1, 1) := by decide +kernel
theorem dX8_labelled_101 : decode cX8_labelled 101 = .ok (.iand, 1) := by decide +kernel
theorem dX8_labelled_102 : decode cX8_labelled 102 = .ok (.ifCond .ne 9, 3) := by decide +kernel
theorem dX8_labelled_105 : decode cX8_labelled 105 = .ok (.iinc 7 1, 3) := by decide +kernel
theorem dX8_labelled_108 : decode cX8_labelled 108 = .ok (.goto (-13), 3) := by decide +kernel
theorem dX8_labelled_111 : decode cX8_labelled 111 = .ok (.iload 7, 2) := by decide +kernel
theorem dX8_labelled_113 : decode cX8_labelled 113 = .ok (.iload 5, 2) := by decide +kernel
theorem dX8_labelled_115 : decode cX8_labelled 115 = .ok (.if_icmp .ne 23, 3) := by decide +kernel
theorem dX8_labelled_118 : decode cX8_labelled 118 = .ok (.aload_n 0, 1) := by decide +kernel
theorem dX8_labelled_119 : decode cX8_labelled 119 = .ok (.getfield 68, 3) := by decide +kernel
theorem dX8_labelled_122 : decode cX8_labelled 122 = .ok (.bipush 20, 2) := by decide +kernel
theorem dX8_labelled_124 : decode cX8_labelled 124 = .ok (.iload_n 1, 1) := by decide +kernel
theorem dX8_labelled_125 : decode cX8_labelled 125 = .ok (.imul, 1) := by decide +kernel
theorem dX8_labelled_126 : decode cX8_labelled 126 = .ok (.iload 5, 2) := by decide +kernel
theorem dX8_labelled_128 : decode cX8_labelled 128 = .ok (.iadd, 1) := by decide +kernel
theorem dX8_labelled_129 : decode cX8_labelled 129 = .ok (.iload 4, 2) := by decide +kernel
theorem dX8_labelled_131 : decode cX8_labelled 131 = .ok (.iastore, 1) := by decide +kernel
theorem dX8_labelled_132 : decode cX8_labelled 132 = .ok (.iinc 4 1, 3) := by decide +kernel
theorem dX8_labelled_135 : decode cX8_labelled 135 = .ok (.goto 27, 3) := by decide +kernel
theorem dX8_labelled_138 : decode cX8_labelled 138 = .ok (.aload_n 0, 1) := by decide +kernel
theorem dX8_labelled_139 : decode cX8_labelled 139 = .ok (.getfield 68, 3) := by decide +kernel
theorem dX8_labelled_142 : decode cX8_labelled 142 = .ok (.bipush 20, 2) := by decide +kernel
theorem dX8_labelled_144 : decode cX8_labelled 144 = .ok (.iload_n 1, 1) := by decide +kernel
theorem dX8_labelled_145 : decode cX8_labelled 145 = .ok (.imul, 1) := by decide +kernel
theorem dX8_labelled_146 : decode cX8_labelled 146 = .ok (.iload 5, 2) := by decide +kernel
theorem dX8_labelled_148 : decode cX8_labelled 148 = .ok (.iadd, 1) := by decide +kernel
theorem dX8_labelled_149 : decode cX8_labelled 149 = .ok (.aload_n 0, 1) := by decide +kernel
theorem dX8_labelled_150 : decode cX8_labelled 150 = .ok (.getfield 68, 3) := by decide +kernel
theorem dX8_labelled_153 : decode cX8_labelled 153 = .ok (.bipush 20, 2) := by decide +kernel
theorem dX8_labelled_155 : decode cX8_labelled 155 = .ok (.iload_n 1, 1) := by decide +kernel
theorem dX8_labelled_156 : decode cX8_labelled 156 = .ok (.imul, 1) := by decide +kernel
theorem dX8_labelled_157 : decode cX8_labelled 157 = .ok (.iload 7, 2) := by decide +kernel
theorem dX8_labelled_159 : decode cX8_labelled 159 = .ok (.iadd, 1) := by decide +kernel
theorem dX8_labelled_160 : decode cX8_labelled 160 = .ok (.iaload, 1) := by decide +kernel
theorem dX8_labelled_161 : decode cX8_labelled 161 = .ok (.iastore, 1) := by decide +kernel
theorem dX8_labelled_162 : decode cX8_labelled 162 = .ok (.iinc 5 1, 3) := by decide +kernel
theorem dX8_labelled_165 : decode cX8_labelled 165 = .ok (.goto (-152), 3) := by decide +kernel
theorem dX8_labelled_168 : decode cX8_labelled 168 = .ok (.iload 4, 2) := by decide +kernel
theorem dX8_labelled_170 : decode cX8_labelled 170 = .ok (.ireturn, 1) := by decide +kernel
theorem dX8_cut_0 : decode cX8_cut 0 = .ok (.aload_n 0, 1) := by decide +kernel
theorem dX8_cut_1 : decode cX8_cut 1 = .ok (.iload_n 1, 1) := by decide +kernel
theorem dX8_cut_2 : decode cX8_cut 2 = .ok (.invokevirtual 215, 3) := by decide +kernel
theorem dX8_cut_5 : decode cX8_cut 5 = .ok (.ifCond .ne 5, 3) := by decide +kernel
theorem dX8_cut_8 : decode cX8_cut 8 = .ok (.iconst (-1), 1) := by decide +kernel
theorem dX8_cut_9 : decode cX8_cut 9 = .ok (.ireturn, 1) := by decide +kernel
theorem dX8_cut_10 : decode cX8_cut 10 = .ok (.aload_n 0, 1) := by decide +kernel
theorem dX8_cut_11 : decode cX8_cut 11 = .ok (.getfield 40, 3) := by decide +kernel
theorem dX8_cut_14 : decode cX8_cut 14 = .ok (.iload_n 1, 1) := by decide +kernel
theorem dX8_cut_15 : decode cX8_cut 15 = .ok (.iaload, 1) := by decide +kernel
theorem dX8_cut_16 : decode cX8_cut 16 = .ok (.istore_n 3, 1) := by decide +kernel
theorem dX8_cut_17 : decode cX8_cut 17 = .ok (.iload_n 3, 1) := by decide +kernel
theorem dX8_cut_18 : decode cX8_cut 18 = .ok (.ifCond .ne 10, 3) := by decide +kernel
theorem dX8_cut_21 : decode cX8_cut 21 = .ok (.iload_n 2, 1) := by decide +kernel
theorem dX8_cut_22 : decode cX8_cut 22 = .ok (.ifCond .eq 18, 3) := by decide +kernel
theorem dX8_cut_25 : decode cX8_cut 25 = .ok (.goto 13, 3) := by decide +kernel
theorem dX8_cut_28 : decode cX8_cut 28 = .ok (.iload_n 2, 1) := by decide +kernel
theorem dX8_cut_29 : decode cX8_cut 29 = .ok (.iconst 1, 1) := by decide +kernel
theorem dX8_cut_30 : decode cX8_cut 30 = .ok (.if_icmp .lt 8, 3) := by decide +kernel
theorem dX8_cut_33 : decode cX8_cut 33 = .ok (.iload_n 2, 1) := by decide +kernel
theorem dX8_cut_34 : decode cX8_cut 34 = .ok (.iload_n 3, 1) := by decide +kernel
theorem dX8_cut_35 : decode cX8_cut 35 = .ok (.if_icmp .le 5, 3) := by decide +kernel
theorem dX8_cut_38 : decode cX8_cut 38 = .ok (.iconst (-1), 1) := by decide +kernel
theorem dX8_cut_39 : decode cX8_cut 39 = .ok (.ireturn, 1) := by decide +kernel
theorem dX8_cut_40 : decode cX8_cut 40 = .ok (.iload_n 3, 1) := by decide +kernel
theorem dX8_cut_41 : decode cX8_cut 41 = .ok (.ifCond .ne 5, 3) := by decide +kernel
theorem dX8_cut_44 : decode cX8_cut 44 = .ok (.iconst 0, 1) := by decide +kernel
theorem dX8_cut_45 : decode cX8_cut 45 = .ok (.ireturn, 1) := by decide +kernel
theorem dX8_cut_46 : decode cX8_cut 46 = .ok (.aload_n 0, 1) := by decide +kernel
theorem dX8_cut_47 : decode cX8_cut 47 = .ok (.iload_n 1, 1) := by decide +kernel
theorem dX8_cut_48 : decode cX8_cut 48 = .ok (.iconst 1, 1) := by decide +kernel
theorem dX8_cut_49 : decode cX8_cut 49 = .ok (.iload_n 3, 1) := by decide +kernel
theorem dX8_cut_50 : decode cX8_cut 50 = .ok (.iload_n 2, 1) := by decide +kernel
theorem dX8_cut_51 : decode cX8_cut 51 = .ok (.isub, 1) := by decide +kernel
theorem dX8_cut_52 : decode cX8_cut 52 = .ok (.ishl, 1) := by decide +kernel
theorem dX8_cut_53 : decode cX8_cut 53 = .ok (.iconst 1, 1) := by decide +kernel
theorem dX8_cut_54 : decode cX8_cut 54 = .ok (.isub, 1) := by decide +kernel
theorem dX8_cut_55 : decode cX8_cut 55 = .ok (.invokevirtual 231, 3) := by decide +kernel
theorem dX8_cut_58 : decode cX8_cut 58 = .ok (.ireturn, 1) := by decide +kernel
theorem dX8_cutAt_0 : decode cX8_cutAt 0 = .ok (.aload_n 0, 1) := by decide +kernel
theorem dX8_cutAt_1 : decode cX8_cutAt 1 = .ok (.iload_n 1, 1) := by decide +kernel
theorem dX8_cutAt_2 : decode cX8_cutAt 2 = .ok (.invokevirtual 215, 3) := by decide +kernel
theorem dX8_cutAt_5 : decode cX8_cutAt 5 = .ok (.ifCond .eq 25, 3) := by decide +kernel
theorem dX8_cutAt_8 : decode cX8_cutAt 8 = .ok (.iload_n 2, 1) := by decide +kernel
theorem dX8_cutAt_9 : decode cX8_cutAt 9 = .ok (.ifCond .lt 21, 3) := by decide +kernel
theorem dX8_cutAt_12 : decode cX8_cutAt 12 = .ok (.iload_n 2, 1) := by decide +kernel
theorem dX8_cutAt_13 : decode cX8_cutAt 13 = .ok (.ldc 234, 2) := by decide +kernel
theorem dX8_cutAt_15 : decode cX8_cutAt 15 = .ok (.if_icmp .gt 15, 3) := by decide +kernel
theorem dX8_cutAt_18 : decode cX8_cutAt 18 = .ok (.iload_n 3, 1) := by decide +kernel
theorem dX8_cutAt_19 : decode cX8_cutAt 19 = .ok (.iconst 1, 1) := by decide +kernel
theorem dX8_cutAt_20 : decode cX8_cutAt 20 = .ok (.if_icmp .lt 10, 3) := by decide +kernel
theorem dX8_cutAt_23 : decode cX8_cutAt 23 = .ok (.iload_n 3, 1) := by decide +kernel
theorem dX8_cutAt_24 : decode cX8_cutAt 24 = .ok (.sipush 1000, 3) := by decide +kernel
theorem dX8_cutAt_27 : decode cX8_cutAt 27 = .ok (.if_icmp .le 5, 3) := by decide +kernel
theorem dX8_cutAt_30 : decode cX8_cutAt 30 = .ok (.iconst (-1), 1) := by decide +kernel
theorem dX8_cutAt_31 : decode cX8_cutAt 31 = .ok (.ireturn, 1) := by decide +kernel
theorem dX8_cutAt_32 : decode cX8_cutAt 32 = .ok (.iconst 0, 1) := by decide +kernel
theorem dX8_cutAt_33 : decode cX8_cutAt 33 = .ok (.istore 4, 2) := by decide +kernel
theorem dX8_cutAt_35 : decode cX8_cutAt 35 = .ok (.iconst 0, 1) := by decide +kernel
theorem dX8_cutAt_36 : decode cX8_cutAt 36 = .ok (.istore 5, 2) := by decide +kernel
theorem dX8_cutAt_38 : decode cX8_cutAt 38 = .ok (.iload 5, 2) := by decide +kernel
theorem dX8_cutAt_40 : decode cX8_cutAt 40 = .ok (.aload_n 0, 1) := by decide +kernel
theorem dX8_cutAt_41 : decode cX8_cutAt 41 = .ok (.iload_n 1, 1) := by decide +kernel
theorem dX8_cutAt_42 : decode cX8_cutAt 42 = .ok (.invokevirtual 219, 3) := by decide +kernel
theorem dX8_cutAt_45 : decode cX8_cutAt 45 = .ok (.if_icmp .ge 52, 3) := by decide +kernel
theorem dX8_cutAt_48 : decode cX8_cutAt 48 = .ok (.aload_n 0, 1) := by decide +kernel
theorem dX8_cutAt_49 : decode cX8_cutAt 49 = .ok (.getfield 61, 3) := by decide +kernel
theorem dX8_cutAt_52 : decode cX8_cutAt 52 = .ok (.bipush 19, 2) := by decide +kernel
theorem dX8_cutAt_54 : decode cX8_cutAt 54 = .ok (.iload_n 1, 1) := by decide +kernel
theorem dX8_cutAt_55 : decode cX8_cutAt 55 = .ok (.imul, 1) := by decide +kernel
theorem dX8_cutAt_56 : decode cX8_cutAt 56 = .ok (.iload 5, 2) := by decide +kernel
theorem dX8_cutAt_58 : decode cX8_cutAt 58 = .ok (.iadd, 1) := by decide +kernel
theorem dX8_cutAt_59 : decode cX8_cutAt 59 = .ok (.laload, 1) := by decide +kernel
theorem dX8_cutAt_60 : decode cX8_cutAt 60 = .ok (.aload_n 0, 1) := by decide +kernel
theorem dX8_cutAt_61 : decode cX8_cutAt 61 = .ok (.getfield 65, 3) := by decide +kernel
theorem dX8_cutAt_64 : decode cX8_cutAt 64 = .ok (.bipush 19, 2) := by decide +kernel
theorem dX8_cutAt_66 : decode cX8_cutAt 66 = .ok (.iload_n 1, 1) := by decide +kernel
theorem dX8_cutAt_67 : decode cX8_cutAt 67 = .ok (.imul, 1) := by decide +kernel
theorem dX8_cutAt_68 : decode cX8_cutAt 68 = .ok (.iload 5, 2) := by decide +kernel
theorem dX8_cutAt_70 : decode cX8_cutAt 70 = .ok (.iadd, 1) := by decide +kernel
theorem dX8_cutAt_71 : decode cX8_cutAt 71 = .ok (.laload, 1) := by decide +kernel
theorem dX8_cutAt_72 : decode cX8_cutAt 72 = .ok (.iload_n 2, 1) := by decide +kernel
theorem dX8_cutAt_73 : decode cX8_cutAt 73 = .ok (.i2l, 1) := by decide +kernel
theorem dX8_cutAt_74 : decode cX8_cutAt 74 = .ok (.iload_n 3, 1) := by decide +kernel
theorem dX8_cutAt_75 : decode cX8_cutAt 75 = .ok (.i2l, 1) := by decide +kernel
theorem dX8_cutAt_76 : decode cX8_cutAt 76 = .ok (.invokestatic 191, 3) := by decide +kernel
theorem dX8_cutAt_79 : decode cX8_cutAt 79 = .ok (.ifCond .gt 12, 3) := by decide +kernel
theorem dX8_cutAt_82 : decode cX8_cutAt 82 = .ok (.iload 4, 2) := by decide +kernel
theorem dX8_cutAt_84 : decode cX8_cutAt 84 = .ok (.iconst 1, 1) := by decide +kernel
theorem dX8_cutAt_85 : decode cX8_cutAt 85 = .ok (.iload 5, 2) := by decide +kernel
theorem dX8_cutAt_87 : decode cX8_cutAt 87 = .ok (.ishl, 1) := by decide +kernel
theorem dX8_cutAt_88 : decode cX8_cutAt 88 = .ok (.ior, 1) := by decide +kernel
theorem dX8_cutAt_89 : decode cX8_cutAt 89 = .ok (.istore 4, 2) := by decide +kernel
theorem dX8_cutAt_91 : decode cX8_cutAt 91 = .ok (.iinc 5 1, 3) := by decide +kernel
theorem dX8_cutAt_94 : decode cX8_cutAt 94 = .ok (.goto (-56), 3) := by decide +kernel
theorem dX8_cutAt_97 : decode cX8_cutAt 97 = .ok (.aload_n 0, 1) := by decide +kernel
theorem dX8_cutAt_98 : decode cX8_cutAt 98 = .ok (.iload_n 1, 1) := by decide +kernel
theorem dX8_cutAt_99 : decode cX8_cutAt 99 = .ok (.iload 4, 2) := by decide +kernel
theorem dX8_cutAt_101 : decode cX8_cutAt 101 = .ok (.invokevirtual 231, 3) := by decide +kernel
theorem dX8_cutAt_104 : decode cX8_cutAt 104 = .ok (.ireturn, 1) := by decide +kernel
theorem dX8_label_0 : decode cX8_label 0 = .ok (.aload_n 0, 1) := by decide +kernel
theorem dX8_label_1 : decode cX8_label 1 = .ok (.iload_n 1, 1) := by decide +kernel
theorem dX8_label_2 : decode cX8_label 2 = .ok (.invokevirtual 215, 3) := by decide +kernel
theorem dX8_label_5 : decode cX8_label 5 = .ok (.ifCond .eq 30, 3) := by decide +kernel
theorem dX8_label_8 : decode cX8_label 8 = .ok (.iload_n 2, 1) := by decide +kernel
theorem dX8_label_9 : decode cX8_label 9 = .ok (.aload_n 0, 1) := by decide +kernel
theorem dX8_label_10 : decode cX8_label 10 = .ok (.getfield 40, 3) := by decide +kernel
theorem dX8_label_13 : decode cX8_label 13 = .ok (.iload_n 1, 1) := by decide +kernel
theorem dX8_label_14 : decode cX8_label 14 = .ok (.iaload, 1) := by decide +kernel
theorem dX8_label_15 : decode cX8_label 15 = .ok (.invokestatic 110, 3) := by decide +kernel
theorem dX8_label_18 : decode cX8_label 18 = .ok (.ifCond .eq 17, 3) := by decide +kernel
theorem dX8_label_21 : decode cX8_label 21 = .ok (.aload_n 0, 1) := by decide +kernel
theorem dX8_label_22 : decode cX8_label 22 = .ok (.getfield 68, 3) := by decide +kernel
theorem dX8_label_25 : decode cX8_label 25 = .ok (.bipush 20, 2) := by decide +kernel
theorem dX8_label_27 : decode cX8_label 27 = .ok (.iload_n 1, 1) := by decide +kernel
theorem dX8_label_28 : decode cX8_label 28 = .ok (.imul, 1) := by decide +kernel
theorem dX8_label_29 : decode cX8_label 29 = .ok (.iload_n 2, 1) := by decide +kernel
theorem dX8_label_30 : decode cX8_label 30 = .ok (.iadd, 1) := by decide +kernel
theorem dX8_label_31 : decode cX8_label 31 = .ok (.iaload, 1) := by decide +kernel
theorem dX8_label_32 : decode cX8_label 32 = .ok (.goto 4, 3) := by decide +kernel
theorem dX8_label_35 : decode cX8_label 35 = .ok (.iconst (-1), 1) := by decide +kernel
theorem dX8_label_36 : decode cX8_label 36 = .ok (.ireturn, 1) := by decide +kernel
theorem dX8_agree_0 : decode cX8_agree 0 = .ok (.aload_n 0, 1) := by decide +kernel
theorem dX8_agree_1 : decode cX8_agree 1 = .ok (.iload_n 1, 1) := by decide +kernel
theorem dX8_agree_2 : decode cX8_agree 2 = .ok (.invokevirtual 215, 3) := by decide +kernel
theorem dX8_agree_5 : decode cX8_agree 5 = .ok (.ifCond .eq 26, 3) := by decide +kernel
theorem dX8_agree_8 : decode cX8_agree 8 = .ok (.aload_n 0, 1) := by decide +kernel
theorem dX8_agree_9 : decode cX8_agree 9 = .ok (.iload_n 2, 1) := by decide +kernel
theorem dX8_agree_10 : decode cX8_agree 10 = .ok (.invokevirtual 215, 3) := by decide +kernel
theorem dX8_agree_13 : decode cX8_agree 13 = .ok (.ifCond .eq 18, 3) := by decide +kernel
theorem dX8_agree_16 : decode cX8_agree 16 = .ok (.aload_n 0, 1) := by decide +kernel
theorem dX8_agree_17 : decode cX8_agree 17 = .ok (.getfield 40, 3) := by decide +kernel
theorem dX8_agree_20 : decode cX8_agree 20 = .ok (.iload_n 1, 1) := by decide +kernel
theorem dX8_agree_21 : decode cX8_agree 21 = .ok (.iaload, 1) := by decide +kernel
theorem dX8_agree_22 : decode cX8_agree 22 = .ok (.aload_n 0, 1) := by decide +kernel
theorem dX8_agree_23 : decode cX8_agree 23 = .ok (.getfield 40, 3) := by decide +kernel
theorem dX8_agree_26 : decode cX8_agree 26 = .ok (.iload_n 2, 1) := by decide +kernel
theorem dX8_agree_27 : decode cX8_agree 27 = .ok (.iaload, 1) := by decide +kernel
theorem dX8_agree_28 : decode cX8_agree 28 = .ok (.if_icmp .eq 5, 3) := by decide +kernel
theorem dX8_agree_31 : decode cX8_agree 31 = .ok (.iconst (-1), 1) := by decide +kernel
theorem dX8_agree_32 : decode cX8_agree 32 = .ok (.ireturn, 1) := by decide +kernel
theorem dX8_agree_33 : decode cX8_agree 33 = .ok (.iconst 0, 1) := by decide +kernel
theorem dX8_agree_34 : decode cX8_agree 34 = .ok (.istore_n 3, 1) := by decide +kernel
theorem dX8_agree_35 : decode cX8_agree 35 = .ok (.iconst 0, 1) := by decide +kernel
theorem dX8_agree_36 : decode cX8_agree 36 = .ok (.istore 4, 2) := by decide +kernel
theorem dX8_agree_38 : decode cX8_agree 38 = .ok (.iload 4, 2) := by decide +kernel
theorem dX8_agree_40 : decode cX8_agree 40 = .ok (.aload_n 0, 1) := by decide +kernel
theorem dX8_agree_41 : decode cX8_agree 41 = .ok (.getfield 40, 3) := by decide +kernel
theorem dX8_agree_44 : decode cX8_agree 44 = .ok (.iload_n 1, 1) := by decide +kernel
theorem dX8_agree_45 : decode cX8_agree 45 = .ok (.iaload, 1) := by decide +kernel
theorem dX8_agree_46 : decode cX8_agree 46 = .ok (.if_icmp .ge 108, 3) := by decide +kernel
theorem dX8_agree_49 : decode cX8_agree 49 = .ok (.iconst 0, 1) := by decide +kernel
theorem dX8_agree_50 : decode cX8_agree 50 = .ok (.istore 5, 2) := by decide +kernel
theorem dX8_agree_52 : decode cX8_agree 52 = .ok (.iload 5, 2) := by decide +kernel
theorem dX8_agree_54 : decode cX8_agree 54 = .ok (.iload 4, 2) := by decide +kernel
theorem dX8_agree_56 : decode cX8_agree 56 = .ok (.if_icmp .ge 92, 3) := by decide +kernel
theorem dX8_agree_59 : decode cX8_agree 59 = .ok (.aload_n 0, 1) := by decide +kernel
theorem dX8_agree_60 : decode cX8_agree 60 = .ok (.getfield 68, 3) := by decide +kernel
theorem dX8_agree_63 : decode cX8_agree 63 = .ok (.bipush 20, 2) := by decide +kernel
theorem dX8_agree_65 : decode cX8_agree 65 = .ok (.iload_n 1, 1) := by decide +kernel
theorem dX8_agree_66 : decode cX8_agree 66 = .ok (.imul, 1) := by decide +kernel
theorem dX8_agree_67 : decode cX8_agree 67 = .ok (.iload 4, 2) := by decide +kernel
theorem dX8_agree_69 : decode cX8_agree 69 = .ok (.iadd, 1) := by decide +kernel
theorem dX8_agree_70 : decode cX8_agree 70 = .ok (.iaload, 1) := by decide +kernel
theorem dX8_agree_71 : decode cX8_agree 71 = .ok (.aload_n 0, 1) := by decide +kernel
theorem dX8_agree_72 : decode cX8_agree 72 = .ok (.getfield 68, 3) := by decide +kernel
theorem dX8_agree_75 : decode cX8_agree 75 = .ok (.bipush 20, 2) := by decide +kernel
theorem dX8_agree_77 : decode cX8_agree 77 = .ok (.iload_n 1, 1) := by decide +kernel
theorem dX8_agree_78 : decode cX8_agree 78 = .ok (.imul, 1) := by decide +kernel
theorem dX8_agree_79 : decode cX8_agree 79 = .ok (.iload 5, 2) := by decide +kernel
theorem dX8_agree_81 : decode cX8_agree 81 = .ok (.iadd, 1) := by decide +kernel
theorem dX8_agree_82 : decode cX8_agree 82 = .ok (.iaload, 1) := by decide +kernel
theorem dX8_agree_83 : decode cX8_agree 83 = .ok (.if_icmp .ne 7, 3) := by decide +kernel
theorem dX8_agree_86 : decode cX8_agree 86 = .ok (.iconst 1, 1) := by decide +kernel
theorem dX8_agree_87 : decode cX8_agree 87 = .ok (.goto 4, 3) := by decide +kernel
theorem dX8_agree_90 : decode cX8_agree 90 = .ok (.iconst 0, 1) := by decide +kernel
theorem dX8_agree_91 : decode cX8_agree 91 = .ok (.istore 6, 2) := by decide +kernel
theorem dX8_agree_93 : decode cX8_agree 93 = .ok (.aload_n 0, 1) := by decide +kernel
theorem dX8_agree_94 : decode cX8_agree 94 = .ok (.getfield 68, 3) := by decide +kernel
theorem dX8_agree_97 : decode cX8_agree 97 = .ok (.bipush 20, 2) := by decide +kernel
theorem dX8_agree_99 : decode cX8_agree 99 = .ok (.iload_n 2, 1) := by decide +kernel
theorem dX8_agree_100 : decode cX8_agree 100 = .ok (.imul, 1) := by decide +kernel
theorem dX8_agree_101 : decode cX8_agree 101 = .ok (.iload 4, 2) := by decide +kernel
theorem dX8_agree_103 : decode cX8_agree 103 = .ok (.iadd, 1) := by decide +kernel
theorem dX8_agree_104 : decode cX8_agree 104 = .ok (.iaload, 1) := by decide +kernel
theorem dX8_agree_105 : decode cX8_agree 105 = .ok (.aload_n 0, 1) := by decide +kernel
theorem dX8_agree_106 : decode cX8_agree 106 = .ok (.getfield 68, 3) := by decide +kernel
theorem dX8_agree_109 : decode cX8_agree 109 = .ok (.bipush 20, 2) := by decide +kernel
