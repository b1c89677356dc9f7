theorem dX7_init_0 : decode cX7_init 0 = .ok (.aload_n 0, 1) := by decide +kernel
theorem dX7_init_1 : decode cX7_init 1 = .ok (.invokespecial 3, 3) := by decide +kernel
theorem dX7_init_4 : decode cX7_init 4 = .ok (.aload_n 0, 1) := by decide +kernel
theorem dX7_init_5 : decode cX7_init 5 = .ok (.new 9, 3) := by decide +kernel
theorem dX7_init_8 : decode cX7_init 8 = .ok (.dup, 1) := by decide +kernel
theorem dX7_init_9 : decode cX7_init 9 = .ok (.invokespecial 11, 3) := by decide +kernel
theorem dX7_init_12 : decode cX7_init 12 = .ok (.putfield 12, 3) := by decide +kernel
theorem dX7_init_15 : decode cX7_init 15 = .ok (.aload_n 0, 1) := by decide +kernel
theorem dX7_init_16 : decode cX7_init 16 = .ok (.new 16, 3) := by decide +kernel
theorem dX7_init_19 : decode cX7_init 19 = .ok (.dup, 1) := by decide +kernel
theorem dX7_init_20 : decode cX7_init 20 = .ok (.invokespecial 18, 3) := by decide +kernel
theorem dX7_init_23 : decode cX7_init 23 = .ok (.putfield 19, 3) := by decide +kernel
theorem dX7_init_26 : decode cX7_init 26 = .ok (.aload_n 0, 1) := by decide +kernel
theorem dX7_init_27 : decode cX7_init 27 = .ok (.new 16, 3) := by decide +kernel
theorem dX7_init_30 : decode cX7_init 30 = .ok (.dup, 1) := by decide +kernel
theorem dX7_init_31 : decode cX7_init 31 = .ok (.invokespecial 18, 3) := by decide +kernel
theorem dX7_init_34 : decode cX7_init 34 = .ok (.putfield 23, 3) := by decide +kernel
theorem dX7_init_37 : decode cX7_init 37 = .ok (.aload_n 0, 1) := by decide +kernel
theorem dX7_init_38 : decode cX7_init 38 = .ok (.new 26, 3) := by decide +kernel
theorem dX7_init_41 : decode cX7_init 41 = .ok (.dup, 1) := by decide +kernel
theorem dX7_init_42 : decode cX7_init 42 = .ok (.invokespecial 28, 3) := by decide +kernel
theorem dX7_init_45 : decode cX7_init 45 = .ok (.putfield 29, 3) := by decide +kernel
theorem dX7_init_48 : decode cX7_init 48 = .ok (.aload_n 0, 1) := by decide +kernel
theorem dX7_init_49 : decode cX7_init 49 = .ok (.new 33, 3) := by decide +kernel
theorem dX7_init_52 : decode cX7_init 52 = .ok (.dup, 1) := by decide +kernel
theorem dX7_init_53 : decode cX7_init 53 = .ok (.invokespecial 35, 3) := by decide +kernel
theorem dX7_init_56 : decode cX7_init 56 = .ok (.putfield 36, 3) := by decide +kernel
theorem dX7_init_59 : decode cX7_init 59 = .ok (.aload_n 0, 1) := by decide +kernel
theorem dX7_init_60 : decode cX7_init 60 = .ok (.iconst 4, 1) := by decide +kernel
theorem dX7_init_61 : decode cX7_init 61 = .ok (.anewarray 40, 3) := by decide +kernel
theorem dX7_init_64 : decode cX7_init 64 = .ok (.putfield 42, 3) := by decide +kernel
theorem dX7_init_67 : decode cX7_init 67 = .ok (.iconst 0, 1) := by decide +kernel
theorem dX7_init_68 : decode cX7_init 68 = .ok (.istore_n 1, 1) := by decide +kernel
theorem dX7_init_69 : decode cX7_init 69 = .ok (.iload_n 1, 1) := by decide +kernel
theorem dX7_init_70 : decode cX7_init 70 = .ok (.iconst 4, 1) := by decide +kernel
theorem dX7_init_71 : decode cX7_init 71 = .ok (.if_icmp .ge 22, 3) := by decide +kernel
theorem dX7_init_74 : decode cX7_init 74 = .ok (.aload_n 0, 1) := by decide +kernel
theorem dX7_init_75 : decode cX7_init 75 = .ok (.getfield 42, 3) := by decide +kernel
theorem dX7_init_78 : decode cX7_init 78 = .ok (.iload_n 1, 1) := by decide +kernel
theorem dX7_init_79 : decode cX7_init 79 = .ok (.new 40, 3) := by decide +kernel
theorem dX7_init_82 : decode cX7_init 82 = .ok (.dup, 1) := by decide +kernel
theorem dX7_init_83 : decode cX7_init 83 = .ok (.invokespecial 46, 3) := by decide +kernel
theorem dX7_init_86 : decode cX7_init 86 = .ok (.aastore, 1) := by decide +kernel
theorem dX7_init_87 : decode cX7_init 87 = .ok (.iinc 1 1, 3) := by decide +kernel
theorem dX7_init_90 : decode cX7_init 90 = .ok (.goto (-21), 3) := by decide +kernel
theorem dX7_init_93 : decode cX7_init 93 = .ok (.return_, 1) := by decide +kernel
theorem dX7_points_0 : decode cX7_points 0 = .ok (.iload_n 1, 1) := by decide +kernel
theorem dX7_points_1 : decode cX7_points 1 = .ok (.ifCond .lt 9, 3) := by decide +kernel
theorem dX7_points_4 : decode cX7_points 4 = .ok (.iload_n 1, 1) := by decide +kernel
theorem dX7_points_5 : decode cX7_points 5 = .ok (.bipush 20, 2) := by decide +kernel
theorem dX7_points_7 : decode cX7_points 7 = .ok (.if_icmp .le 5, 3) := by decide +kernel
theorem dX7_points_10 : decode cX7_points 10 = .ok (.iconst (-1), 1) := by decide +kernel
theorem dX7_points_11 : decode cX7_points 11 = .ok (.ireturn, 1) := by decide +kernel
theorem dX7_points_12 : decode cX7_points 12 = .ok (.aload_n 0, 1) := by decide +kernel
theorem dX7_points_13 : decode cX7_points 13 = .ok (.getfield 12, 3) := by decide +kernel
theorem dX7_points_16 : decode cX7_points 16 = .ok (.iload_n 1, 1) := by decide +kernel
theorem dX7_points_17 : decode cX7_points 17 = .ok (.invokevirtual 47, 3) := by decide +kernel
theorem dX7_points_20 : decode cX7_points 20 = .ok (.iload_n 1, 1) := by decide +kernel
theorem dX7_points_21 : decode cX7_points 21 = .ok (.ireturn, 1) := by decide +kernel
theorem dX7_put_0 : decode cX7_put 0 = .ok (.aload_n 0, 1) := by decide +kernel
theorem dX7_put_1 : decode cX7_put 1 = .ok (.getfield 12, 3) := by decide +kernel
theorem dX7_put_4 : decode cX7_put 4 = .ok (.iload_n 1, 1) := by decide +kernel
theorem dX7_put_5 : decode cX7_put 5 = .ok (.invokevirtual 51, 3) := by decide +kernel
theorem dX7_put_8 : decode cX7_put 8 = .ok (.ifCond .eq 29, 3) := by decide +kernel
theorem dX7_put_11 : decode cX7_put 11 = .ok (.aload_n 0, 1) := by decide +kernel
theorem dX7_put_12 : decode cX7_put 12 = .ok (.getfield 12, 3) := by decide +kernel
theorem dX7_put_15 : decode cX7_put 15 = .ok (.iload_n 2, 1) := by decide +kernel
theorem dX7_put_16 : decode cX7_put 16 = .ok (.invokevirtual 51, 3) := by decide +kernel
theorem dX7_put_19 : decode cX7_put 19 = .ok (.ifCond .eq 18, 3) := by decide +kernel
theorem dX7_put_22 : decode cX7_put 22 = .ok (.iload_n 1, 1) := by decide +kernel
theorem dX7_put_23 : decode cX7_put 23 = .ok (.iload_n 2, 1) := by decide +kernel
theorem dX7_put_24 : decode cX7_put 24 = .ok (.if_icmp .eq 13, 3) := by decide +kernel
theorem dX7_put_27 : decode cX7_put 27 = .ok (.iload_n 3, 1) := by decide +kernel
theorem dX7_put_28 : decode cX7_put 28 = .ok (.ifCond .lt 9, 3) := by decide +kernel
theorem dX7_put_31 : decode cX7_put 31 = .ok (.iload_n 3, 1) := by decide +kernel
theorem dX7_put_32 : decode cX7_put 32 = .ok (.ldc 55, 2) := by decide +kernel
theorem dX7_put_34 : decode cX7_put 34 = .ok (.if_icmp .le 5, 3) := by decide +kernel
theorem dX7_put_37 : decode cX7_put 37 = .ok (.iconst 0, 1) := by decide +kernel
theorem dX7_put_38 : decode cX7_put 38 = .ok (.ireturn, 1) := by decide +kernel
theorem dX7_put_39 : decode cX7_put 39 = .ok (.aload_n 0, 1) := by decide +kernel
theorem dX7_put_40 : decode cX7_put 40 = .ok (.getfield 12, 3) := by decide +kernel
theorem dX7_put_43 : decode cX7_put 43 = .ok (.iload_n 1, 1) := by decide +kernel
theorem dX7_put_44 : decode cX7_put 44 = .ok (.iload_n 2, 1) := by decide +kernel
theorem dX7_put_45 : decode cX7_put 45 = .ok (.iload_n 3, 1) := by decide +kernel
theorem dX7_put_46 : decode cX7_put 46 = .ok (.invokevirtual 56, 3) := by decide +kernel
theorem dX7_put_49 : decode cX7_put 49 = .ok (.iconst 1, 1) := by decide +kernel
theorem dX7_put_50 : decode cX7_put 50 = .ok (.ireturn, 1) := by decide +kernel
theorem dX7_distance_0 : decode cX7_distance 0 = .ok (.aload_n 0, 1) := by decide +kernel
theorem dX7_distance_1 : decode cX7_distance 1 = .ok (.getfield 12, 3) := by decide +kernel
theorem dX7_distance_4 : decode cX7_distance 4 = .ok (.iload_n 1, 1) := by decide +kernel
theorem dX7_distance_5 : decode cX7_distance 5 = .ok (.invokevirtual 51, 3) := by decide +kernel
theorem dX7_distance_8 : decode cX7_distance 8 = .ok (.ifCond .eq 14, 3) := by decide +kernel
theorem dX7_distance_11 : decode cX7_distance 11 = .ok (.aload_n 0, 1) := by decide +kernel
theorem dX7_distance_12 : decode cX7_distance 12 = .ok (.getfield 12, 3) := by decide +kernel
theorem dX7_distance_15 : decode cX7_distance 15 = .ok (.iload_n 2, 1) := by decide +kernel
theorem dX7_distance_16 : decode cX7_distance 16 = .ok (.invokevirtual 51, 3) := by decide +kernel
theorem dX7_distance_19 : decode cX7_distance 19 = .ok (.ifCond .ne 5, 3) := by decide +kernel
theorem dX7_distance_22 : decode cX7_distance 22 = .ok (.iconst (-1), 1) := by decide +kernel
theorem dX7_distance_23 : decode cX7_distance 23 = .ok (.ireturn, 1) := by decide +kernel
theorem dX7_distance_24 : decode cX7_distance 24 = .ok (.aload_n 0, 1) := by decide +kernel
theorem dX7_distance_25 : decode cX7_distance 25 = .ok (.getfield 12, 3) := by decide +kernel
theorem dX7_distance_28 : decode cX7_distance 28 = .ok (.getfield 60, 3) := by decide +kernel
theorem dX7_distance_31 : decode cX7_distance 31 = .ok (.iload_n 1, 1) := by decide +kernel
theorem dX7_distance_32 : decode cX7_distance 32 = .ok (.aaload, 1) := by decide +kernel
theorem dX7_distance_33 : decode cX7_distance 33 = .ok (.iload_n 2, 1) := by decide +kernel
theorem dX7_distance_34 : decode cX7_distance 34 = .ok (.iaload, 1) := by decide +kernel
theorem dX7_distance_35 : decode cX7_distance 35 = .ok (.ireturn, 1) := by decide +kernel
theorem dX7_place_0 : decode cX7_place 0 = .ok (.aload_n 0, 1) := by decide +kernel
theorem dX7_place_1 : decode cX7_place 1 = .ok (.getfield 12, 3) := by decide +kernel
theorem dX7_place_4 : decode cX7_place 4 = .ok (.iload_n 1, 1) := by decide +kernel
theorem dX7_place_5 : decode cX7_place 5 = .ok (.invokevirtual 51, 3) := by decide +kernel
theorem dX7_place_8 : decode cX7_place 8 = .ok (.ifCond .eq 17, 3) := by decide +kernel
theorem dX7_place_11 : decode cX7_place 11 = .ok (.iload_n 2, 1) := by decide +kernel
theorem dX7_place_12 : decode cX7_place 12 = .ok (.invokestatic 64, 3) := by decide +kernel
theorem dX7_place_15 : decode cX7_place 15 = .ok (.ifCond .ne 10, 3) := by decide +kernel
theorem dX7_place_18 : decode cX7_place 18 = .ok (.iload_n 3, 1) := by decide +kernel
theorem dX7_place_19 : decode cX7_place 19 = .ok (.invokestatic 64, 3) := by decide +kernel
theorem dX7_place_22 : decode cX7_place 22 = .ok (.ifCond .eq 5, 3) := by decide +kernel
theorem dX7_place_25 : decode cX7_place 25 = .ok (.iconst 0, 1) := by decide +kernel
theorem dX7_place_26 : decode cX7_place 26 = .ok (.ireturn, 1) := by decide +kernel
theorem dX7_place_27 : decode cX7_place 27 = .ok (.aload_n 0, 1) := by decide +kernel
theorem dX7_place_28 : decode cX7_place 28 = .ok (.getfield 12, 3) := by decide +kernel
theorem dX7_place_31 : decode cX7_place 31 = .ok (.getfield 67, 3) := by decide +kernel
theorem dX7_place_34 : decode cX7_place 34 = .ok (.iload_n 1, 1) := by decide +kernel
theorem dX7_place_35 : decode cX7_place 35 = .ok (.iload_n 2, 1) := by decide +kernel
theorem dX7_place_36 : decode cX7_place 36 = .ok (.iastore, 1) := by decide +kernel
theorem dX7_place_37 : decode cX7_place 37 = .ok (.aload_n 0, 1) := by decide +kernel
theorem dX7_place_38 : decode cX7_place 38 = .ok (.getfield 12, 3) := by decide +kernel
theorem dX7_place_41 : decode cX7_place 41 = .ok (.getfield 71, 3) := by decide +kernel
theorem dX7_place_44 : decode cX7_place 44 = .ok (.iload_n 1, 1) := by decide +kernel
theorem dX7_place_45 : decode cX7_place 45 = .ok (.iload_n 3, 1) := by decide +kernel
theorem dX7_place_46 : decode cX7_place 46 = .ok (.iastore, 1) := by decide +kernel
theorem dX7_place_47 : decode cX7_place 47 = .ok (.iconst 1, 1) := by decide +kernel
theorem dX7_place_48 : decode cX7_place 48 = .ok (.ireturn, 1) := by decide +kernel
theorem dX7_measure_0 : decode cX7_measure 0 = .ok (.iload_n 1, 1) := by decide +kernel
theorem dX7_measure_1 : decode cX7_measure 1 = .ok (.ifCond .lt 8, 3) := by decide +kernel
theorem dX7_measure_4 : decode cX7_measure 4 = .ok (.iload_n 1, 1) := by decide +kernel
theorem dX7_measure_5 : decode cX7_measure 5 = .ok (.iconst 2, 1) := by decide +kernel
theorem dX7_measure_6 : decode cX7_measure 6 = .ok (.if_icmp .le 5, 3) := by decide +kernel
theorem dX7_measure_9 : decode cX7_measure 9 = .ok (.iconst 0, 1) := by decide +kernel
theorem dX7_measure_10 : decode cX7_measure 10 = .ok (.ireturn, 1) := by decide +kernel
theorem dX7_measure_11 : decode cX7_measure 11 = .ok (.aload_n 0, 1) := by decide +kernel
theorem dX7_measure_12 : decode cX7_measure 12 = .ok (.getfield 12, 3) := by decide +kernel
theorem dX7_measure_15 : decode cX7_measure 15 = .ok (.iload_n 1, 1) := by decide +kernel
theorem dX7_measure_16 : decode cX7_measure 16 = .ok (.invokevirtual 74, 3) := by decide +kernel
theorem dX7_measure_19 : decode cX7_measure 19 = .ok (.iconst 1, 1) := by decide +kernel
theorem dX7_measure_20 : decode cX7_measure 20 = .ok (.ireturn, 1) := by decide +kernel
theorem dX7_feed_0 : decode cX7_feed 0 = .ok (.aload_n 0, 1) := by decide +kernel
theorem dX7_feed_1 : decode cX7_feed 1 = .ok (.getfield 19, 3) := by decide +kernel
theorem dX7_feed_4 : decode cX7_feed 4 = .ok (.getfield 77, 3) := by decide +kernel
theorem dX7_feed_7 : decode cX7_feed 7 = .ok (.bipush 20, 2) := by decide +kernel
theorem dX7_feed_9 : decode cX7_feed 9 = .ok (.iadd, 1) := by decide +kernel
theorem dX7_feed_10 : decode cX7_feed 10 = .ok (.sipush 2400, 3) := by decide +kernel
theorem dX7_feed_13 : decode cX7_feed 13 = .ok (.if_icmp .le 5, 3) := by decide +kernel
theorem dX7_feed_16 : decode cX7_feed 16 = .ok (.iconst (-1), 1) := by decide +kernel
theorem dX7_feed_17 : decode cX7_feed 17 = .ok (.ireturn, 1) := by decide +kernel
theorem dX7_feed_18 : decode cX7_feed 18 = .ok (.aload_n 0, 1) := by decide +kernel
theorem dX7_feed_19 : decode cX7_feed 19 = .ok (.getfield 19, 3) := by decide +kernel
theorem dX7_feed_22 : decode cX7_feed 22 = .ok (.iload_n 1, 1) := by decide +kernel
theorem dX7_feed_23 : decode cX7_feed 23 = .ok (.invokevirtual 81, 3) := by decide +kernel
theorem dX7_feed_26 : decode cX7_feed 26 = .ok (.aload_n 0, 1) := by decide +kernel
theorem dX7_feed_27 : decode cX7_feed 27 = .ok (.getfield 19, 3) := by decide +kernel
theorem dX7_feed_30 : decode cX7_feed 30 = .ok (.iload_n 2, 1) := by decide +kernel
theorem dX7_feed_31 : decode cX7_feed 31 = .ok (.invokevirtual 81, 3) := by decide +kernel
theorem dX7_feed_34 : decode cX7_feed 34 = .ok (.aload_n 0, 1) := by decide +kernel
theorem dX7_feed_35 : decode cX7_feed 35 = .ok (.getfield 19, 3) := by decide +kernel
theorem dX7_feed_38 : decode cX7_feed 38 = .ok (.iload_n 3, 1) := by decide +kernel
theorem dX7_feed_39 : decode cX7_feed 39 = .ok (.invokevirtual 81, 3) := by decide +kernel
theorem dX7_feed_42 : decode cX7_feed 42 = .ok (.aload_n 0, 1) := by decide +kernel
theorem dX7_feed_43 : decode cX7_feed 43 = .ok (.getfield 19, 3) := by decide +kernel
theorem dX7_feed_46 : decode cX7_feed 46 = .ok (.iload 4, 2) := by decide +kernel
theorem dX7_feed_48 : decode cX7_feed 48 = .ok (.invokevirtual 81, 3) := by decide +kernel
theorem dX7_feed_51 : decode cX7_feed 51 = .ok (.aload_n 0, 1) := by decide +kernel
theorem dX7_feed_52 : decode cX7_feed 52 = .ok (.getfield 19, 3) := by decide +kernel
theorem dX7_feed_55 : decode cX7_feed 55 = .ok (.iload 5, 2) := by decide +kernel
theorem dX7_feed_57 : decode cX7_feed 57 = .ok (.invokevirtual 81, 3) := by decide +kernel
theorem dX7_feed_60 : decode cX7_feed 60 = .ok (.aload_n 0, 1) := by decide +kernel
theorem dX7_feed_61 : decode cX7_feed 61 = .ok (.getfield 19, 3) := by decide +kernel
theorem dX7_feed_64 : decode cX7_feed 64 = .ok (.getfield 77, 3) := by decide +kernel
theorem dX7_feed_67 : decode cX7_feed 67 = .ok (.ireturn, 1) := by decide +kernel
theorem dX7_end_0 : decode cX7_end 0 = .ok (.iload_n 1, 1) := by decide +kernel
theorem dX7_end_1 : decode cX7_end 1 = .ok (.ifCond .lt 14, 3) := by decide +kernel
theorem dX7_end_4 : decode cX7_end 4 = .ok (.iload_n 1, 1) := by decide +kernel
theorem dX7_end_5 : decode cX7_end 5 = .ok (.aload_n 0, 1) := by decide +kernel
theorem dX7_end_6 : decode cX7_end 6 = .ok (.getfield 19, 3) := by decide +kernel
theorem dX7_end_9 : decode cX7_end 9 = .ok (.getfield 77, 3) := by decide +kernel
theorem dX7_end_12 : decode cX7_end 12 = .ok (.if_icmp .le 5, 3) := by decide +kernel
theorem dX7_end_15 : decode cX7_end 15 = .ok (.iconst (-1), 1) := by decide +kernel
theorem dX7_end_16 : decode cX7_end 16 = .ok (.ireturn, 1) := by decide +kernel
theorem dX7_end_17 : decode cX7_end 17 = .ok (.aload_n 0, 1) := by decide +kernel
theorem dX7_end_18 : decode cX7_end 18 = .ok (.getfield 19, 3) := by decide +kernel
theorem dX7_end_21 : decode cX7_end 21 = .ok (.iload_n 1, 1) := by decide +kernel
theorem dX7_end_22 : decode cX7_end 22 = .ok (.putfield 77, 3) := by decide +kernel
theorem dX7_end_25 : decode cX7_end 25 = .ok (.iload_n 1, 1) := by decide +kernel
theorem dX7_end_26 : decode cX7_end 26 = .ok (.ireturn, 1) := by decide +kernel
theorem dX7_take_0 : decode cX7_take 0 = .ok (.aload_n 0, 1) := by decide +kernel
theorem dX7_take_1 : decode cX7_take 1 = .ok (.getfield 19, 3) := by decide +kernel
theorem dX7_take_4 : decode cX7_take 4 = .ok (.aload_n 0, 1) := by decide +kernel
theorem dX7_take_5 : decode cX7_take 5 = .ok (.getfield 23, 3) := by decide +kernel
theorem dX7_take_8 : decode cX7_take 8 = .ok (.invokevirtual 84, 3) := by decide +kernel
theorem dX7_take_11 : decode cX7_take 11 = .ok (.aload_n 0, 1) := by decide +kernel
theorem dX7_take_12 : decode cX7_take 12 = .ok (.getfield 19, 3) := by decide +kernel
theorem dX7_take_15 : decode cX7_take 15 = .ok (.getfield 77, 3) := by decide +kernel
theorem dX7_take_18 : decode cX7_take 18 = .ok (.ireturn, 1) := by decide +kernel
theorem dX7_read_0 : decode cX7_read 0 = .ok (.aload_n 0, 1) := by decide +kernel
theorem dX7_read_1 : decode cX7_read 1 = .ok (.getfield 29, 3) := by decide +kernel
theorem dX7_read_4 : decode cX7_read 4 = .ok (.aload_n 0, 1) := by decide +kernel
theorem dX7_read_5 : decode cX7_read 5 = .ok (.getfield 19, 3) := by decide +kernel
theorem dX7_read_8 : decode cX7_read 8 = .ok (.invokevirtual 88, 3) := by decide +kernel
theorem dX7_read_11 : decode cX7_read 11 = .ok (.istore_n 1, 1) := by decide +kernel
theorem dX7_read_12 : decode cX7_read 12 = .ok (.aload_n 0, 1) := by decide +kernel
theorem dX7_read_13 : decode cX7_read 13 = .ok (.getfield 19, 3) := by decide +kernel
theorem dX7_read_16 : decode cX7_read 16 = .ok (.iconst 0, 1) := by decide +kernel
theorem dX7_read_17 : decode cX7_read 17 = .ok (.putfield 77, 3) := by decide +kernel
theorem dX7_read_20 : decode cX7_read 20 = .ok (.iload_n 1, 1) := by decide +kernel
theorem dX7_read_21 : decode cX7_read 21 = .ok (.ifCond .ne 5, 3) := by decide +kernel
theorem dX7_read_24 : decode cX7_read 24 = .ok (.iconst (-1), 1) := by decide +kernel
theorem dX7_read_25 : decode cX7_read 25 = .ok (.ireturn, 1) := by decide +kernel
theorem dX7_read_26 : decode cX7_read 26 = .ok (.aload_n 0, 1) := by decide +kernel
theorem dX7_read_27 : decode cX7_read 27 = .ok (.getfield 12, 3) := by decide +kernel
theorem dX7_read_30 : decode cX7_read 30 = .ok (.aload_n 0, 1) := by decide +kernel
theorem dX7_read_31 : decode cX7_read 31 = .ok (.getfield 29, 3) := by decide +kernel
theorem dX7_read_34 : decode cX7_read 34 = .ok (.getfield 92, 3) := by decide +kernel
theorem dX7_read_37 : decode cX7_read 37 = .ok (.iconst 0, 1) := by decide +kernel
theorem dX7_read_38 : decode cX7_read 38 = .ok (.iaload, 1) := by decide +kernel
theorem dX7_read_39 : decode cX7_read 39 = .ok (.invokevirtual 47, 3) := by decide +kernel
theorem dX7_read_42 : decode cX7_read 42 = .ok (.iconst 1, 1) := by decide +kernel
theorem dX7_read_43 : decode cX7_read 43 = .ok (.istore_n 2, 1) := by decide +kernel
theorem dX7_read_44 : decode cX7_read 44 = .ok (.iconst 1, 1) := by decide +kernel
theorem dX7_read_45 : decode cX7_read 45 = .ok (.istore_n 3, 1) := by decide +kernel
theorem dX7_read_46 : decode cX7_read 46 = .ok (.iload_n 3, 1) := by decide +kernel
theorem dX7_read_47 : decode cX7_read 47 = .ok (.aload_n 0, 1) := by decide +kernel
theorem dX7_read_48 : decode cX7_read 48 = .ok (.getfield 12, 3) := by decide +kernel
theorem dX7_read_51 : decode cX7_read 51 = .ok (.getfield 95, 3) := by decide +kernel
theorem dX7_read_54 : decode cX7_read 54 = .ok (.if_icmp .ge 46, 3) := by decide +kernel
theorem dX7_read_57 : decode cX7_read 57 = .ok (.iconst 0, 1) := by decide +kernel
theorem dX7_read_58 : decode cX7_read 58 = .ok (.istore 4, 2) := by decide +kernel
theorem dX7_read_60 : decode cX7_read 60 = .ok (.iload 4, 2) := by decide +kernel
theorem dX7_read_62 : decode cX7_read 62 = .ok (.iload_n 3, 1) := by decide +kernel
theorem dX7_read_63 : decode cX7_read 63 = .ok (.if_icmp .ge 31, 3) := by decide +kernel
theorem dX7_read_66 : decode cX7_read 66 = .ok (.aload_n 0, 1) := by decide +kernel
theorem dX7_read_67 : decode cX7_read 67 = .ok (.getfield 12, 3) := by decide +kernel
theorem dX7_read_70 : decode cX7_read 70 = .ok (.iload_n 3, 1) := by decide +kernel
theorem dX7_read_71 : decode cX7_read 71 = .ok (.iload 4, 2) := by decide +kernel
theorem dX7_read_73 : decode cX7_read 73 = .ok (.aload_n 0, 1) := by decide +kernel
theorem dX7_read_74 : decode cX7_read 74 = .ok (.getfield 29, 3) := by decide +kernel
theorem dX7_read_77 : decode cX7_read 77 = .ok (.getfield 92, 3) := by decide +kernel
theorem dX7_read_80 : decode cX7_read 80 = .ok (.iload_n 2, 1) := by decide +kernel
theorem dX7_read_81 : decode cX7_read 81 = .ok (.iaload, 1) := by decide +kernel
theorem dX7_read_82 : decode cX7_read 82 = .ok (.invokevirtual 56, 3) := by decide +kernel
theorem dX7_read_85 : decode cX7_read 85 = .ok (.iinc 2 1, 3) := by decide +kernel
theorem dX7_read_88 : decode cX7_read 88 = .ok (.iinc 4 1, 3) := by decide +kernel
theorem dX7_read_91 : decode cX7_read 91 = .ok (.goto (-31), 3) := by decide +kernel
theorem dX7_read_94 : decode cX7_read 94 = .ok (.iinc 3 1, 3) := by decide +kernel
theorem dX7_read_97 : decode cX7_read 97 = .ok (.goto (-51), 3) := by decide +kernel
theorem dX7_read_100 : decode cX7_read 100 = .ok (.aload_n 0, 1) := by decide +kernel
theorem dX7_read_101 : decode cX7_read 101 = .ok (.getfield 12, 3) := by decide +kernel
theorem dX7_read_104 : decode cX7_read 104 = .ok (.getfield 95, 3) := by decide +kernel
theorem dX7_read_107 : decode cX7_read 107 = .ok (.ireturn, 1) := by decide +kernel
theorem dX7_fault_0 : decode cX7_fault 0 = .ok (.aload_n 0, 1) := by decide +kernel
theorem dX7_fault_1 : decode cX7_fault 1 = .ok (.getfield 29, 3) := by decide +kernel
theorem dX7_fault_4 : decode cX7_fault 4 = .ok (.getfield 98, 3) := by decide +kernel
theorem dX7_fault_7 : decode cX7_fault 7 = .ok (.ireturn, 1) := by decide +kernel
theorem dX7_write_0 : decode cX7_write 0 = .ok (.aload_n 0, 1) := by decide +kernel
theorem dX7_write_1 : decode cX7_write 1 = .ok (.getfield 23, 3) := by decide +kernel
theorem dX7_write_4 : decode cX7_write 4 = .ok (.iconst 0, 1) := by decide +kernel
theorem dX7_write_5 : decode cX7_write 5 = .ok (.putfield 77, 3) := by decide +kernel
theorem dX7_write_8 : decode cX7_write 8 = .ok (.aload_n 0, 1) := by decide +kernel
theorem dX7_write_9 : decode cX7_write 9 = .ok (.getfield 23, 3) := by decide +kernel
theorem dX7_write_12 : decode cX7_write 12 = .ok (.aload_n 0, 1) := by decide +kernel
theorem dX7_write_13 : decode cX7_write 13 = .ok (.getfield 12, 3) := by decide +kernel
theorem dX7_write_16 : decode cX7_write 16 = .ok (.getfield 95, 3) := by decide +kernel
theorem dX7_write_19 : decode cX7_write 19 = .ok (.i2l, 1) := by decide +kernel
theorem dX7_write_20 : decode cX7_write 20 = .ok (.invokevirtual 101, 3) := by decide +kernel
theorem dX7_write_23 : decode cX7_write 23 = .ok (.iconst 1, 1) := by decide +kernel
theorem dX7_write_24 : decode cX7_write 24 = .ok (.istore_n 1, 1) := by decide +kernel
theorem dX7_write_25 : decode cX7_write 25 = .ok (.iload_n 1, 1) := by decide +kernel
theorem dX7_write_26 : decode cX7_write 26 = .ok (.aload_n 0, 1) := by decide +kernel
theorem dX7_write_27 : decode cX7_write 27 = .ok (.getfield 12, 3) := by decide +kernel
theorem dX7_write_30 : decode cX7_write 30 = .ok (.getfield 95, 3) := by decide +kernel
theorem dX7_write_33 : decode cX7_write 33 = .ok (.if_icmp .ge 50, 3) := by decide +kernel
theorem dX7_write_36 : decode cX7_write 36 = .ok (.iconst 0, 1) := by decide +kernel
theorem dX7_write_37 : decode cX7_write 37 = .ok (.istore_n 2, 1) := by decide +kernel
theorem dX7_write_38 : decode cX7_write 38 = .ok (.iload_n 2, 1) := by decide +kernel
theorem dX7_write_39 : decode cX7_write 39 = .ok (.iload_n 1, 1) := by decide +kernel
theorem dX7_write_40 : decode cX7_write 40 = .ok (.if_icmp .ge 37, 3) := by decide +kernel
theorem dX7_write_43 : decode cX7_write 43 = .ok (.aload_n 0, 1) := by decide +kernel
theorem dX7_write_44 : decode cX7_write 44 = .ok (.getfield 23, 3) := by decide +kernel
theorem dX7_write_47 : decode cX7_write 47 = .ok (.bipush 32, 2) := by decide +kernel
theorem dX7_write_49 : decode cX7_write 49 = .ok (.invokevirtual 105, 3) := by decide +kernel
theorem dX7_write_52 : decode cX7_write 52 = .ok (.aload_n 0, 1) := by decide +kernel
theorem dX7_write_53 : decode cX7_write 53 = .ok (.getfield 23, 3) := by decide +kernel
theorem dX7_write_56 : decode cX7_write 56 = .ok (.aload_n 0, 1) := by decide +kernel
theorem dX7_write_57 : decode cX7_write 57 = .ok (.getfield 12, 3) := by decide +kernel
theorem dX7_write_60 : decode cX7_write 60 = .ok (.getfield 60, 3) := by decide +kernel
theorem dX7_write_63 : decode cX7_write 63 = .ok (.iload_n 1, 1) := by decide +kernel
theorem dX7_write_64 : decode cX7_write 64 = .ok (.aaload, 1) := by decide +kernel
theorem dX7_write_65 : decode cX7_write 65 = .ok (.iload_n 2, 1) := by decide +kernel
theorem dX7_write_66 : decode cX7_write 66 = .ok (.iaload, 1) := by decide +kernel
theorem dX7_write_67 : decode cX7_write 67 = .ok (.i2l, 1) := by decide +kernel
theorem dX7_write_68 : decode cX7_write 68 = .ok (.invokevirtual 101, 3) := by decide +kernel
theorem dX7_write_71 : decode cX7_write 71 = .ok (.iinc 2 1, 3) := by decide +kernel
theorem dX7_write_74 : decode cX7_write 74 = .ok (.goto (-36), 3) := by decide +kernel
theorem dX7_write_77 : decode cX7_write 77 = .ok (.iinc 1 1, 3) := by decide +kernel
theorem dX7_write_80 : decode cX7_write 80 = .ok (.goto (-55), 3) := by decide +kernel
theorem dX7_write_83 : decode cX7_write 83 = .ok (.aload_n 0, 1) := by decide +kernel
theorem dX7_write_84 : decode cX7_write 84 = .ok (.getfield 23, 3) := by decide +kernel
theorem dX7_write_87 : decode cX7_write 87 = .ok (.getfield 77, 3) := by decide +kernel
theorem dX7_write_90 : decode cX7_write 90 = .ok (.ireturn, 1) := by decide +kernel
theorem dX7_out_0 : decode cX7_out 0 = .ok (.aload_n 0, 1) := by decide +kernel
theorem dX7_out_1 : decode cX7_out 1 = .ok (.getfield 23, 3) := by decide +kernel
theorem dX7_out_4 : decode cX7_out 4 = .ok (.iload_n 1, 1) := by decide +kernel
theorem dX7_out_5 : decode cX7_out 5 = .ok (.invokevirtual 108, 3) := by decide +kernel
theorem dX7_out_8 : decode cX7_out 8 = .ok (.ireturn, 1) := by decide +kernel
theorem dX7_linkage_0 : decode cX7_linkage 0 = .ok (.iload_n 2, 1) := by decide +kernel
theorem dX7_linkage_1 : decode cX7_linkage 1 = .ok (.aload_n 0, 1) := by decide +kernel
theorem dX7_linkage_2 : decode cX7_linkage 2 = .ok (.getfield 12, 3) := by decide +kernel
theorem dX7_linkage_5 : decode cX7_linkage 5 = .ok (.invokevirtual 112, 3) := by decide +kernel
theorem dX7_linkage_8 : decode cX7_linkage 8 = .ok (.iand, 1) := by decide +kernel
theorem dX7_linkage_9 : decode cX7_linkage 9 = .ok (.istore 5, 2) := by decide +kernel
theorem dX7_linkage_11 : decode cX7_linkage 11 = .ok (.iload_n 3, 1) := by decide +kernel
theorem dX7_linkage_12 : decode cX7_linkage 12 = .ok (.aload_n 0, 1) := by decide +kernel
theorem dX7_linkage_13 : decode cX7_linkage 13 = .ok (.getfield 12, 3) := by decide +kernel
theorem dX7_linkage_16 : decode cX7_linkage 16 = .ok (.invokevirtual 112, 3) := by decide +kernel
theorem dX7_linkage_19 : decode cX7_linkage 19 = .ok (.iand, 1) := by decide +kernel
theorem dX7_linkage_20 : decode cX7_linkage 20 = .ok (.istore 6, 2) := by decide +kernel
theorem dX7_linkage_22 : decode cX7_linkage 22 = .ok (.iload_n 1, 1) := by decide +kernel
theorem dX7_linkage_23 : decode cX7_linkage 23 = .ok (.ifCond .lt 19, 3) := by decide +kernel
theorem dX7_linkage_26 : decode cX7_linkage 26 = .ok (.iload_n 1, 1) := by decide +kernel
theorem dX7_linkage_27 : decode cX7_linkage 27 = .ok (.iconst 3, 1) := by decide +kernel
theorem dX7_linkage_28 : decode cX7_linkage 28 = .ok (.if_icmp .gt 14, 3) := by decide +kernel
theorem dX7_linkage_31 : decode cX7_linkage 31 = .ok (.iload 4, 2) := by decide +kernel
theorem dX7_linkage_33 : decode cX7_linkage 33 = .ok (.ifCond .lt 9, 3) := by decide +kernel
theorem dX7_linkage_36 : decode cX7_linkage 36 = .ok (.iload 4, 2) := by decide +kernel
theorem dX7_linkage_38 : decode cX7_linkage 38 = .ok (.iconst 1, 1) := by decide +kernel
theorem dX7_linkage_39 : decode cX7_linkage 39 = .ok (.if_icmp .le 7, 3) := by decide +kernel
theorem dX7_linkage_42 : decode cX7_linkage 42 = .ok (.ldc2_w 116, 3) := by decide +kernel
theorem dX7_linkage_45 : decode cX7_linkage 45 = .ok (.lreturn, 1) := by decide +kernel
theorem dX7_linkage_46 : decode cX7_linkage 46 = .ok (.iload 5, 2) := by decide +kernel
theorem dX7_linkage_48 : decode cX7_linkage 48 = .ok (.ifCond .eq 16, 3) := by decide +kernel
theorem dX7_linkage_51 : decode cX7_linkage 51 = .ok (.iload 6, 2) := by decide +kernel
theorem dX7_linkage_53 : decode cX7_linkage 53 = .ok (.ifCond .eq 11, 3) := by decide +kernel
theorem dX7_linkage_56 : decode cX7_linkage 56 = .ok (.iload 5, 2) := by decide +kernel
theorem dX7_linkage_58 : decode cX7_linkage 58 = .ok (.iload 6, 2) := by decide +kernel
theorem dX7_linkage_60 : decode cX7_linkage 60 = .ok (.iand, 1) := by decide +kernel
theorem dX7_linkage_61 : decode cX7_linkage 61 = .ok (.ifCond .eq 7, 3) := by decide +kernel
theorem dX7_linkage_64 : decode cX7_linkage 64 = .ok (.ldc2_w 116, 3) := by decide +kernel
theorem dX7_linkage_67 : decode cX7_linkage 67 = .ok (.lreturn, 1) := by decide +kernel
theorem dX7_linkage_68 : decode cX7_linkage 68 = .ok (.iload 5, 2) := by decide +kernel
theorem dX7_linkage_70 : decode cX7_linkage 70 = .ok (.invokestatic 118, 3) := by decide +kernel
theorem dX7_linkage_73 : decode cX7_linkage 73 = .ok (.istore 7, 2) := by decide +kernel
theorem dX7_linkage_75 : decode cX7_linkage 75 = .ok (.iload 6, 2) := by decide +kernel
theorem dX7_linkage_77 : decode cX7_linkage 77 = .ok (.invokestatic 118, 3) := by decide +kernel
theorem dX7_linkage_80 : decode cX7_linkage 80 = .ok (.istore 8, 2) := by decide +kernel
theorem dX7_linkage_82 : decode cX7_linkage 82 = .ok (.aload_n 0, 1) := by decide +kernel
theorem dX7_linkage_83 : decode cX7_linkage 83 = .ok (.getfield 12, 3) := by decide +kernel
theorem dX7_linkage_86 : decode cX7_linkage 86 = .ok (.iload_n 1, 1) := by decide +kernel
theorem dX7_linkage_87 : decode cX7_linkage 87 = .ok (.iload 5, 2) := by decide +kernel
theorem dX7_linkage_89 : decode cX7_linkage 89 = .ok (.iload 6, 2) := by decide +kernel
theorem dX7_linkage_91 : decode cX7_linkage 91 = .ok (.invokevirtual 123, 3) := by decide +kernel
theorem dX7_linkage_94 : decode cX7_linkage 94 = .ok (.lstore 9, 2) := by decide +kernel
theorem dX7_linkage_96 : decode cX7_linkage 96 = .ok (.iload_n 1, 1) := by decide +kernel
theorem dX7_linkage_97 : decode cX7_linkage 97 = .ok (.iload 7, 2) := by decide +kernel
theorem dX7_linkage_99 : decode cX7_linkage 99 = .ok (.iload 8, 2) := by decide +kernel
theorem dX7_linkage_101 : decode cX7_linkage 101 = .ok (.invokestatic 127, 3) := by decide +kernel
theorem dX7_linkage_104 : decode cX7_linkage 104 = .ok (.lstore 11, 2) := by decide +kernel
theorem dX7_linkage_106 : decode cX7_linkage 106 = .ok (.iload_n 1, 1) := by decide +kernel
theorem dX7_linkage_107 : decode cX7_linkage 107 = .ok (.iconst 3, 1) := by decide +kernel
theorem dX7_linkage_108 : decode cX7_linkage 108 = .ok (.if_icmp .ne 33, 3) := by decide +kernel
theorem dX7_linkage_111 : decode cX7_linkage 111 = .ok (.lload 9, 2) := by decide +kernel
theorem dX7_linkage_113 : decode cX7_linkage 113 = .ok (.iload 7, 2) := by decide +kernel
theorem dX7_linkage_115 : decode cX7_linkage 115 = .ok (.iload 8, 2) := by decide +kernel
theorem dX7_linkage_117 : decode cX7_linkage 117 = .ok (.aload_n 0, 1) := by decide +kernel
theorem dX7_linkage_118 : decode cX7_linkage 118 = .ok (.getfield 12, 3) := by decide +kernel
theorem dX7_linkage_121 : decode cX7_linkage 121 = .ok (.iload 5, 2) := by decide +kernel
theorem dX7_linkage_123 : decode cX7_linkage 123 = .ok (.invokevirtual 132, 3) := by decide +kernel
theorem dX7_linkage_126 : decode cX7_linkage 126 = .ok (.aload_n 0, 1) := by decide +kernel
theorem dX7_linkage_127 : decode cX7_linkage 127 = .ok (.getfield 12, 3) := by decide +kernel
theorem dX7_linkage_130 : decode cX7_linkage 130 = .ok (.iload 6, 2) := by decide +kernel
theorem dX7_linkage_132 : decode cX7_linkage 132 = .ok (.invokevirtual 132, 3) := by decide +kernel
theorem dX7_linkage_135 : decode cX7_linkage 135 = .ok (.invokestatic 136, 3) := by decide +kernel
theorem dX7_linkage_138 : decode cX7_linkage 138 = .ok (.goto 5, 3) := by decide +kernel
theorem dX7_linkage_141 : decode cX7_linkage 141 = .ok (.lload 9, 2) := by decide +kernel
theorem dX7_linkage_143 : decode cX7_linkage 143 = .ok (.lstore 13, 2) := by decide +kernel
theorem dX7_linkage_145 : decode cX7_linkage 145 = .ok (.iload 4, 2) := by decide +kernel
theorem dX7_linkage_147 : decode cX7_linkage 147 = .ok (.ifCond .ne 8, 3) := by decide +kernel
theorem dX7_linkage_150 : decode cX7_linkage 150 = .ok (.lload 13, 2) := by decide +kernel
theorem dX7_linkage_152 : decode cX7_linkage 152 = .ok (.goto 5, 3) := by decide +kernel
theorem dX7_linkage_155 : decode cX7_linkage 155 = .ok (.lload 11, 2) := by decide +kernel
theorem dX7_linkage_157 : decode cX7_linkage 157 = .ok (.lload 13, 2) := by decide +kernel
theorem dX7_linkage_159 : decode cX7_linkage 159 = .ok (.lload 11, 2) := by decide +kernel
theorem dX7_linkage_161 : decode cX7_linkage 161 = .ok (.invokestatic 140, 3) := by decide +kernel
theorem dX7_linkage_164 : decode cX7_linkage 164 = .ok (.invokestatic 144, 3) := by decide +kernel
theorem dX7_linkage_167 : decode cX7_linkage 167 = .ok (.lreturn, 1) := by decide +kernel
theorem dX7_greedy_0 : decode cX7_greedy 0 = .ok (.aload_n 0, 1) := by decide +kernel
theorem dX7_greedy_1 : decode cX7_greedy 1 = .ok (.iload_n 1, 1) := by decide +kernel
theorem dX7_greedy_2 : decode cX7_greedy 2 = .ok (.iload_n 2, 1) := by decide +kernel
theorem dX7_greedy_3 : decode cX7_greedy 3 = .ok (.iconst 0, 1) := by decide +kernel
theorem dX7_greedy_4 : decode cX7_greedy 4 = .ok (.invokevirtual 147, 3) := by decide +kernel
theorem dX7_greedy_7 : decode cX7_greedy 7 = .ok (.ireturn, 1) := by decide +kernel
theorem dX7_chain_0 : decode cX7_chain 0 = .ok (.aload_n 0, 1) := by decide +kernel
theorem dX7_chain_1 : decode cX7_chain 1 = .ok (.iload_n 1, 1) := by decide +kernel
theorem dX7_chain_2 : decode cX7_chain 2 = .ok (.iload_n 2, 1) := by decide +kernel
theorem dX7_chain_3 : decode cX7_chain 3 = .ok (.iconst 1, 1) := by decide +kernel
theorem dX7_chain_4 : decode cX7_chain 4 = .ok (.invokevirtual 147, 3) := by decide +kernel
theorem dX7_chain_7 : decode cX7_chain 7 = .ok (.ireturn, 1) := by decide +kernel
theorem dX7_tree_0 : decode cX7_tree 0 = .ok (.aload_n 0, 1) := by decide +kernel
theorem dX7_tree_1 : decode cX7_tree 1 = .ok (.iload_n 1, 1) := by decide +kernel
theorem dX7_tree_2 : decode cX7_tree 2 = .ok (.invokevirtual 151, 3) := by decide +kernel
theorem dX7_tree_5 : decode cX7_tree 5 = .ok (.astore_n 3, 1) := by decide +kernel
theorem dX7_tree_6 : decode cX7_tree 6 = .ok (.aload_n 3, 1) := by decide +kernel
theorem dX7_tree_7 : decode cX7_tree 7 = .ok (.ifnonnull 5, 3) := by decide +kernel
theorem dX7_tree_10 : decode cX7_tree 10 = .ok (.iconst (-1), 1) := by decide +kernel
theorem dX7_tree_11 : decode cX7_tree 11 = .ok (.ireturn, 1) := by decide +kernel
theorem dX7_tree_12 : decode cX7_tree 12 = .ok (.iload_n 2, 1) := by decide +kernel
theorem dX7_tree_13 : decode cX7_tree 13 = .ok (.tableswitch 71 0 4 #[35, 43, 48, 53, 58], 35) := by decide +kernel
theorem dX7_tree_48 : decode cX7_tree 48 = .ok (.aload_n 3, 1) := by decide +kernel
theorem dX7_tree_49 : decode cX7_tree 49 = .ok (.getfield 155, 3) := by decide +kernel
theorem dX7_tree_52 : decode cX7_tree 52 = .ok (.getfield 159, 3) := by decide +kernel
theorem dX7_tree_55 : decode cX7_tree 55 = .ok (.ireturn, 1) := by decide +kernel
theorem dX7_tree_56 : decode cX7_tree 56 = .ok (.aload_n 3, 1) := by decide +kernel
theorem dX7_tree_57 : decode cX7_tree 57 = .ok (.getfield 162, 3) := by decide +kernel
theorem dX7_tree_60 : decode cX7_tree 60 = .ok (.ireturn, 1) := by decide +kernel
theorem dX7_tree_61 : decode cX7_tree 61 = .ok (.aload_n 3, 1) := by decide +kernel
theorem dX7_tree_62 : decode cX7_tree 62 = .ok (.getfield 165, 3) := by decide +kernel
theorem dX7_tree_65 : decode cX7_tree 65 = .ok (.ireturn, 1) := by decide +kernel
theorem dX7_tree_66 : decode cX7_tree 66 = .ok (.aload_n 3, 1) := by decide +kernel
theorem dX7_tree_67 : decode cX7_tree 67 = .ok (.getfield 168, 3) := by decide +kernel
theorem dX7_tree_70 : decode cX7_tree 70 = .ok (.ireturn, 1) := by decide +kernel
theorem dX7_tree_71 : decode cX7_tree 71 = .ok (.aload_n 3, 1) := by decide +kernel
theorem dX7_tree_72 : decode cX7_tree 72 = .ok (.getfield 171, 3) := by decide +kernel
theorem dX7_tree_75 : decode cX7_tree 75 = .ok (.ifCond .eq 7, 3) := by decide +kernel
theorem dX7_tree_78 : decode cX7_tree 78 = .ok (.iconst 1, 1) := by decide +kernel
theorem dX7_tree_79 : decode cX7_tree 79 = .ok (.goto 4, 3) := by decide +kernel
theorem dX7_tree_82 : decode cX7_tree 82 = .ok (.iconst 0, 1) := by decide +kernel
theorem dX7_tree_83 : decode cX7_tree 83 = .ok (.ireturn, 1) := by decide +kernel
theorem dX7_tree_84 : decode cX7_tree 84 = .ok (.iconst (-1), 1) := by decide +kernel
theorem dX7_tree_85 : decode cX7_tree 85 = .ok (.ireturn, 1) := by decide +kernel
theorem dX7_step_0 : decode cX7_step 0 = .ok (.aload_n 0, 1) := by decide +kernel
theorem dX7_step_1 : decode cX7_step 1 = .ok (.iload_n 1, 1) := by decide +kernel
theorem dX7_step_2 : decode cX7_step 2 = .ok (.invokevirtual 151, 3) := by decide +kernel
theorem dX7_step_5 : decode cX7_step 5 = .ok (.astore 4, 2) := by decide +kernel
theorem dX7_step_7 : decode cX7_step 7 = .ok (.aload 4, 2) := by decide +kernel
theorem dX7_step_9 : decode cX7_step 9 = .ok (.ifnull 15, 3) := by decide +kernel
theorem dX7_step_12 : decode cX7_step 12 = .ok (.aload 4, 2) := by decide +kernel
theorem dX7_step_14 : decode cX7_step 14 = .ok (.getfield 155, 3) := by decide +kernel
theorem dX7_step_17 : decode cX7_step 17 = .ok (.iload_n 2, 1) := by decide +kernel
theorem dX7_step_18 : decode cX7_step 18 = .ok (.invokevirtual 175, 3) := by decide +kernel
theorem dX7_step_21 : decode cX7_step 21 = .ok (.ifCond .ne 5, 3) := by decide +kernel
theorem dX7_step_24 : decode cX7_step 24 = .ok (.iconst (-1), 1) := by decide +kernel
theorem dX7_step_25 : decode cX7_step 25 = .ok (.ireturn, 1) := by decide +kernel
theorem dX7_step_26 : decode cX7_step 26 = .ok (.iload_n 3, 1) := by decide +kernel
theorem dX7_step_27 : decode cX7_step 27 = .ok (.tableswitch 76 0 3 #[29, 40, 51, 65], 29) := by decide +kernel
theorem dX7_step_56 : decode cX7_step 56 = .ok (.aload 4, 2) := by decide +kernel
theorem dX7_step_58 : decode cX7_step 58 = .ok (.getfield 155, 3) := by decide +kernel
theorem dX7_step_61 : decode cX7_step 61 = .ok (.getfield 176, 3) := by decide +kernel
theorem dX7_step_64 : decode cX7_step 64 = .ok (.iload_n 2, 1) := by decide +kernel
theorem dX7_step_65 : decode cX7_step 65 = .ok (.iaload, 1) := by decide +kernel
theorem dX7_step_66 : decode cX7_step 66 = .ok (.ireturn, 1) := by decide +kernel
theorem dX7_step_67 : decode cX7_step 67 = .ok (.aload 4, 2) := by decide +kernel
theorem dX7_step_69 : decode cX7_step 69 = .ok (.getfield 155, 3) := by decide +kernel
theorem dX7_step_72 : decode cX7_step 72 = .ok (.getfield 179, 3) := by decide +kernel
theorem dX7_step_75 : decode cX7_step 75 = .ok (.iload_n 2, 1) := by decide +kernel
theorem dX7_step_76 : decode cX7_step 76 = .ok (.iaload, 1) := by decide +kernel
theorem dX7_step_77 : decode cX7_step 77 = .ok (.ireturn, 1) := by decide +kernel
theorem dX7_step_78 : decode cX7_step 78 = .ok (.aload 4, 2) := by decide +kernel
theorem dX7_step_80 : decode cX7_step 80 = .ok (.getfield 155, 3) := by decide +kernel
theorem dX7_step_83 : decode cX7_step 83 = .ok (.getfield 182, 3) := by decide +kernel
theorem dX7_step_86 : decode cX7_step 86 = .ok (.iload_n 2, 1) := by decide +kernel
theorem dX7_step_87 : decode cX7_step 87 = .ok (.iaload, 1) := by decide +kernel
theorem dX7_step_88 : decode cX7_step 88 = .ok (.invokestatic 118, 3) := by decide +kernel
theorem dX7_step_91 : decode cX7_step 91 = .ok (.ireturn, 1) := by decide +kernel
theorem dX7_step_92 : decode cX7_step 92 = .ok (.aload 4, 2) := by decide +kernel
theorem dX7_step_94 : decode cX7_step 94 = .ok (.getfield 155, 3) := by decide +kernel
theorem dX7_step_97 : decode cX7_step 97 = .ok (.getfield 182, 3) := by decide +kernel
theorem dX7_step_100 : decode cX7_step 100 = .ok (.iload_n 2, 1) := by decide +kernel
theorem dX7_step_101 : decode cX7_step 101 = .ok (.iaload, 1) := by decide +kernel
theorem dX7_step_102 : decode cX7_step 102 = .ok (.ireturn, 1) := by decide +kernel
theorem dX7_step_103 : decode cX7_step 103 = .ok (.iconst (-1), 1) := by decide +kernel
theorem dX7_step_104 : decode cX7_step 104 = .ok (.ireturn, 1) := by decide +kernel
theorem dX7_height_0 : decode cX7_height 0 = .ok (.aload_n 0, 1) := by decide +kernel
theorem dX7_height_1 : decode cX7_height 1 = .ok (.iload_n 1, 1) := by decide +kernel
theorem dX7_height_2 : decode cX7_height 2 = .ok (.invokevirtual 151, 3) := by decide +kernel
theorem dX7_height_5 : decode cX7_height 5 = .ok (.astore 4, 2) := by decide +kernel
theorem dX7_height_7 : decode cX7_height 7 = .ok (.aload 4, 2) := by decide +kernel
theorem dX7_height_9 : decode cX7_height 9 = .ok (.ifnull 24, 3) := by decide +kernel
theorem dX7_height_12 : decode cX7_height 12 = .ok (.aload 4, 2) := by decide +kernel
theorem dX7_height_14 : decode cX7_height 14 = .ok (.getfield 155, 3) := by decide +kernel
theorem dX7_height_17 : decode cX7_height 17 = .ok (.iload_n 2, 1) := by decide +kernel
theorem dX7_height_18 : decode cX7_height 18 = .ok (.invokevirtual 175, 3) := by decide +kernel
theorem dX7_height_21 : decode cX7_height 21 = .ok (.ifCond .eq 12, 3) := by decide +kernel
theorem dX7_height_24 : decode cX7_height 24 = .ok (.iload_n 3, 1) := by decide +kernel
theorem dX7_height_25 : decode cX7_height 25 = .ok (.ifCond .lt 8, 3) := by decide +kernel
theorem dX7_height_28 : decode cX7_height 28 = .ok (.iload_n 3, 1) := by decide +kernel
theorem dX7_height_29 : decode cX7_height 29 = .ok (.iconst 1, 1) := by decide +kernel
theorem dX7_height_30 : decode cX7_height 30 = .ok (.if_icmp .le 7, 3) := by decide +kernel
theorem dX7_height_33 : decode cX7_height 33 = .ok (.ldc2_w 116, 3) := by decide +kernel
theorem dX7_height_36 : decode cX7_height 36 = .ok (.lreturn, 1) := by decide +kernel
theorem dX7_height_37 : decode cX7_height 37 = .ok (.iload_n 3, 1) := by decide +kernel
theorem dX7_height_38 : decode cX7_height 38 = .ok (.ifCond .ne 16, 3) := by decide +kernel
theorem dX7_height_41 : decode cX7_height 41 = .ok (.aload 4, 2) := by decide +kernel
theorem dX7_height_43 : decode cX7_height 43 = .ok (.getfield 155, 3) := by decide +kernel
theorem dX7_height_46 : decode cX7_height 46 = .ok (.getfield 185, 3) := by decide +kernel
theorem dX7_height_49 : decode cX7_height 49 = .ok (.iload_n 2, 1) := by decide +kernel
theorem dX7_height_50 : decode cX7_height 50 = .ok (.laload, 1) := by decide +kernel
theorem dX7_height_51 : decode cX7_height 51 = .ok (.goto 13, 3) := by decide +kernel
theorem dX7_height_54 : decode cX7_height 54 = .ok (.aload 4, 2) := by decide +kernel
theorem dX7_height_56 : decode cX7_height 56 = .ok (.getfield 155, 3) := by decide +kernel
theorem dX7_height_59 : decode cX7_height 59 = .ok (.getfield 189, 3) := by decide +kernel
theorem dX7_height_62 : decode cX7_height 62 = .ok (.iload_n 2, 1) := by decide +kernel
theorem dX7_height_63 : decode cX7_height 63 = .ok (.laload, 1) := by decide +kernel
theorem dX7_height_64 : decode cX7_height 64 = .ok (.lreturn, 1) := by decide +kernel
theorem dX7_joins_0 : decode cX7_joins 0 = .ok (.aload_n 0, 1) := by decide +kernel
theorem dX7_joins_1 : decode cX7_joins 1 = .ok (.iload_n 1, 1) := by decide +kernel
theorem dX7_joins_2 : decode cX7_joins 2 = .ok (.invokevirtual 151, 3) := by decide +kernel
theorem dX7_joins_5 : decode cX7_joins 5 = .ok (.astore 4, 2) := by decide +kernel
theorem dX7_joins_7 : decode cX7_joins 7 = .ok (.aload 4, 2) := by decide +kernel
theorem dX7_joins_9 : decode cX7_joins 9 = .ok (.ifnull 26, 3) := by decide +kernel
theorem dX7_joins_12 : decode cX7_joins 12 = .ok (.aload 4, 2) := by decide +kernel
theorem dX7_joins_14 : decode cX7_joins 14 = .ok (.iload_n 2, 1) := by decide +kernel
theorem dX7_joins_15 : decode cX7_joins 15 = .ok (.invokevirtual 192, 3) := by decide +kernel
theorem dX7_joins_18 : decode cX7_joins 18 = .ok (.ifCond .eq 17, 3) := by decide +kernel
theorem dX7_joins_21 : decode cX7_joins 21 = .ok (.aload 4, 2) := by decide +kernel
theorem dX7_joins_23 : decode cX7_joins 23 = .ok (.iload_n 3, 1) := by decide +kernel
theorem dX7_joins_24 : decode cX7_joins 24 = .ok (.invokevirtual 192, 3) := by decide +kernel
theorem dX7_joins_27 : decode cX7_joins 27 = .ok (.ifCond .eq 8, 3) := by decide +kernel
theorem dX7_joins_30 : decode cX7_joins 30 = .ok (.iload_n 2, 1) := by decide +kernel
theorem dX7_joins_31 : decode cX7_joins 31 = .ok (.iload_n 3, 1) := by decide +kernel
theorem dX7_joins_32 : decode cX7_joins 32 = .ok (.if_icmp .ne 5, 3) := by decide +kernel
theorem dX7_joins_35 : decode cX7_joins 35 = .ok (.iconst (-1), 1) := by decide +kernel
theorem dX7_joins_36 : decode cX7_joins 36 = .ok (.ireturn, 1) := by decide +kernel
theorem dX7_joins_37 : decode cX7_joins 37 = .ok (.aload 4, 2) := by decide +kernel
theorem dX7_joins_39 : decode cX7_joins 39 = .ok (.getfield 155, 3) := by decide +kernel
theorem dX7_joins_42 : decode cX7_joins 42 = .ok (.iconst 1, 1) := by decide +kernel
theorem dX7_joins_43 : decode cX7_joins 43 = .ok (.iload_n 2, 1) := by decide +kernel
theorem dX7_joins_44 : decode cX7_joins 44 = .ok (.ishl, 1) := by decide +kernel
theorem dX7_joins_45 : decode cX7_joins 45 = .ok (.iconst 1, 1) := by decide +kernel
theorem dX7_joins_46 : decode cX7_joins 46 = .ok (.iload_n 3, 1) := by decide +kernel
theorem dX7_joins_47 : decode cX7_joins 47 = .ok (.ishl, 1) := by decide +kernel
theorem dX7_joins_48 : decode cX7_joins 48 = .ok (.ior, 1) := by decide +kernel
theorem dX7_joins_49 : decode cX7_joins 49 = .ok (.invokevirtual 193, 3) := by decide +kernel
theorem dX7_joins_52 : decode cX7_joins 52 = .ok (.ireturn, 1) := by decide +kernel
theorem dX7_same_0 : decode cX7_same 0 = .ok (.aload_n 0, 1) := by decide +kernel
theorem dX7_same_1 : decode cX7_same 1 = .ok (.iload_n 1, 1) := by decide +kernel
theorem dX7_same_2 : decode cX7_same 2 = .ok (.invokevirtual 151, 3) := by decide +kernel
theorem dX7_same_5 : decode cX7_same 5 = .ok (.astore_n 3, 1) := by decide +kernel
theorem dX7_same_6 : decode cX7_same 6 = .ok (.aload_n 0, 1) := by decide +kernel
theorem dX7_same_7 : decode cX7_same 7 = .ok (.iload_n 2, 1) := by decide +kernel
theorem dX7_same_8 : decode cX7_same 8 = .ok (.invokevirtual 151, 3) := by decide +kernel
theorem dX7_same_11 : decode cX7_same 11 = .ok (.astore 4, 2) := by decide +kernel
theorem dX7_same_13 : decode cX7_same 13 = .ok (.aload_n 3, 1) := by decide +kernel
theorem dX7_same_14 : decode cX7_same 14 = .ok (.ifnull 8, 3) := by decide +kernel
theorem dX7_same_17 : decode cX7_same 17 = .ok (.aload 4, 2) := by decide +kernel
theorem dX7_same_19 : decode cX7_same 19 = .ok (.ifnonnull 5, 3) := by decide +kernel
theorem dX7_same_22 : decode cX7_same 22 = .ok (.iconst 0, 1) := by decide +kernel
theorem dX7_same_23 : decode cX7_same 23 = .ok (.ireturn, 1) := by decide +kernel
theorem dX7_same_24 : decode cX7_same 24 = .ok (.aload_n 3, 1) := by decide +kernel
theorem dX7_same_25 : decode cX7_same 25 = .ok (.getfield 165, 3) := by decide +kernel
theorem dX7_same_28 : decode cX7_same 28 = .ok (.aload 4, 2) := by decide +kernel
theorem dX7_same_30 : decode cX7_same 30 = .ok (.getfield 165, 3) := by decide +kernel
theorem dX7_same_33 : decode cX7_same 33 = .ok (.if_icmp .ne 22, 3) := by decide +kernel
theorem dX7_same_36 : decode cX7_same 36 = .ok (.aload_n 3, 1) := by decide +kernel
theorem dX7_same_37 : decode cX7_same 37 = .ok (.getfield 155, 3) := by decide +kernel
theorem dX7_same_40 : decode cX7_same 40 = .ok (.aload 4, 2) := by decide +kernel
theorem dX7_same_42 : decode cX7_same 42 = .ok (.getfield 155, 3) := by decide +kernel
theorem dX7_same_45 : decode cX7_same 45 = .ok (.invokevirtual 196, 3) := by decide +kernel
theorem dX7_same_48 : decode cX7_same 48 = .ok (.ifCond .eq 7, 3) := by decide +kernel
theorem dX7_same_51 : decode cX7_same 51 = .ok (.iconst 1, 1) := by decide +kernel
theorem dX7_same_52 : decode cX7_same 52 = .ok (.goto 4, 3) := by decide +kernel
theorem dX7_same_55 : decode cX7_same 55 = .ok (.iconst 0, 1) := by decide +kernel
theorem dX7_same_56 : decode cX7_same 56 = .ok (.ireturn, 1) := by decide +kernel
theorem dX7_text_0 : decode cX7_text 0 = .ok (.aload_n 0, 1) := by decide +kernel
theorem dX7_text_1 : decode cX7_text 1 = .ok (.iload_n 1, 1) := by decide +kernel
theorem dX7_text_2 : decode cX7_text 2 = .ok (.invokevirtual 151, 3) := by decide +kernel
theorem dX7_text_5 : decode cX7_text 5 = .ok (.astore_n 2, 1) := by decide +kernel
theorem dX7_text_6 : decode cX7_text 6 = .ok (.aload_n 2, 1) := by decide +kernel
theorem dX7_text_7 : decode cX7_text 7 = .ok (.ifnonnull 5, 3) := by decide +kernel
theorem dX7_text_10 : decode cX7_text 10 = .ok (.iconst (-1), 1) := by decide +kernel
theorem dX7_text_11 : decode cX7_text 11 = .ok (.ireturn, 1) := by decide +kernel
theorem dX7_text_12 : decode cX7_text 12 = .ok (.aload_n 0, 1) := by decide +kernel
theorem dX7_text_13 : decode cX7_text 13 = .ok (.getfield 23, 3) := by decide +kernel
theorem dX7_text_16 : decode cX7_text 16 = .ok (.iconst 0, 1) := by decide +kernel
theorem dX7_text_17 : decode cX7_text 17 = .ok (.putfield 77, 3) := by decide +kernel
theorem dX7_text_20 : decode cX7_text 20 = .ok (.aload_n 2, 1) := by decide +kernel
theorem dX7_text_21 : decode cX7_text 21 = .ok (.getfield 165, 3) := by decide +kernel
theorem dX7_text_24 : decode cX7_text 24 = .ok (.ifCond .le 16, 3) := by decide +kernel
theorem dX7_text_27 : decode cX7_text 27 = .ok (.aload_n 0, 1) := by decide +kernel
theorem dX7_text_28 : decode cX7_text 28 = .ok (.getfield 23, 3) := by decide +kernel
theorem dX7_text_31 : decode cX7_text 31 = .ok (.aload_n 2, 1) := by decide +kernel
theorem dX7_text_32 : decode cX7_text 32 = .ok (.aload_n 2, 1) := by decide +kernel
theorem dX7_text_33 : decode cX7_text 33 = .ok (.invokevirtual 200, 3) := by decide +kernel
theorem dX7_text_36 : decode cX7_text 36 = .ok (.iconst 0, 1) := by decide +kernel
theorem dX7_text_37 : decode cX7_text 37 = .ok (.invokestatic 203, 3) := by decide +kernel
theorem dX7_text_40 : decode cX7_text 40 = .ok (.aload_n 0, 1) := by decide +kernel
theorem dX7_text_41 : decode cX7_text 41 = .ok (.getfield 23, 3) := by decide +kernel
theorem dX7_text_44 : decode cX7_text 44 = .ok (.bipush 59, 2) := by decide +kernel
theorem dX7_text_46 : decode cX7_text 46 = .ok (.invokevirtual 105, 3) := by decide +kernel
theorem dX7_text_49 : decode cX7_text 49 = .ok (.aload_n 0, 1) := by decide +kernel
theorem dX7_text_50 : decode cX7_text 50 = .ok (.getfield 23, 3) := by decide +kernel
theorem dX7_text_53 : decode cX7_text 53 = .ok (.getfield 77, 3) := by decide +kernel
theorem dX7_text_56 : decode cX7_text 56 = .ok (.ireturn, 1) := by decide +kernel
theorem dX7_order_0 : decode cX7_order 0 = .ok (.aload_n 0, 1) := by decide +kernel
theorem dX7_order_1 : decode cX7_order 1 = .ok (.iload_n 1, 1) := by decide +kernel
theorem dX7_order_2 : decode cX7_order 2 = .ok (.invokevirtual 151, 3) := by decide +kernel
theorem dX7_order_5 : decode cX7_order 5 = .ok (.astore_n 3, 1) := by decide +kernel
theorem dX7_order_6 : decode cX7_order 6 = .ok (.aload_n 3, 1) := by decide +kernel
theorem dX7_order_7 : decode cX7_order 7 = .ok (.ifnull 11, 3) := by decide +kernel
theorem dX7_order_10 : decode cX7_order 10 = .ok (.aload_n 3, 1) := by decide +kernel
theorem dX7_order_11 : decode cX7_order 11 = .ok (.iload_n 2, 1) := by decide +kernel
theorem dX7_order_12 : decode cX7_order 12 = .ok (.invokevirtual 192, 3) := by decide +kernel
theorem dX7_order_15 : decode cX7_order 15 = .ok (.ifCond .ne 5, 3) := by decide +kernel
theorem dX7_order_18 : decode cX7_order 18 = .ok (.iconst (-1), 1) := by decide +kernel
theorem dX7_order_19 : decode cX7_order 19 = .ok (.ireturn, 1) := by decide +kernel
theorem dX7_order_20 : decode cX7_order 20 = .ok (.aload_n 3, 1) := by decide +kernel
theorem dX7_order_21 : decode cX7_order 21 = .ok (.iload_n 2, 1) := by decide +kernel
theorem dX7_order_22 : decode cX7_order 22 = .ok (.invokevirtual 207, 3) := by decide +kernel
theorem dX7_order_25 : decode cX7_order 25 = .ok (.ireturn, 1) := by decide +kernel
theorem dX7_cut_0 : decode cX7_cut 0 = .ok (.aload_n 0, 1) := by decide +kernel
theorem dX7_cut_1 : decode cX7_cut 1 = .ok (.iload_n 1, 1) := by decide +kernel
theorem dX7_cut_2 : decode cX7_cut 2 = .ok (.invokevirtual 151, 3) := by decide +kernel
theorem dX7_cut_5 : decode cX7_cut 5 = .ok (.astore_n 3, 1) := by decide +kernel
theorem dX7_cut_6 : decode cX7_cut 6 = .ok (.aload_n 3, 1) := by decide +kernel
theorem dX7_cut_7 : decode cX7_cut 7 = .ok (.ifnull 23, 3) := by decide +kernel
theorem dX7_cut_10 : decode cX7_cut 10 = .ok (.iload_n 2, 1) := by decide +kernel
theorem dX7_cut_11 : decode cX7_cut 11 = .ok (.iconst 1, 1) := by decide +kernel
theorem dX7_cut_12 : decode cX7_cut 12 = .ok (.aload_n 3, 1) := by decide +kernel
theorem dX7_cut_13 : decode cX7_cut 13 = .ok (.getfield 165, 3) := by decide +kernel
theorem dX7_cut_16 : decode cX7_cut 16 = .ok (.invokestatic 210, 3) := by decide +kernel
theorem dX7_cut_19 : decode cX7_cut 19 = .ok (.if_icmp .lt 11, 3) := by decide +kernel
theorem dX7_cut_22 : decode cX7_cut 22 = .ok (.iload_n 2, 1) := by decide +kernel
theorem dX7_cut_23 : decode cX7_cut 23 = .ok (.aload_n 3, 1) := by decide +kernel
theorem dX7_cut_24 : decode cX7_cut 24 = .ok (.getfield 165, 3) := by decide +kernel
theorem dX7_cut_27 : decode cX7_cut 27 = .ok (.if_icmp .le 5, 3) := by decide +kernel
theorem dX7_cut_30 : decode cX7_cut 30 = .ok (.iconst (-1), 1) := by decide +kernel
theorem dX7_cut_31 : decode cX7_cut 31 = .ok (.ireturn, 1) := by decide +kernel
theorem dX7_cut_32 : decode cX7_cut 32 = .ok (.aload_n 3, 1) := by decide +kernel
theorem dX7_cut_33 : decode cX7_cut 33 = .ok (.aload_n 3, 1) := by decide +kernel
theorem dX7_cut_34 : decode cX7_cut 34 = .ok (.getfield 165, 3) := by decide +kernel
theorem dX7_cut_37 : decode cX7_cut 37 = .ok (.iload_n 2, 1) := by decide +kernel
theorem dX7_cut_38 : decode cX7_cut 38 = .ok (.isub, 1) := by decide +kernel
theorem dX7_cut_39 : decode cX7_cut 39 = .ok (.invokevirtual 216, 3) := by decide +kernel
theorem dX7_cut_42 : decode cX7_cut 42 = .ok (.ireturn, 1) := by decide +kernel
theorem dX7_cutAt_0 : decode cX7_cutAt 0 = .ok (.aload_n 0, 1) := by decide +kernel
theorem dX7_cutAt_1 : decode cX7_cutAt 1 = .ok (.iload_n 1, 1) := by decide +kernel
theorem dX7_cutAt_2 : decode cX7_cutAt 2 = .ok (.invokevirtual 151, 3) := by decide +kernel
theorem dX7_cutAt_5 : decode cX7_cutAt 5 = .ok (.astore 4, 2) := by decide +kernel
theorem dX7_cutAt_7 : decode cX7_cutAt 7 = .ok (.aload 4, 2) := by decide +kernel
theorem dX7_cutAt_9 : decode cX7_cutAt 9 = .ok (.ifnull 25, 3) := by decide +kernel
theorem dX7_cutAt_12 : decode cX7_cutAt 12 = .ok (.iload_n 2, 1) := by decide +kernel
theorem dX7_cutAt_13 : decode cX7_cutAt 13 = .ok (.ifCond .lt 21, 3) := by decide +kernel
theorem dX7_cutAt_16 : decode cX7_cutAt 16 = .ok (.iload_n 2, 1) := by decide +kernel
theorem dX7_cutAt_17 : decode cX7_cutAt 17 = .ok (.ldc 219, 2) := by decide +kernel
theorem dX7_cutAt_19 : decode cX7_cutAt 19 = .ok (.if_icmp .gt 15, 3) := by decide +kernel
theorem dX7_cutAt_22 : decode cX7_cutAt 22 = .ok (.iload_n 3, 1) := by decide +kernel
theorem dX7_cutAt_23 : decode cX7_cutAt 23 = .ok (.iconst 1, 1) := by decide +kernel
theorem dX7_cutAt_24 : decode cX7_cutAt 24 = .ok (.if_icmp .lt 10, 3) := by decide +kernel
theorem dX7_cutAt_27 : decode cX7_cutAt 27 = .ok (.iload_n 3, 1) := by decide +kernel
theorem dX7_cutAt_28 : decode cX7_cutAt 28 = .ok (.sipush 1000, 3) := by decide +kernel
theorem dX7_cutAt_31 : decode cX7_cutAt 31 = .ok (.if_icmp .le 5, 3) := by decide +kernel
theorem dX7_cutAt_34 : decode cX7_cutAt 34 = .ok (.iconst (-1), 1) := by decide +kernel
theorem dX7_cutAt_35 : decode cX7_cutAt 35 = .ok (.ireturn, 1) := by decide +kernel
theorem dX7_cutAt_36 : decode cX7_cutAt 36 = .ok (.aload 4, 2) := by decide +kernel
theorem dX7_cutAt_38 : decode cX7_cutAt 38 = .ok (.aload 4, 2) := by decide +kernel
theorem dX7_cutAt_40 : decode cX7_cutAt 40 = .ok (.getfield 155, 3) := by decide +kernel
theorem dX7_cutAt_43 : decode cX7_cutAt 43 = .ok (.iload_n 2, 1) := by decide +kernel
theorem dX7_cutAt_44 : decode cX7_cutAt 44 = .ok (.i2l, 1) := by decide +kernel
theorem dX7_cutAt_45 : decode cX7_cutAt 45 = .ok (.iload_n 3, 1) := by decide +kernel
theorem dX7_cutAt_46 : decode cX7_cutAt 46 = .ok (.i2l, 1) := by decide +kernel
theorem dX7_cutAt_47 : decode cX7_cutAt 47 = .ok (.invokevirtual 220, 3) := by decide +kernel
theorem dX7_cutAt_50 : decode cX7_cutAt 50 = .ok (.invokevirtual 216, 3) := by decide +kernel
theorem dX7_cutAt_53 : decode cX7_cutAt 53 = .ok (.ireturn, 1) := by decide +kernel
theorem dX7_label_0 : decode cX7_label 0 = .ok (.aload_n 0, 1) := by decide +kernel
theorem dX7_label_1 : decode cX7_label 1 = .ok (.iload_n 1, 1) := by decide +kernel
theorem dX7_label_2 : decode cX7_label 2 = .ok (.invokevirtual 151, 3) := by decide +kernel
theorem dX7_label_5 : decode cX7_label 5 = .ok (.astore_n 3, 1) := by decide +kernel
theorem dX7_label_6 : decode cX7_label 6 = .ok (.aload_n 3, 1) := by decide +kernel
theorem dX7_label_7 : decode cX7_label 7 = .ok (.ifnull 11, 3) := by decide +kernel
theorem dX7_label_10 : decode cX7_label 10 = .ok (.aload_n 3, 1) := by decide +kernel
theorem dX7_label_11 : decode cX7_label 11 = .ok (.iload_n 2, 1) := by decide +kernel
theorem dX7_label_12 : decode cX7_label 12 = .ok (.invokevirtual 192, 3) := by decide +kernel
theorem dX7_label_15 : decode cX7_label 15 = .ok (.ifCond .ne 5, 3) := by decide +kernel
theorem dX7_label_18 : decode cX7_label 18 = .ok (.iconst (-1), 1) := by decide +kernel
theorem dX7_label_19 : decode cX7_label 19 = .ok (.ireturn, 1) := by decide +kernel
theorem dX7_label_20 : decode cX7_label 20 = .ok (.aload_n 3, 1) := by decide +kernel
theorem dX7_label_21 : decode cX7_label 21 = .ok (.getfield 224, 3) := by decide +kernel
theorem dX7_label_24 : decode cX7_label 24 = .ok (.iload_n 2, 1) := by decide +kernel
theorem dX7_label_25 : decode cX7_label 25 = .ok (.iaload, 1) := by decide +kernel
theorem dX7_label_26 : decode cX7_label 26 = .ok (.ireturn, 1) := by decide +kernel
theorem dX7_agree_0 : decode cX7_agree 0 = .ok (.aload_n 0, 1) := by decide +kernel
theorem dX7_agree_1 : decode cX7_agree 1 = .ok (.iload_n 1, 1) := by decide +kernel
theorem dX7_agree_2 : decode cX7_agree 2 = .ok (.invokevirtual 151, 3) := by decide +kernel
theorem dX7_agree_5 : decode cX7_agree 5 = .ok (.astore_n 3, 1) := by decide +kernel
theorem dX7_agree_6 : decode cX7_agree 6 = .ok (.aload_n 0, 1) := by decide +kernel
theorem dX7_agree_7 : decode cX7_agree 7 = .ok (.iload_n 2, 1) := by decide +kernel
theorem dX7_agree_8 : decode cX7_agree 8 = .ok (.invokevirtual 151, 3) := by decide +kernel
theorem dX7_agree_11 : decode cX7_agree 11 = .ok (.astore 4, 2) := by decide +kernel
theorem dX7_agree_13 : decode cX7_agree 13 = .ok (.aload_n 3, 1) := by decide +kernel
theorem dX7_agree_14 : decode cX7_agree 14 = .ok (.ifnull 20, 3) := by decide +kernel
theorem dX7_agree_17 : decode cX7_agree 17 = .ok (.aload 4, 2) := by decide +kernel
theorem dX7_agree_19 : decode cX7_agree 19 = .ok (.ifnull 15, 3) := by decide +kernel
theorem dX7_agree_22 : decode cX7_agree 22 = .ok (.aload_n 3, 1) := by decide +kernel
theorem dX7_agree_23 : decode cX7_agree 23 = .ok (.getfield 165, 3) := by decide +kernel
theorem dX7_agree_26 : decode cX7_agree 26 = .ok (.aload 4, 2) := by decide +kernel
theorem dX7_agree_28 : decode cX7_agree 28 = .ok (.getfield 165, 3) := by decide +kernel
theorem dX7_agree_31 : decode cX7_agree 31 = .ok (.if_icmp .eq 5, 3) := by decide +kernel
theorem dX7_agree_34 : decode cX7_agree 34 = .ok (.iconst (-1), 1) := by decide +kernel
theorem dX7_agree_35 : decode cX7_agree 35 = .ok (.ireturn, 1) := by decide +kernel
theorem dX7_agree_36 : decode cX7_agree 36 = .ok (.iconst 0, 1) := by decide +kernel
theorem dX7_agree_37 : decode cX7_agree 37 = .ok (.istore 5, 2) := by decide +kernel
theorem dX7_agree_39 : decode cX7_agree 39 = .ok (.iconst 1, 1) := by decide +kernel
theorem dX7_agree_40 : decode cX7_agree 40 = .ok (.istore 6, 2) := by decide +kernel
theorem dX7_agree_42 : decode cX7_agree 42 = .ok (.iload 6, 2) := by decide +kernel
theorem dX7_agree_44 : decode cX7_agree 44 = .ok (.aload_n 3, 1) := by decide +kernel
theorem dX7_agree_45 : decode cX7_agree 45 = .ok (.getfield 165, 3) := by decide +kernel
theorem dX7_agree_48 : decode cX7_agree 48 = .ok (.if_icmp .ge 48, 3) := by decide +kernel
theorem dX7_agree_51 : decode cX7_agree 51 = .ok (.iconst 0, 1) := by decide +kernel
theorem dX7_agree_52 : decode cX7_agree 52 = .ok (.istore 7, 2) := by decide +kernel
theorem dX7_agree_54 : decode cX7_agree 54 = .ok (.iload 7, 2) := by decide +kernel
theorem dX7_agree_56 : decode cX7_agree 56 = .ok (.iload 6, 2) := by decide +kernel
theorem dX7_agree_58 : decode cX7_agree 58 = .ok (.if_icmp .ge 32, 3) := by decide +kernel
theorem dX7_agree_61 : decode cX7_agree 61 = .ok (.aload_n 3, 1) := by decide +kernel
theorem dX7_agree_62 : decode cX7_agree 62 = .ok (.iload 6, 2) := by decide +kernel
theorem dX7_agree_64 : decode cX7_agree 64 = .ok (.iload 7, 2) := by decide +kernel
theorem dX7_agree_66 : decode cX7_agree 66 = .ok (.invokevirtual 227, 3) := by decide +kernel
theorem dX7_agree_69 : decode cX7_agree 69 = .ok (.aload 4, 2) := by decide +kernel
theorem dX7_agree_71 : decode cX7_agree 71 = .ok (.iload 6, 2) := by decide +kernel
theorem dX7_agree_73 : decode cX7_agree 73 = .ok (.iload 7, 2) := by decide +kernel
theorem dX7_agree_75 : decode cX7_agree 75 = .ok (.invokevirtual 227, 3) := by decide +kernel
theorem dX7_agree_78 : decode cX7_agree 78 = .ok (.if_icmp .ne 6, 3) := by decide +kernel
theorem dX7_agree_81 : decode cX7_agree 81 = .ok (.iinc 5 1, 3) := by decide +kernel
theorem dX7_agree_84 : decode cX7_agree 84 = .ok (.iinc 7 1, 3) := by decide +kernel
theorem dX7_agree_87 : decode cX7_agree 87 = .ok (.goto (-33), 3) := by decide +kernel
theorem dX7_agree_90 : decode cX7_agree 90 = .ok (.iinc 6 1, 3) := by decide +kernel
theorem dX7_agree_93 : decode cX7_agree 93 = .ok (.goto (-51), 3) := by decide +kernel
theorem dX7_agree_96 : decode cX7_agree 96 = .ok (.iload 5, 2) := by decide +kernel
theorem dX7_agree_98 : decode cX7_agree 98 = .ok (.ireturn, 1) := by decide +kernel
theorem dX7_middle_0 : decode cX7_middle 0 = .ok (.aload_n 0, 1) := by decide +kernel
theorem dX7_middle_1 : decode cX7_middle 1 = .ok (.iload_n 1, 1) := by decide +kernel
theorem dX7_middle_2 : decode cX7_middle 2 = .ok (.invokevirtual 151, 3) := by decide +kernel
theorem dX7_middle_5 : decode cX7_middle 5 = .ok (.astore_n 3, 1) := by decide +kernel
theorem dX7_middle_6 : decode cX7_middle 6 = .ok (.aload_n 3, 1) := by decide +kernel
theorem dX7_middle_7 : decode cX7_middle 7 = .ok (.ifnull 25, 3) := by decide +kernel
theorem dX7_middle_10 : decode cX7_middle 10 = .ok (.aload_n 3, 1) := by decide +kernel
theorem dX7_middle_11 : decode cX7_middle 11 = .ok (.iload_n 2, 1) := by decide +kernel
theorem dX7_middle_12 : decode cX7_middle 12 = .ok (.invokevirtual 192, 3) := by decide +kernel
theorem dX7_middle_15 : decode cX7_middle 15 = .ok (.ifCond .eq 17, 3) := by decide +kernel
theorem dX7_middle_18 : decode cX7_middle 18 = .ok (.aload_n 3, 1) := by decide +kernel
theorem dX7_middle_19 : decode cX7_middle 19 = .ok (.getfield 165, 3) := by decide +kernel
theorem dX7_middle_22 : decode cX7_middle 22 = .ok (.aload_n 0, 1) := by decide +kernel
theorem dX7_middle_23 : decode cX7_middle 23 = .ok (.getfield 12, 3) := by decide +kernel
theorem dX7_middle_26 : decode cX7_middle 26 = .ok (.getfield 95, 3) := by decide +kernel
theorem dX7_middle_29 : decode cX7_middle 29 = .ok (.if_icmp .eq 5, 3) := by decide +kernel
theorem dX7_middle_32 : decode cX7_middle 32 = .ok (.iconst (-1), 1) := by decide +kernel
theorem dX7_middle_33 : decode cX7_middle 33 = .ok (.ireturn, 1) := by decide +kernel
theorem dX7_middle_34 : decode cX7_middle 34 = .ok (.iconst (-1), 1) := by decide +kernel
theorem dX7_middle_35 : decode cX7_middle 35 = .ok (.istore 4, 2) := by decide +kernel
theorem dX7_middle_37 : decode cX7_middle 37 = .ok (.iconst 0, 1) := by decide +kernel
theorem dX7_middle_38 : decode cX7_middle 38 = .ok (.istore 5, 2) := by decide +kernel
theorem dX7_middle_40 : decode cX7_middle 40 = .ok (.iconst 0, 1) := by decide +kernel
theorem dX7_middle_41 : decode cX7_middle 41 = .ok (.istore 6, 2) := by decide +kernel
theorem dX7_middle_43 : decode cX7_middle 43 = .ok (.iload 6, 2) := by decide +kernel
theorem dX7_middle_45 : decode cX7_middle 45 = .ok (.aload_n 3, 1) := by decide +kernel
theorem dX7_middle_46 : decode cX7_middle 46 = .ok (.getfield 165, 3) := by decide +kernel
theorem dX7_middle_49 : decode cX7_middle 49 = .ok (.if_icmp .ge 49, 3) := by decide +kernel
theorem dX7_middle_52 : decode cX7_middle 52 = .ok (.aload_n 3, 1) := by decide +kernel
theorem dX7_middle_53 : decode cX7_middle 53 = .ok (.iload 6, 2) := by decide +kernel
theorem dX7_middle_55 : decode cX7_middle 55 = .ok (.iload_n 2, 1) := by decide +kernel
theorem dX7_middle_56 : decode cX7_middle 56 = .ok (.invokevirtual 227, 3) := by decide +kernel
theorem dX7_middle_59 : decode cX7_middle 59 = .ok (.ifCond .eq 33, 3) := by decide +kernel
theorem dX7_middle_62 : decode cX7_middle 62 = .ok (.aload_n 0, 1) := by decide +kernel
theorem dX7_middle_63 : decode cX7_middle 63 = .ok (.aload_n 3, 1) := by decide +kernel
theorem dX7_middle_64 : decode cX7_middle 64 = .ok (.iload 6, 2) := by decide +kernel
theorem dX7_middle_66 : decode cX7_middle 66 = .ok (.invokevirtual 231, 3) := by decide +kernel
theorem dX7_middle_69 : decode cX7_middle 69 = .ok (.istore 7, 2) := by decide +kernel
theorem dX7_middle_71 : decode cX7_middle 71 = .ok (.iload 4, 2) := by decide +kernel
theorem dX7_middle_73 : decode cX7_middle 73 = .ok (.iconst (-1), 1) := by decide +kernel
theorem dX7_middle_74 : decode cX7_middle 74 = .ok (.if_icmp .eq 10, 3) := by decide +kernel
theorem dX7_middle_77 : decode cX7_middle 77 = .ok (.iload 7, 2) := by decide +kernel
theorem dX7_middle_79 : decode cX7_middle 79 = .ok (.iload 5, 2) := by decide +kernel
theorem dX7_middle_81 : decode cX7_middle 81 = .ok (.if_icmp .ge 11, 3) := by decide +kernel
theorem dX7_middle_84 : decode cX7_middle 84 = .ok (.iload 6, 2) := by decide +kernel
theorem dX7_middle_86 : decode cX7_middle 86 = .ok (.istore 4, 2) := by decide +kernel
theorem dX7_middle_88 : decode cX7_middle 88 = .ok (.iload 7, 2) := by decide +kernel
theorem dX7_middle_90 : decode cX7_middle 90 = .ok (.istore 5, 2) := by decide +kernel
theorem dX7_middle_92 : decode cX7_middle 92 = .ok (.iinc 6 1, 3) := by decide +kernel
theorem dX7_middle_95 : decode cX7_middle 95 = .ok (.goto (-52), 3) := by decide +kernel
theorem dX7_middle_98 : decode cX7_middle 98 = .ok (.iload 4, 2) := by decide +kernel
theorem dX7_middle_100 : decode cX7_middle 100 = .ok (.ireturn, 1) := by decide +kernel
theorem dX7_isTooFar_0 : decode cX7_isTooFar 0 = .ok (.iload_n 0, 1) := by decide +kernel
theorem dX7_isTooFar_1 : decode cX7_isTooFar 1 = .ok (.sipush (-500), 3) := by decide +kernel
theorem dX7_isTooFar_4 : decode cX7_isTooFar 4 = .ok (.if_icmp .lt 10, 3) := by decide +kernel
theorem dX7_isTooFar_7 : decode cX7_isTooFar 7 = .ok (.iload_n 0, 1) := by decide +kernel
theorem dX7_isTooFar_8 : decode cX7_isTooFar 8 = .ok (.sipush 500, 3) := by decide +kernel
theorem dX7_isTooFar_11 : decode cX7_isTooFar 11 = .ok (.if_icmp .le 7, 3) := by decide +kernel
theorem dX7_isTooFar_14 : decode cX7_isTooFar 14 = .ok (.iconst 1, 1) := by decide +kernel
theorem dX7_isTooFar_15 : decode cX7_isTooFar 15 = .ok (.goto 4, 3) := by decide +kernel
theorem dX7_isTooFar_18 : decode cX7_isTooFar 18 = .ok (.iconst 0, 1) := by decide +kernel
theorem dX7_isTooFar_19 : decode cX7_isTooFar 19 = .ok (.ireturn, 1) := by decide +kernel
theorem dX7_treeIn_0 : decode cX7_treeIn 0 = .ok (.iload_n 1, 1) := by decide +kernel
theorem dX7_treeIn_1 : decode cX7_treeIn 1 = .ok (.ifCond .lt 20, 3) := by decide +kernel
theorem dX7_treeIn_4 : decode cX7_treeIn 4 = .ok (.iload_n 1, 1) := by decide +kernel
theorem dX7_treeIn_5 : decode cX7_treeIn 5 = .ok (.iconst 4, 1) := by decide +kernel
theorem dX7_treeIn_6 : decode cX7_treeIn 6 = .ok (.if_icmp .ge 15, 3) := by decide +kernel
theorem dX7_treeIn_9 : decode cX7_treeIn 9 = .ok (.aload_n 0, 1) := by decide +kernel
theorem dX7_treeIn_10 : decode cX7_treeIn 10 = .ok (.getfield 42, 3) := by decide +kernel
theorem dX7_treeIn_13 : decode cX7_treeIn 13 = .ok (.iload_n 1, 1) := by decide +kernel
theorem dX7_treeIn_14 : decode cX7_treeIn 14 = .ok (.aaload, 1) := by decide +kernel
theorem dX7_treeIn_15 : decode cX7_treeIn 15 = .ok (.getfield 235, 3) := by decide +kernel
theorem dX7_treeIn_18 : decode cX7_treeIn 18 = .ok (.ifCond .ne 5, 3) := by decide +kernel
theorem dX7_treeIn_21 : decode cX7_treeIn 21 = .ok (.aconst_null, 1) := by decide +kernel
theorem dX7_treeIn_22 : decode cX7_treeIn 22 = .ok (.areturn, 1) := by decide +kernel
theorem dX7_treeIn_23 : decode cX7_treeIn 23 = .ok (.aload_n 0, 1) := by decide +kernel
theorem dX7_treeIn_24 : decode cX7_treeIn 24 = .ok (.getfield 42, 3) := by decide +kernel
theorem dX7_treeIn_27 : decode cX7_treeIn 27 = .ok (.iload_n 1, 1) := by decide +kernel
theorem dX7_treeIn_28 : decode cX7_treeIn 28 = .ok (.aaload, 1) := by decide +kernel
theorem dX7_treeIn_29 : decode cX7_treeIn 29 = .ok (.areturn, 1) := by decide +kernel
theorem dX7_makeTree_0 : decode cX7_makeTree 0 = .ok (.iload_n 1, 1) := by decide +kernel
theorem dX7_makeTree_1 : decode cX7_makeTree 1 = .ok (.ifCond .lt 17, 3) := by decide +kernel
theorem dX7_makeTree_4 : decode cX7_makeTree 4 = .ok (.iload_n 1, 1) := by decide +kernel
theorem dX7_makeTree_5 : decode cX7_makeTree 5 = .ok (.iconst 4, 1) := by decide +kernel
theorem dX7_makeTree_6 : decode cX7_makeTree 6 = .ok (.if_icmp .ge 12, 3) := by decide +kernel
theorem dX7_makeTree_9 : decode cX7_makeTree 9 = .ok (.iload_n 2, 1) := by decide +kernel
theorem dX7_makeTree_10 : decode cX7_makeTree 10 = .ok (.ifCond .lt 8, 3) := by decide +kernel
theorem dX7_makeTree_13 : decode cX7_makeTree 13 = .ok (.iload_n 2, 1) := by decide +kernel
theorem dX7_makeTree_14 : decode cX7_makeTree 14 = .ok (.iconst 4, 1) := by decide +kernel
theorem dX7_makeTree_15 : decode cX7_makeTree 15 = .ok (.if_icmp .le 5, 3) := by decide +kernel
theorem dX7_makeTree_18 : decode cX7_makeTree 18 = .ok (.iconst (-1), 1) := by decide +kernel
theorem dX7_makeTree_19 : decode cX7_makeTree 19 = .ok (.ireturn, 1) := by decide +kernel
theorem dX7_makeTree_20 : decode cX7_makeTree 20 = .ok (.aload_n 0, 1) := by decide +kernel
theorem dX7_makeTree_21 : decode cX7_makeTree 21 = .ok (.getfield 36, 3) := by decide +kernel
theorem dX7_makeTree_24 : decode cX7_makeTree 24 = .ok (.aload_n 0, 1) := by decide +kernel
theorem dX7_makeTree_25 : decode cX7_makeTree 25 = .ok (.getfield 12, 3) := by decide +kernel
theorem dX7_makeTree_28 : decode cX7_makeTree 28 = .ok (.iload_n 2, 1) := by decide +kernel
theorem dX7_makeTree_29 : decode cX7_makeTree 29 = .ok (.invokevirtual 238, 3) := by decide +kernel
theorem dX7_makeTree_32 : decode cX7_makeTree 32 = .ok (.iload_n 3, 1) := by decide +kernel
theorem dX7_makeTree_33 : decode cX7_makeTree 33 = .ok (.ifCond .eq 13, 3) := by decide +kernel
theorem dX7_makeTree_36 : decode cX7_makeTree 36 = .ok (.aload_n 0, 1) := by decide +kernel
theorem dX7_makeTree_37 : decode cX7_makeTree 37 = .ok (.getfield 36, 3) := by decide +kernel
theorem dX7_makeTree_40 : decode cX7_makeTree 40 = .ok (.invokevirtual 242, 3) := by decide +kernel
theorem dX7_makeTree_43 : decode cX7_makeTree 43 = .ok (.goto 10, 3) := by decide +kernel
theorem dX7_makeTree_46 : decode cX7_makeTree 46 = .ok (.aload_n 0, 1) := by decide +kernel
theorem dX7_makeTree_47 : decode cX7_makeTree 47 = .ok (.getfield 36, 3) := by decide +kernel
theorem dX7_makeTree_50 : decode cX7_makeTree 50 = .ok (.invokevirtual 245, 3) := by decide +kernel
theorem dX7_makeTree_53 : decode cX7_makeTree 53 = .ok (.aload_n 0, 1) := by decide +kernel
theorem dX7_makeTree_54 : decode cX7_makeTree 54 = .ok (.getfield 36, 3) := by decide +kernel
theorem dX7_makeTree_57 : decode cX7_makeTree 57 = .ok (.aload_n 0, 1) := by decide +kernel
theorem dX7_makeTree_58 : decode cX7_makeTree 58 = .ok (.getfield 42, 3) := by decide +kernel
theorem dX7_makeTree_61 : decode cX7_makeTree 61 = .ok (.iload_n 1, 1) := by decide +kernel
theorem dX7_makeTree_62 : decode cX7_makeTree 62 = .ok (.aaload, 1) := by decide +kernel
theorem dX7_makeTree_63 : decode cX7_makeTree 63 = .ok (.iload_n 3, 1) := by decide +kernel
theorem dX7_makeTree_64 : decode cX7_makeTree 64 = .ok (.invokevirtual 248, 3) := by decide +kernel
theorem dX7_makeTree_67 : decode cX7_makeTree 67 = .ok (.aload_n 0, 1) := by decide +kernel
theorem dX7_makeTree_68 : decode cX7_makeTree 68 = .ok (.getfield 42, 3) := by decide +kernel
theorem dX7_makeTree_71 : decode cX7_makeTree 71 = .ok (.iload_n 1, 1) := by decide +kernel
theorem dX7_makeTree_72 : decode cX7_makeTree 72 = .ok (.aaload, 1) := by decide +kernel
theorem dX7_makeTree_73 : decode cX7_makeTree 73 = .ok (.getfield 155, 3) := by decide +kernel
theorem dX7_makeTree_76 : decode cX7_makeTree 76 = .ok (.getfield 159, 3) := by decide +kernel
theorem dX7_makeTree_79 : decode cX7_makeTree 79 = .ok (.ireturn, 1) := by decide +kernel
theorem dX7_sumToCluster_0 : decode cX7_sumToCluster 0 = .ok (.iconst 0, 1) := by decide +kernel
theorem dX7_sumToCluster_1 : decode cX7_sumToCluster 1 = .ok (.istore_n 3, 1) := by decide +kernel
theorem dX7_sumToCluster_2 : decode cX7_sumToCluster 2 = .ok (.iconst 0, 1) := by decide +kernel
theorem dX7_sumToCluster_3 : decode cX7_sumToCluster 3 = .ok (.istore 4, 2) := by decide +kernel
theorem dX7_sumToCluster_5 : decode cX7_sumToCluster 5 = .ok (.iload 4, 2) := by decide +kernel
theorem dX7_sumToCluster_7 : decode cX7_sumToCluster 7 = .ok (.aload_n 1, 1) := by decide +kernel
theorem dX7_sumToCluster_8 : decode cX7_sumToCluster 8 = .ok (.getfield 165, 3) := by decide +kernel
theorem dX7_sumToCluster_11 : decode cX7_sumToCluster 11 = .ok (.if_icmp .ge 34, 3) := by decide +kernel
theorem dX7_sumToCluster_14 : decode cX7_sumToCluster 14 = .ok (.aload_n 1, 1) := by decide +kernel
theorem dX7_sumToCluster_15 : decode cX7_sumToCluster 15 = .ok (.iload 4, 2) := by decide +kernel
theorem dX7_sumToCluster_17 : decode cX7_sumToCluster 17 = .ok (.iload_n 2, 1) := by decide +kernel
theorem dX7_sumToCluster_18 : decode cX7_sumToCluster 18 = .ok (.invokevirtual 227, 3) := by decide +kernel
theorem dX7_sumToCluster_21 : decode cX7_sumToCluster 21 = .ok (.ifCond .eq 18, 3) := by decide +kernel
theorem dX7_sumToCluster_24 : decode cX7_sumToCluster 24 = .ok (.iload_n 3, 1) := by decide +kernel
theorem dX7_sumToCluster_25 : decode cX7_sumToCluster 25 = .ok (.aload_n 0, 1) := by decide +kernel
theorem dX7_sumToCluster_26 : decode cX7_sumToCluster 26 = .ok (.getfield 12, 3) := by decide +kernel
theorem dX7_sumToCluster_29 : decode cX7_sumToCluster 29 = .ok (.getfield 60, 3) := by decide +kernel
theorem dX7_sumToCluster_32 : decode cX7_sumToCluster 32 = .ok (.iload_n 2, 1) := by decide +kernel
theorem dX7_sumToCluster_33 : decode cX7_sumToCluster 33 = .ok (.aaload, 1) := by decide +kernel
theorem dX7_sumToCluster_34 : decode cX7_sumToCluster 34 = .ok (.iload 4, 2) := by decide +kernel
theorem dX7_sumToCluster_36 : decode cX7_sumToCluster 36 = .ok (.iaload, 1) := by decide +kernel
theorem dX7_sumToCluster_37 : decode cX7_sumToCluster 37 = .ok (.iadd, 1) := by decide +kernel
theorem dX7_sumToCluster_38 : decode cX7_sumToCluster 38 = .ok (.istore_n 3, 1) := by decide +kernel
theorem dX7_sumToCluster_39 : decode cX7_sumToCluster 39 = .ok (.iinc 4 1, 3) := by decide +kernel
theorem dX7_sumToCluster_42 : decode cX7_sumToCluster 42 = .ok (.goto (-37), 3) := by decide +kernel
theorem dX7_sumToCluster_45 : decode cX7_sumToCluster 45 = .ok (.iload_n 3, 1) := by decide +kernel
theorem dX7_sumToCluster_46 : decode cX7_sumToCluster 46 = .ok (.ireturn, 1) := by decide +kernel
theorem dX7_writeCluster_0 : decode cX7_writeCluster 0 = .ok (.iload_n 2, 1) := by decide +kernel
theorem dX7_writeCluster_1 : decode cX7_writeCluster 1 = .ok (.aload_n 1, 1) := by decide +kernel
theorem dX7_writeCluster_2 : decode cX7_writeCluster 2 = .ok (.getfield 165, 3) := by decide +kernel
theorem dX7_writeCluster_5 : decode cX7_writeCluster 5 = .ok (.if_icmp .ge 10, 3) := by decide +kernel
theorem dX7_writeCluster_8 : decode cX7_writeCluster 8 = .ok (.aload_n 0, 1) := by decide +kernel
theorem dX7_writeCluster_9 : decode cX7_writeCluster 9 = .ok (.iload_n 2, 1) := by decide +kernel
theorem dX7_writeCluster_10 : decode cX7_writeCluster 10 = .ok (.i2l, 1) := by decide +kernel
theorem dX7_writeCluster_11 : decode cX7_writeCluster 11 = .ok (.invokevirtual 101, 3) := by decide +kernel
theorem dX7_writeCluster_14 : decode cX7_writeCluster 14 = .ok (.return_, 1) := by decide +kernel
theorem dX7_writeCluster_15 : decode cX7_writeCluster 15 = .ok (.iload_n 2, 1) := by decide +kernel
theorem dX7_writeCluster_16 : decode cX7_writeCluster 16 = .ok (.aload_n 1, 1) := by decide +kernel
theorem dX7_writeCluster_17 : decode cX7_writeCluster 17 = .ok (.getfield 165, 3) := by decide +kernel
theorem dX7_writeCluster_20 : decode cX7_writeCluster 20 = .ok (.isub, 1) := by decide +kernel
theorem dX7_writeCluster_21 : decode cX7_writeCluster 21 = .ok (.istore 4, 2) := by decide +kernel
theorem dX7_writeCluster_23 : decode cX7_writeCluster 23 = .ok (.iload_n 3, 1) := by decide +kernel
