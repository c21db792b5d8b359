theorem dX9_whose_20 : decode cX9_whose 20 = .ok (.getfield 19, 3) := by decide +kernel
theorem dX9_whose_23 : decode cX9_whose 23 = .ok (.getfield 129, 3) := by decide +kernel
theorem dX9_whose_26 : decode cX9_whose 26 = .ok (.aload_n 0, 1) := by decide +kernel
theorem dX9_whose_27 : decode cX9_whose 27 = .ok (.getfield 19, 3) := by decide +kernel
theorem dX9_whose_30 : decode cX9_whose 30 = .ok (.getfield 117, 3) := by decide +kernel
theorem dX9_whose_33 : decode cX9_whose 33 = .ok (.if_icmp .ge 6, 3) := by decide +kernel
theorem dX9_whose_36 : decode cX9_whose 36 = .ok (.ldc 214, 2) := by decide +kernel
theorem dX9_whose_38 : decode cX9_whose 38 = .ok (.ireturn, 1) := by decide +kernel
theorem dX9_whose_39 : decode cX9_whose 39 = .ok (.aload_n 0, 1) := by decide +kernel
theorem dX9_whose_40 : decode cX9_whose 40 = .ok (.getfield 52, 3) := by decide +kernel
theorem dX9_whose_43 : decode cX9_whose 43 = .ok (.invokevirtual 256, 3) := by decide +kernel
theorem dX9_whose_46 : decode cX9_whose 46 = .ok (.iload_n 1, 1) := by decide +kernel
theorem dX9_whose_47 : decode cX9_whose 47 = .ok (.iconst (-1), 1) := by decide +kernel
theorem dX9_whose_48 : decode cX9_whose 48 = .ok (.if_icmp .ne 13, 3) := by decide +kernel
theorem dX9_whose_51 : decode cX9_whose 51 = .ok (.aload_n 0, 1) := by decide +kernel
theorem dX9_whose_52 : decode cX9_whose 52 = .ok (.getfield 52, 3) := by decide +kernel
theorem dX9_whose_55 : decode cX9_whose 55 = .ok (.getfield 259, 3) := by decide +kernel
theorem dX9_whose_58 : decode cX9_whose 58 = .ok (.goto 11, 3) := by decide +kernel
theorem dX9_whose_61 : decode cX9_whose 61 = .ok (.aload_n 0, 1) := by decide +kernel
theorem dX9_whose_62 : decode cX9_whose 62 = .ok (.getfield 52, 3) := by decide +kernel
theorem dX9_whose_65 : decode cX9_whose 65 = .ok (.iload_n 1, 1) := by decide +kernel
theorem dX9_whose_66 : decode cX9_whose 66 = .ok (.invokevirtual 262, 3) := by decide +kernel
theorem dX9_whose_69 : decode cX9_whose 69 = .ok (.ireturn, 1) := by decide +kernel
theorem dX9_next_0 : decode cX9_next 0 = .ok (.aload_n 0, 1) := by decide +kernel
theorem dX9_next_1 : decode cX9_next 1 = .ok (.getfield 19, 3) := by decide +kernel
theorem dX9_next_4 : decode cX9_next 4 = .ok (.getfield 129, 3) := by decide +kernel
theorem dX9_next_7 : decode cX9_next 7 = .ok (.aload_n 0, 1) := by decide +kernel
theorem dX9_next_8 : decode cX9_next 8 = .ok (.getfield 19, 3) := by decide +kernel
theorem dX9_next_11 : decode cX9_next 11 = .ok (.getfield 117, 3) := by decide +kernel
theorem dX9_next_14 : decode cX9_next 14 = .ok (.if_icmp .ge 6, 3) := by decide +kernel
theorem dX9_next_17 : decode cX9_next 17 = .ok (.ldc 214, 2) := by decide +kernel
theorem dX9_next_19 : decode cX9_next 19 = .ok (.ireturn, 1) := by decide +kernel
theorem dX9_next_20 : decode cX9_next 20 = .ok (.aload_n 0, 1) := by decide +kernel
theorem dX9_next_21 : decode cX9_next 21 = .ok (.getfield 52, 3) := by decide +kernel
theorem dX9_next_24 : decode cX9_next 24 = .ok (.invokevirtual 256, 3) := by decide +kernel
theorem dX9_next_27 : decode cX9_next 27 = .ok (.aload_n 0, 1) := by decide +kernel
theorem dX9_next_28 : decode cX9_next 28 = .ok (.getfield 52, 3) := by decide +kernel
theorem dX9_next_31 : decode cX9_next 31 = .ok (.invokevirtual 265, 3) := by decide +kernel
theorem dX9_next_34 : decode cX9_next 34 = .ok (.ireturn, 1) := by decide +kernel
theorem dX9_write_0 : decode cX9_write 0 = .ok (.aload_n 0, 1) := by decide +kernel
theorem dX9_write_1 : decode cX9_write 1 = .ok (.getfield 19, 3) := by decide +kernel
theorem dX9_write_4 : decode cX9_write 4 = .ok (.iload_n 1, 1) := by decide +kernel
theorem dX9_write_5 : decode cX9_write 5 = .ok (.invokevirtual 173, 3) := by decide +kernel
theorem dX9_write_8 : decode cX9_write 8 = .ok (.ifCond .eq 19, 3) := by decide +kernel
theorem dX9_write_11 : decode cX9_write 11 = .ok (.iload_n 2, 1) := by decide +kernel
theorem dX9_write_12 : decode cX9_write 12 = .ok (.iconst (-1), 1) := by decide +kernel
theorem dX9_write_13 : decode cX9_write 13 = .ok (.if_icmp .eq 17, 3) := by decide +kernel
theorem dX9_write_16 : decode cX9_write 16 = .ok (.aload_n 0, 1) := by decide +kernel
theorem dX9_write_17 : decode cX9_write 17 = .ok (.getfield 19, 3) := by decide +kernel
theorem dX9_write_20 : decode cX9_write 20 = .ok (.iload_n 2, 1) := by decide +kernel
theorem dX9_write_21 : decode cX9_write 21 = .ok (.invokevirtual 151, 3) := by decide +kernel
theorem dX9_write_24 : decode cX9_write 24 = .ok (.ifCond .ne 6, 3) := by decide +kernel
theorem dX9_write_27 : decode cX9_write 27 = .ok (.ldc 154, 2) := by decide +kernel
theorem dX9_write_29 : decode cX9_write 29 = .ok (.ireturn, 1) := by decide +kernel
theorem dX9_write_30 : decode cX9_write 30 = .ok (.aload_n 0, 1) := by decide +kernel
theorem dX9_write_31 : decode cX9_write 31 = .ok (.getfield 59, 3) := by decide +kernel
theorem dX9_write_34 : decode cX9_write 34 = .ok (.iload_n 1, 1) := by decide +kernel
theorem dX9_write_35 : decode cX9_write 35 = .ok (.iload_n 2, 1) := by decide +kernel
theorem dX9_write_36 : decode cX9_write 36 = .ok (.invokevirtual 268, 3) := by decide +kernel
theorem dX9_write_39 : decode cX9_write 39 = .ok (.ifCond .eq 13, 3) := by decide +kernel
theorem dX9_write_42 : decode cX9_write 42 = .ok (.aload_n 0, 1) := by decide +kernel
theorem dX9_write_43 : decode cX9_write 43 = .ok (.getfield 59, 3) := by decide +kernel
theorem dX9_write_46 : decode cX9_write 46 = .ok (.getfield 110, 3) := by decide +kernel
theorem dX9_write_49 : decode cX9_write 49 = .ok (.goto 5, 3) := by decide +kernel
theorem dX9_write_52 : decode cX9_write 52 = .ok (.ldc 90, 2) := by decide +kernel
theorem dX9_write_54 : decode cX9_write 54 = .ok (.ireturn, 1) := by decide +kernel
theorem dX9_tear_0 : decode cX9_tear 0 = .ok (.aload_n 0, 1) := by decide +kernel
theorem dX9_tear_1 : decode cX9_tear 1 = .ok (.getfield 52, 3) := by decide +kernel
theorem dX9_tear_4 : decode cX9_tear 4 = .ok (.getfield 149, 3) := by decide +kernel
theorem dX9_tear_7 : decode cX9_tear 7 = .ok (.aload_n 0, 1) := by decide +kernel
theorem dX9_tear_8 : decode cX9_tear 8 = .ok (.getfield 59, 3) := by decide +kernel
theorem dX9_tear_11 : decode cX9_tear 11 = .ok (.getfield 110, 3) := by decide +kernel
theorem dX9_tear_14 : decode cX9_tear 14 = .ok (.iadd, 1) := by decide +kernel
theorem dX9_tear_15 : decode cX9_tear 15 = .ok (.istore_n 1, 1) := by decide +kernel
theorem dX9_tear_16 : decode cX9_tear 16 = .ok (.aload_n 0, 1) := by decide +kernel
theorem dX9_tear_17 : decode cX9_tear 17 = .ok (.getfield 52, 3) := by decide +kernel
theorem dX9_tear_20 : decode cX9_tear 20 = .ok (.invokevirtual 107, 3) := by decide +kernel
theorem dX9_tear_23 : decode cX9_tear 23 = .ok (.aload_n 0, 1) := by decide +kernel
theorem dX9_tear_24 : decode cX9_tear 24 = .ok (.getfield 59, 3) := by decide +kernel
theorem dX9_tear_27 : decode cX9_tear 27 = .ok (.iconst 0, 1) := by decide +kernel
theorem dX9_tear_28 : decode cX9_tear 28 = .ok (.putfield 110, 3) := by decide +kernel
theorem dX9_tear_31 : decode cX9_tear 31 = .ok (.iload_n 1, 1) := by decide +kernel
theorem dX9_tear_32 : decode cX9_tear 32 = .ok (.ireturn, 1) := by decide +kernel
theorem dX9_judge_0 : decode cX9_judge 0 = .ok (.aload_n 0, 1) := by decide +kernel
theorem dX9_judge_1 : decode cX9_judge 1 = .ok (.getfield 59, 3) := by decide +kernel
theorem dX9_judge_4 : decode cX9_judge 4 = .ok (.aload_n 0, 1) := by decide +kernel
theorem dX9_judge_5 : decode cX9_judge 5 = .ok (.getfield 31, 3) := by decide +kernel
theorem dX9_judge_8 : decode cX9_judge 8 = .ok (.invokevirtual 270, 3) := by decide +kernel
theorem dX9_judge_11 : decode cX9_judge 11 = .ok (.ireturn, 1) := by decide +kernel
theorem dX9_seed_0 : decode cX9_seed 0 = .ok (.iload_n 1, 1) := by decide +kernel
theorem dX9_seed_1 : decode cX9_seed 1 = .ok (.ifCond .ge 6, 3) := by decide +kernel
theorem dX9_seed_4 : decode cX9_seed 4 = .ok (.ldc 81, 2) := by decide +kernel
theorem dX9_seed_6 : decode cX9_seed 6 = .ok (.ireturn, 1) := by decide +kernel
theorem dX9_seed_7 : decode cX9_seed 7 = .ok (.aload_n 0, 1) := by decide +kernel
theorem dX9_seed_8 : decode cX9_seed 8 = .ok (.getfield 66, 3) := by decide +kernel
theorem dX9_seed_11 : decode cX9_seed 11 = .ok (.getfield 274, 3) := by decide +kernel
theorem dX9_seed_14 : decode cX9_seed 14 = .ok (.istore_n 2, 1) := by decide +kernel
theorem dX9_seed_15 : decode cX9_seed 15 = .ok (.aload_n 0, 1) := by decide +kernel
theorem dX9_seed_16 : decode cX9_seed 16 = .ok (.getfield 66, 3) := by decide +kernel
theorem dX9_seed_19 : decode cX9_seed 19 = .ok (.iload_n 1, 1) := by decide +kernel
theorem dX9_seed_20 : decode cX9_seed 20 = .ok (.putfield 274, 3) := by decide +kernel
theorem dX9_seed_23 : decode cX9_seed 23 = .ok (.iload_n 2, 1) := by decide +kernel
theorem dX9_seed_24 : decode cX9_seed 24 = .ok (.ireturn, 1) := by decide +kernel
theorem dX9_keep_0 : decode cX9_keep 0 = .ok (.aload_n 0, 1) := by decide +kernel
theorem dX9_keep_1 : decode cX9_keep 1 = .ok (.iload_n 1, 1) := by decide +kernel
theorem dX9_keep_2 : decode cX9_keep 2 = .ok (.invokevirtual 277, 3) := by decide +kernel
theorem dX9_keep_5 : decode cX9_keep 5 = .ok (.astore_n 2, 1) := by decide +kernel
theorem dX9_keep_6 : decode cX9_keep 6 = .ok (.aload_n 2, 1) := by decide +kernel
theorem dX9_keep_7 : decode cX9_keep 7 = .ok (.ifnonnull 6, 3) := by decide +kernel
theorem dX9_keep_10 : decode cX9_keep 10 = .ok (.ldc 154, 2) := by decide +kernel
theorem dX9_keep_12 : decode cX9_keep 12 = .ok (.ireturn, 1) := by decide +kernel
theorem dX9_keep_13 : decode cX9_keep 13 = .ok (.aload_n 2, 1) := by decide +kernel
theorem dX9_keep_14 : decode cX9_keep 14 = .ok (.aload_n 0, 1) := by decide +kernel
theorem dX9_keep_15 : decode cX9_keep 15 = .ok (.getfield 31, 3) := by decide +kernel
theorem dX9_keep_18 : decode cX9_keep 18 = .ok (.aload_n 0, 1) := by decide +kernel
theorem dX9_keep_19 : decode cX9_keep 19 = .ok (.getfield 66, 3) := by decide +kernel
theorem dX9_keep_22 : decode cX9_keep 22 = .ok (.invokevirtual 281, 3) := by decide +kernel
theorem dX9_keep_25 : decode cX9_keep 25 = .ok (.aload_n 0, 1) := by decide +kernel
theorem dX9_keep_26 : decode cX9_keep 26 = .ok (.getfield 38, 3) := by decide +kernel
theorem dX9_keep_29 : decode cX9_keep 29 = .ok (.invokevirtual 104, 3) := by decide +kernel
theorem dX9_keep_32 : decode cX9_keep 32 = .ok (.iconst 1, 1) := by decide +kernel
theorem dX9_keep_33 : decode cX9_keep 33 = .ok (.ireturn, 1) := by decide +kernel
theorem dX9_goBack_0 : decode cX9_goBack 0 = .ok (.aload_n 0, 1) := by decide +kernel
theorem dX9_goBack_1 : decode cX9_goBack 1 = .ok (.iload_n 1, 1) := by decide +kernel
theorem dX9_goBack_2 : decode cX9_goBack 2 = .ok (.invokevirtual 277, 3) := by decide +kernel
theorem dX9_goBack_5 : decode cX9_goBack 5 = .ok (.astore_n 2, 1) := by decide +kernel
theorem dX9_goBack_6 : decode cX9_goBack 6 = .ok (.aload_n 2, 1) := by decide +kernel
theorem dX9_goBack_7 : decode cX9_goBack 7 = .ok (.ifnonnull 6, 3) := by decide +kernel
theorem dX9_goBack_10 : decode cX9_goBack 10 = .ok (.ldc 154, 2) := by decide +kernel
theorem dX9_goBack_12 : decode cX9_goBack 12 = .ok (.ireturn, 1) := by decide +kernel
theorem dX9_goBack_13 : decode cX9_goBack 13 = .ok (.aload_n 2, 1) := by decide +kernel
theorem dX9_goBack_14 : decode cX9_goBack 14 = .ok (.getfield 113, 3) := by decide +kernel
theorem dX9_goBack_17 : decode cX9_goBack 17 = .ok (.ifCond .ne 6, 3) := by decide +kernel
theorem dX9_goBack_20 : decode cX9_goBack 20 = .ok (.ldc 214, 2) := by decide +kernel
theorem dX9_goBack_22 : decode cX9_goBack 22 = .ok (.ireturn, 1) := by decide +kernel
theorem dX9_goBack_23 : decode cX9_goBack 23 = .ok (.aload_n 2, 1) := by decide +kernel
theorem dX9_goBack_24 : decode cX9_goBack 24 = .ok (.aload_n 0, 1) := by decide +kernel
theorem dX9_goBack_25 : decode cX9_goBack 25 = .ok (.getfield 31, 3) := by decide +kernel
theorem dX9_goBack_28 : decode cX9_goBack 28 = .ok (.aload_n 0, 1) := by decide +kernel
theorem dX9_goBack_29 : decode cX9_goBack 29 = .ok (.getfield 66, 3) := by decide +kernel
theorem dX9_goBack_32 : decode cX9_goBack 32 = .ok (.invokevirtual 285, 3) := by decide +kernel
theorem dX9_goBack_35 : decode cX9_goBack 35 = .ok (.aload_n 0, 1) := by decide +kernel
theorem dX9_goBack_36 : decode cX9_goBack 36 = .ok (.getfield 38, 3) := by decide +kernel
theorem dX9_goBack_39 : decode cX9_goBack 39 = .ok (.invokevirtual 104, 3) := by decide +kernel
theorem dX9_goBack_42 : decode cX9_goBack 42 = .ok (.iconst 1, 1) := by decide +kernel
theorem dX9_goBack_43 : decode cX9_goBack 43 = .ok (.ireturn, 1) := by decide +kernel
theorem dX9_imageAt_0 : decode cX9_imageAt 0 = .ok (.iload_n 1, 1) := by decide +kernel
theorem dX9_imageAt_1 : decode cX9_imageAt 1 = .ok (.ifCond .lt 21, 3) := by decide +kernel
theorem dX9_imageAt_4 : decode cX9_imageAt 4 = .ok (.iload_n 1, 1) := by decide +kernel
theorem dX9_imageAt_5 : decode cX9_imageAt 5 = .ok (.aload_n 0, 1) := by decide +kernel
theorem dX9_imageAt_6 : decode cX9_imageAt 6 = .ok (.getfield 72, 3) := by decide +kernel
theorem dX9_imageAt_9 : decode cX9_imageAt 9 = .ok (.arraylength, 1) := by decide +kernel
theorem dX9_imageAt_10 : decode cX9_imageAt 10 = .ok (.if_icmp .ge 12, 3) := by decide +kernel
theorem dX9_imageAt_13 : decode cX9_imageAt 13 = .ok (.aload_n 0, 1) := by decide +kernel
theorem dX9_imageAt_14 : decode cX9_imageAt 14 = .ok (.getfield 72, 3) := by decide +kernel
theorem dX9_imageAt_17 : decode cX9_imageAt 17 = .ok (.iload_n 1, 1) := by decide +kernel
theorem dX9_imageAt_18 : decode cX9_imageAt 18 = .ok (.aaload, 1) := by decide +kernel
theorem dX9_imageAt_19 : decode cX9_imageAt 19 = .ok (.goto 4, 3) := by decide +kernel
theorem dX9_imageAt_22 : decode cX9_imageAt 22 = .ok (.aconst_null, 1) := by decide +kernel
theorem dX9_imageAt_23 : decode cX9_imageAt 23 = .ok (.areturn, 1) := by decide +kernel
theorem dX9_refusalOfHours_0 : decode cX9_refusalOfHours 0 = .ok (.iload_n 1, 1) := by decide +kernel
theorem dX9_refusalOfHours_1 : decode cX9_refusalOfHours 1 = .ok (.iconst 1, 1) := by decide +kernel
theorem dX9_refusalOfHours_2 : decode cX9_refusalOfHours 2 = .ok (.if_icmp .lt 9, 3) := by decide +kernel
theorem dX9_refusalOfHours_5 : decode cX9_refusalOfHours 5 = .ok (.iload_n 1, 1) := by decide +kernel
theorem dX9_refusalOfHours_6 : decode cX9_refusalOfHours 6 = .ok (.bipush 60, 2) := by decide +kernel
theorem dX9_refusalOfHours_8 : decode cX9_refusalOfHours 8 = .ok (.if_icmp .le 6, 3) := by decide +kernel
theorem dX9_refusalOfHours_11 : decode cX9_refusalOfHours 11 = .ok (.ldc 81, 2) := by decide +kernel
theorem dX9_refusalOfHours_13 : decode cX9_refusalOfHours 13 = .ok (.ireturn, 1) := by decide +kernel
theorem dX9_refusalOfHours_14 : decode cX9_refusalOfHours 14 = .ok (.aload_n 0, 1) := by decide +kernel
theorem dX9_refusalOfHours_15 : decode cX9_refusalOfHours 15 = .ok (.getfield 19, 3) := by decide +kernel
theorem dX9_refusalOfHours_18 : decode cX9_refusalOfHours 18 = .ok (.getfield 288, 3) := by decide +kernel
theorem dX9_refusalOfHours_21 : decode cX9_refusalOfHours 21 = .ok (.ifCond .ne 6, 3) := by decide +kernel
theorem dX9_refusalOfHours_24 : decode cX9_refusalOfHours 24 = .ok (.ldc 214, 2) := by decide +kernel
theorem dX9_refusalOfHours_26 : decode cX9_refusalOfHours 26 = .ok (.ireturn, 1) := by decide +kernel
theorem dX9_refusalOfHours_27 : decode cX9_refusalOfHours 27 = .ok (.aload_n 0, 1) := by decide +kernel
theorem dX9_refusalOfHours_28 : decode cX9_refusalOfHours 28 = .ok (.getfield 31, 3) := by decide +kernel
theorem dX9_refusalOfHours_31 : decode cX9_refusalOfHours 31 = .ok (.getfield 132, 3) := by decide +kernel
theorem dX9_refusalOfHours_34 : decode cX9_refusalOfHours 34 = .ok (.sipush 9000, 3) := by decide +kernel
theorem dX9_refusalOfHours_37 : decode cX9_refusalOfHours 37 = .ok (.if_icmp .le 8, 3) := by decide +kernel
theorem dX9_refusalOfHours_40 : decode cX9_refusalOfHours 40 = .ok (.ldc 90, 2) := by decide +kernel
theorem dX9_refusalOfHours_42 : decode cX9_refusalOfHours 42 = .ok (.goto 4, 3) := by decide +kernel
theorem dX9_refusalOfHours_45 : decode cX9_refusalOfHours 45 = .ok (.iconst 0, 1) := by decide +kernel
theorem dX9_refusalOfHours_46 : decode cX9_refusalOfHours 46 = .ok (.ireturn, 1) := by decide +kernel
theorem dX9_deedByDraws_0 : decode cX9_deedByDraws 0 = .ok (.aload_n 0, 1) := by decide +kernel
theorem dX9_deedByDraws_1 : decode cX9_deedByDraws 1 = .ok (.getfield 66, 3) := by decide +kernel
theorem dX9_deedByDraws_4 : decode cX9_deedByDraws 4 = .ok (.aload_n 0, 1) := by decide +kernel
theorem dX9_deedByDraws_5 : decode cX9_deedByDraws 5 = .ok (.getfield 19, 3) := by decide +kernel
theorem dX9_deedByDraws_8 : decode cX9_deedByDraws 8 = .ok (.getfield 129, 3) := by decide +kernel
theorem dX9_deedByDraws_11 : decode cX9_deedByDraws 11 = .ok (.invokevirtual 291, 3) := by decide +kernel
theorem dX9_deedByDraws_14 : decode cX9_deedByDraws 14 = .ok (.istore_n 1, 1) := by decide +kernel
theorem dX9_deedByDraws_15 : decode cX9_deedByDraws 15 = .ok (.aload_n 0, 1) := by decide +kernel
theorem dX9_deedByDraws_16 : decode cX9_deedByDraws 16 = .ok (.getfield 66, 3) := by decide +kernel
theorem dX9_deedByDraws_19 : decode cX9_deedByDraws 19 = .ok (.aload_n 0, 1) := by decide +kernel
theorem dX9_deedByDraws_20 : decode cX9_deedByDraws 20 = .ok (.getfield 19, 3) := by decide +kernel
theorem dX9_deedByDraws_23 : decode cX9_deedByDraws 23 = .ok (.getfield 117, 3) := by decide +kernel
theorem dX9_deedByDraws_26 : decode cX9_deedByDraws 26 = .ok (.invokevirtual 291, 3) := by decide +kernel
theorem dX9_deedByDraws_29 : decode cX9_deedByDraws 29 = .ok (.istore_n 2, 1) := by decide +kernel
theorem dX9_deedByDraws_30 : decode cX9_deedByDraws 30 = .ok (.aload_n 0, 1) := by decide +kernel
theorem dX9_deedByDraws_31 : decode cX9_deedByDraws 31 = .ok (.getfield 66, 3) := by decide +kernel
theorem dX9_deedByDraws_34 : decode cX9_deedByDraws 34 = .ok (.iconst 4, 1) := by decide +kernel
theorem dX9_deedByDraws_35 : decode cX9_deedByDraws 35 = .ok (.invokevirtual 291, 3) := by decide +kernel
theorem dX9_deedByDraws_38 : decode cX9_deedByDraws 38 = .ok (.istore_n 3, 1) := by decide +kernel
theorem dX9_deedByDraws_39 : decode cX9_deedByDraws 39 = .ok (.iload_n 3, 1) := by decide +kernel
theorem dX9_deedByDraws_40 : decode cX9_deedByDraws 40 = .ok (.ifCond .ne 29, 3) := by decide +kernel
theorem dX9_deedByDraws_43 : decode cX9_deedByDraws 43 = .ok (.aload_n 0, 1) := by decide +kernel
theorem dX9_deedByDraws_44 : decode cX9_deedByDraws 44 = .ok (.getfield 31, 3) := by decide +kernel
theorem dX9_deedByDraws_47 : decode cX9_deedByDraws 47 = .ok (.iload_n 1, 1) := by decide +kernel
theorem dX9_deedByDraws_48 : decode cX9_deedByDraws 48 = .ok (.invokevirtual 188, 3) := by decide +kernel
theorem dX9_deedByDraws_51 : decode cX9_deedByDraws 51 = .ok (.iconst (-1), 1) := by decide +kernel
theorem dX9_deedByDraws_52 : decode cX9_deedByDraws 52 = .ok (.if_icmp .eq 70, 3) := by decide +kernel
theorem dX9_deedByDraws_55 : decode cX9_deedByDraws 55 = .ok (.aload_n 0, 1) := by decide +kernel
theorem dX9_deedByDraws_56 : decode cX9_deedByDraws 56 = .ok (.getfield 31, 3) := by decide +kernel
theorem dX9_deedByDraws_59 : decode cX9_deedByDraws 59 = .ok (.getfield 222, 3) := by decide +kernel
theorem dX9_deedByDraws_62 : decode cX9_deedByDraws 62 = .ok (.iload_n 1, 1) := by decide +kernel
theorem dX9_deedByDraws_63 : decode cX9_deedByDraws 63 = .ok (.bipush (-2), 2) := by decide +kernel
theorem dX9_deedByDraws_65 : decode cX9_deedByDraws 65 = .ok (.iastore, 1) := by decide +kernel
theorem dX9_deedByDraws_66 : decode cX9_deedByDraws 66 = .ok (.goto 56, 3) := by decide +kernel
theorem dX9_deedByDraws_69 : decode cX9_deedByDraws 69 = .ok (.iload_n 3, 1) := by decide +kernel
theorem dX9_deedByDraws_70 : decode cX9_deedByDraws 70 = .ok (.iconst 1, 1) := by decide +kernel
theorem dX9_deedByDraws_71 : decode cX9_deedByDraws 71 = .ok (.if_icmp .ne 30, 3) := by decide +kernel
theorem dX9_deedByDraws_74 : decode cX9_deedByDraws 74 = .ok (.aload_n 0, 1) := by decide +kernel
theorem dX9_deedByDraws_75 : decode cX9_deedByDraws 75 = .ok (.getfield 31, 3) := by decide +kernel
theorem dX9_deedByDraws_78 : decode cX9_deedByDraws 78 = .ok (.getfield 222, 3) := by decide +kernel
theorem dX9_deedByDraws_81 : decode cX9_deedByDraws 81 = .ok (.iload_n 1, 1) := by decide +kernel
theorem dX9_deedByDraws_82 : decode cX9_deedByDraws 82 = .ok (.iaload, 1) := by decide +kernel
theorem dX9_deedByDraws_83 : decode cX9_deedByDraws 83 = .ok (.bipush (-2), 2) := by decide +kernel
theorem dX9_deedByDraws_85 : decode cX9_deedByDraws 85 = .ok (.if_icmp .ne 37, 3) := by decide +kernel
theorem dX9_deedByDraws_88 : decode cX9_deedByDraws 88 = .ok (.aload_n 0, 1) := by decide +kernel
theorem dX9_deedByDraws_89 : decode cX9_deedByDraws 89 = .ok (.getfield 31, 3) := by decide +kernel
theorem dX9_deedByDraws_92 : decode cX9_deedByDraws 92 = .ok (.getfield 222, 3) := by decide +kernel
theorem dX9_deedByDraws_95 : decode cX9_deedByDraws 95 = .ok (.iload_n 1, 1) := by decide +kernel
theorem dX9_deedByDraws_96 : decode cX9_deedByDraws 96 = .ok (.iconst (-1), 1) := by decide +kernel
theorem dX9_deedByDraws_97 : decode cX9_deedByDraws 97 = .ok (.iastore, 1) := by decide +kernel
theorem dX9_deedByDraws_98 : decode cX9_deedByDraws 98 = .ok (.goto 24, 3) := by decide +kernel
theorem dX9_deedByDraws_101 : decode cX9_deedByDraws 101 = .ok (.aload_n 0, 1) := by decide +kernel
theorem dX9_deedByDraws_102 : decode cX9_deedByDraws 102 = .ok (.getfield 31, 3) := by decide +kernel
theorem dX9_deedByDraws_105 : decode cX9_deedByDraws 105 = .ok (.iload_n 1, 1) := by decide +kernel
theorem dX9_deedByDraws_106 : decode cX9_deedByDraws 106 = .ok (.iload_n 2, 1) := by decide +kernel
theorem dX9_deedByDraws_107 : decode cX9_deedByDraws 107 = .ok (.invokevirtual 210, 3) := by decide +kernel
theorem dX9_deedByDraws_110 : decode cX9_deedByDraws 110 = .ok (.ifCond .eq 12, 3) := by decide +kernel
theorem dX9_deedByDraws_113 : decode cX9_deedByDraws 113 = .ok (.aload_n 0, 1) := by decide +kernel
theorem dX9_deedByDraws_114 : decode cX9_deedByDraws 114 = .ok (.getfield 31, 3) := by decide +kernel
theorem dX9_deedByDraws_117 : decode cX9_deedByDraws 117 = .ok (.iload_n 1, 1) := by decide +kernel
theorem dX9_deedByDraws_118 : decode cX9_deedByDraws 118 = .ok (.iload_n 2, 1) := by decide +kernel
theorem dX9_deedByDraws_119 : decode cX9_deedByDraws 119 = .ok (.invokevirtual 215, 3) := by decide +kernel
theorem dX9_deedByDraws_122 : decode cX9_deedByDraws 122 = .ok (.aload_n 0, 1) := by decide +kernel
theorem dX9_deedByDraws_123 : decode cX9_deedByDraws 123 = .ok (.getfield 66, 3) := by decide +kernel
theorem dX9_deedByDraws_126 : decode cX9_deedByDraws 126 = .ok (.bipush 100, 2) := by decide +kernel
theorem dX9_deedByDraws_128 : decode cX9_deedByDraws 128 = .ok (.invokevirtual 291, 3) := by decide +kernel
theorem dX9_deedByDraws_131 : decode cX9_deedByDraws 131 = .ok (.aload_n 0, 1) := by decide +kernel
theorem dX9_deedByDraws_132 : decode cX9_deedByDraws 132 = .ok (.getfield 19, 3) := by decide +kernel
theorem dX9_deedByDraws_135 : decode cX9_deedByDraws 135 = .ok (.getfield 126, 3) := by decide +kernel
theorem dX9_deedByDraws_138 : decode cX9_deedByDraws 138 = .ok (.if_icmp .ge 19, 3) := by decide +kernel
theorem dX9_deedByDraws_141 : decode cX9_deedByDraws 141 = .ok (.aload_n 0, 1) := by decide +kernel
theorem dX9_deedByDraws_142 : decode cX9_deedByDraws 142 = .ok (.getfield 31, 3) := by decide +kernel
theorem dX9_deedByDraws_145 : decode cX9_deedByDraws 145 = .ok (.getfield 167, 3) := by decide +kernel
theorem dX9_deedByDraws_148 : decode cX9_deedByDraws 148 = .ok (.iload_n 2, 1) := by decide +kernel
theorem dX9_deedByDraws_149 : decode cX9_deedByDraws 149 = .ok (.aload_n 0, 1) := by decide +kernel
theorem dX9_deedByDraws_150 : decode cX9_deedByDraws 150 = .ok (.getfield 19, 3) := by decide +kernel
theorem dX9_deedByDraws_153 : decode cX9_deedByDraws 153 = .ok (.getfield 123, 3) := by decide +kernel
theorem dX9_deedByDraws_156 : decode cX9_deedByDraws 156 = .ok (.iastore, 1) := by decide +kernel
theorem dX9_deedByDraws_157 : decode cX9_deedByDraws 157 = .ok (.return_, 1) := by decide +kernel
theorem dX9_percentOf_0 : decode cX9_percentOf 0 = .ok (.iload_n 0, 1) := by decide +kernel
theorem dX9_percentOf_1 : decode cX9_percentOf 1 = .ok (.i2l, 1) := by decide +kernel
theorem dX9_percentOf_2 : decode cX9_percentOf 2 = .ok (.iload_n 1, 1) := by decide +kernel
theorem dX9_percentOf_3 : decode cX9_percentOf 3 = .ok (.i2l, 1) := by decide +kernel
theorem dX9_percentOf_4 : decode cX9_percentOf 4 = .ok (.lmul, 1) := by decide +kernel
theorem dX9_percentOf_5 : decode cX9_percentOf 5 = .ok (.ldc2_w 294, 3) := by decide +kernel
theorem dX9_percentOf_8 : decode cX9_percentOf 8 = .ok (.ldiv, 1) := by decide +kernel
theorem dX9_percentOf_9 : decode cX9_percentOf 9 = .ok (.l2i, 1) := by decide +kernel
theorem dX9_percentOf_10 : decode cX9_percentOf 10 = .ok (.ireturn, 1) := by decide +kernel
theorem dX9_isIn_0 : decode cX9_isIn 0 = .ok (.iload_n 0, 1) := by decide +kernel
theorem dX9_isIn_1 : decode cX9_isIn 1 = .ok (.iload_n 1, 1) := by decide +kernel
theorem dX9_isIn_2 : decode cX9_isIn 2 = .ok (.ishr, 1) := by decide +kernel
theorem dX9_isIn_3 : decode cX9_isIn 3 = .ok (.iconst 1, 1) := by decide +kernel
theorem dX9_isIn_4 : decode cX9_isIn 4 = .ok (.iand, 1) := by decide +kernel
theorem dX9_isIn_5 : decode cX9_isIn 5 = .ok (.ifCond .eq 7, 3) := by decide +kernel
theorem dX9_isIn_8 : decode cX9_isIn 8 = .ok (.iconst 1, 1) := by decide +kernel
theorem dX9_isIn_9 : decode cX9_isIn 9 = .ok (.goto 4, 3) := by decide +kernel
theorem dX9_isIn_12 : decode cX9_isIn 12 = .ok (.iconst 0, 1) := by decide +kernel
theorem dX9_isIn_13 : decode cX9_isIn 13 = .ok (.ireturn, 1) := by decide +kernel
theorem dX10_init_0 : decode cX10_init 0 = .ok (.aload_n 0, 1) := by decide +kernel
theorem dX10_init_1 : decode cX10_init 1 = .ok (.invokespecial 1, 3) := by decide +kernel
theorem dX10_init_4 : decode cX10_init 4 = .ok (.aload_n 0, 1) := by decide +kernel
theorem dX10_init_5 : decode cX10_init 5 = .ok (.sipush 240, 3) := by decide +kernel
theorem dX10_init_8 : decode cX10_init 8 = .ok (.newarray .int, 2) := by decide +kernel
theorem dX10_init_10 : decode cX10_init 10 = .ok (.putfield 7, 3) := by decide +kernel
theorem dX10_init_13 : decode cX10_init 13 = .ok (.aload_n 0, 1) := by decide +kernel
theorem dX10_init_14 : decode cX10_init 14 = .ok (.iconst (-1), 1) := by decide +kernel
theorem dX10_init_15 : decode cX10_init 15 = .ok (.putfield 13, 3) := by decide +kernel
theorem dX10_init_18 : decode cX10_init 18 = .ok (.aload_n 0, 1) := by decide +kernel
theorem dX10_init_19 : decode cX10_init 19 = .ok (.bipush 12, 2) := by decide +kernel
theorem dX10_init_21 : decode cX10_init 21 = .ok (.newarray .int, 2) := by decide +kernel
theorem dX10_init_23 : decode cX10_init 23 = .ok (.putfield 17, 3) := by decide +kernel
theorem dX10_init_26 : decode cX10_init 26 = .ok (.aload_n 0, 1) := by decide +kernel
theorem dX10_init_27 : decode cX10_init 27 = .ok (.bipush 24, 2) := by decide +kernel
theorem dX10_init_29 : decode cX10_init 29 = .ok (.newarray .int, 2) := by decide +kernel
theorem dX10_init_31 : decode cX10_init 31 = .ok (.putfield 20, 3) := by decide +kernel
theorem dX10_init_34 : decode cX10_init 34 = .ok (.aload_n 0, 1) := by decide +kernel
theorem dX10_init_35 : decode cX10_init 35 = .ok (.bipush 12, 2) := by decide +kernel
theorem dX10_init_37 : decode cX10_init 37 = .ok (.newarray .int, 2) := by decide +kernel
theorem dX10_init_39 : decode cX10_init 39 = .ok (.putfield 23, 3) := by decide +kernel
theorem dX10_init_42 : decode cX10_init 42 = .ok (.aload_n 0, 1) := by decide +kernel
theorem dX10_init_43 : decode cX10_init 43 = .ok (.bipush 24, 2) := by decide +kernel
theorem dX10_init_45 : decode cX10_init 45 = .ok (.newarray .int, 2) := by decide +kernel
theorem dX10_init_47 : decode cX10_init 47 = .ok (.putfield 26, 3) := by decide +kernel
theorem dX10_init_50 : decode cX10_init 50 = .ok (.aload_n 0, 1) := by decide +kernel
theorem dX10_init_51 : decode cX10_init 51 = .ok (.bipush 6, 2) := by decide +kernel
theorem dX10_init_53 : decode cX10_init 53 = .ok (.newarray .int, 2) := by decide +kernel
theorem dX10_init_55 : decode cX10_init 55 = .ok (.putfield 29, 3) := by decide +kernel
theorem dX10_init_58 : decode cX10_init 58 = .ok (.aload_n 0, 1) := by decide +kernel
theorem dX10_init_59 : decode cX10_init 59 = .ok (.bipush 32, 2) := by decide +kernel
theorem dX10_init_61 : decode cX10_init 61 = .ok (.newarray .int, 2) := by decide +kernel
theorem dX10_init_63 : decode cX10_init 63 = .ok (.putfield 32, 3) := by decide +kernel
theorem dX10_init_66 : decode cX10_init 66 = .ok (.aload_n 0, 1) := by decide +kernel
theorem dX10_init_67 : decode cX10_init 67 = .ok (.sipush 640, 3) := by decide +kernel
theorem dX10_init_70 : decode cX10_init 70 = .ok (.newarray .int, 2) := by decide +kernel
theorem dX10_init_72 : decode cX10_init 72 = .ok (.putfield 35, 3) := by decide +kernel
theorem dX10_init_75 : decode cX10_init 75 = .ok (.aload_n 0, 1) := by decide +kernel
theorem dX10_init_76 : decode cX10_init 76 = .ok (.bipush 64, 2) := by decide +kernel
theorem dX10_init_78 : decode cX10_init 78 = .ok (.newarray .int, 2) := by decide +kernel
theorem dX10_init_80 : decode cX10_init 80 = .ok (.putfield 38, 3) := by decide +kernel
theorem dX10_init_83 : decode cX10_init 83 = .ok (.aload_n 0, 1) := by decide +kernel
theorem dX10_init_84 : decode cX10_init 84 = .ok (.iconst 2, 1) := by decide +kernel
theorem dX10_init_85 : decode cX10_init 85 = .ok (.newarray .int, 2) := by decide +kernel
theorem dX10_init_87 : decode cX10_init 87 = .ok (.putfield 41, 3) := by decide +kernel
theorem dX10_init_90 : decode cX10_init 90 = .ok (.aload_n 0, 1) := by decide +kernel
theorem dX10_init_91 : decode cX10_init 91 = .ok (.iconst 2, 1) := by decide +kernel
theorem dX10_init_92 : decode cX10_init 92 = .ok (.newarray .boolean, 2) := by decide +kernel
theorem dX10_init_94 : decode cX10_init 94 = .ok (.putfield 44, 3) := by decide +kernel
theorem dX10_init_97 : decode cX10_init 97 = .ok (.aload_n 0, 1) := by decide +kernel
theorem dX10_init_98 : decode cX10_init 98 = .ok (.bipush 24, 2) := by decide +kernel
theorem dX10_init_100 : decode cX10_init 100 = .ok (.newarray .int, 2) := by decide +kernel
theorem dX10_init_102 : decode cX10_init 102 = .ok (.putfield 48, 3) := by decide +kernel
theorem dX10_init_105 : decode cX10_init 105 = .ok (.aload_n 0, 1) := by decide +kernel
theorem dX10_init_106 : decode cX10_init 106 = .ok (.bipush 30, 2) := by decide +kernel
theorem dX10_init_108 : decode cX10_init 108 = .ok (.newarray .int, 2) := by decide +kernel
theorem dX10_init_110 : decode cX10_init 110 = .ok (.putfield 51, 3) := by decide +kernel
theorem dX10_init_113 : decode cX10_init 113 = .ok (.aload_n 0, 1) := by decide +kernel
theorem dX10_init_114 : decode cX10_init 114 = .ok (.bipush 6, 2) := by decide +kernel
theorem dX10_init_116 : decode cX10_init 116 = .ok (.newarray .int, 2) := by decide +kernel
theorem dX10_init_118 : decode cX10_init 118 = .ok (.putfield 54, 3) := by decide +kernel
theorem dX10_init_121 : decode cX10_init 121 = .ok (.aload_n 0, 1) := by decide +kernel
theorem dX10_init_122 : decode cX10_init 122 = .ok (.bipush 6, 2) := by decide +kernel
theorem dX10_init_124 : decode cX10_init 124 = .ok (.newarray .int, 2) := by decide +kernel
theorem dX10_init_126 : decode cX10_init 126 = .ok (.putfield 57, 3) := by decide +kernel
theorem dX10_init_129 : decode cX10_init 129 = .ok (.aload_n 0, 1) := by decide +kernel
theorem dX10_init_130 : decode cX10_init 130 = .ok (.bipush 20, 2) := by decide +kernel
theorem dX10_init_132 : decode cX10_init 132 = .ok (.newarray .int, 2) := by decide +kernel
theorem dX10_init_134 : decode cX10_init 134 = .ok (.putfield 60, 3) := by decide +kernel
theorem dX10_init_137 : decode cX10_init 137 = .ok (.aload_n 0, 1) := by decide +kernel
theorem dX10_init_138 : decode cX10_init 138 = .ok (.bipush 36, 2) := by decide +kernel
theorem dX10_init_140 : decode cX10_init 140 = .ok (.newarray .int, 2) := by decide +kernel
theorem dX10_init_142 : decode cX10_init 142 = .ok (.putfield 63, 3) := by decide +kernel
theorem dX10_init_145 : decode cX10_init 145 = .ok (.return_, 1) := by decide +kernel
theorem dX10_in_0 : decode cX10_in 0 = .ok (.iload_n 0, 1) := by decide +kernel
theorem dX10_in_1 : decode cX10_in 1 = .ok (.iload_n 1, 1) := by decide +kernel
theorem dX10_in_2 : decode cX10_in 2 = .ok (.if_icmp .lt 12, 3) := by decide +kernel
theorem dX10_in_5 : decode cX10_in 5 = .ok (.iload_n 0, 1) := by decide +kernel
theorem dX10_in_6 : decode cX10_in 6 = .ok (.iload_n 2, 1) := by decide +kernel
theorem dX10_in_7 : decode cX10_in 7 = .ok (.if_icmp .gt 7, 3) := by decide +kernel
theorem dX10_in_10 : decode cX10_in 10 = .ok (.iconst 1, 1) := by decide +kernel
theorem dX10_in_11 : decode cX10_in 11 = .ok (.goto 4, 3) := by decide +kernel
theorem dX10_in_14 : decode cX10_in 14 = .ok (.iconst 0, 1) := by decide +kernel
theorem dX10_in_15 : decode cX10_in 15 = .ok (.ireturn, 1) := by decide +kernel
theorem dX10_has_0 : decode cX10_has 0 = .ok (.iload_n 0, 1) := by decide +kernel
theorem dX10_has_1 : decode cX10_has 1 = .ok (.iload_n 1, 1) := by decide +kernel
theorem dX10_has_2 : decode cX10_has 2 = .ok (.ishr, 1) := by decide +kernel
theorem dX10_has_3 : decode cX10_has 3 = .ok (.iconst 1, 1) := by decide +kernel
theorem dX10_has_4 : decode cX10_has 4 = .ok (.iand, 1) := by decide +kernel
theorem dX10_has_5 : decode cX10_has 5 = .ok (.iconst 1, 1) := by decide +kernel
theorem dX10_has_6 : decode cX10_has 6 = .ok (.if_icmp .ne 7, 3) := by decide +kernel
theorem dX10_has_9 : decode cX10_has 9 = .ok (.iconst 1, 1) := by decide +kernel
theorem dX10_has_10 : decode cX10_has 10 = .ok (.goto 4, 3) := by decide +kernel
theorem dX10_has_13 : decode cX10_has 13 = .ok (.iconst 0, 1) := by decide +kernel
theorem dX10_has_14 : decode cX10_has 14 = .ok (.ireturn, 1) := by decide +kernel
theorem dX10_isChild_0 : decode cX10_isChild 0 = .ok (.iload_n 1, 1) := by decide +kernel
theorem dX10_isChild_1 : decode cX10_isChild 1 = .ok (.iconst 0, 1) := by decide +kernel
theorem dX10_isChild_2 : decode cX10_isChild 2 = .ok (.aload_n 0, 1) := by decide +kernel
theorem dX10_isChild_3 : decode cX10_isChild 3 = .ok (.getfield 66, 3) := by decide +kernel
theorem dX10_isChild_6 : decode cX10_isChild 6 = .ok (.iconst 1, 1) := by decide +kernel
theorem dX10_isChild_7 : decode cX10_isChild 7 = .ok (.isub, 1) := by decide +kernel
theorem dX10_isChild_8 : decode cX10_isChild 8 = .ok (.invokestatic 69, 3) := by decide +kernel
theorem dX10_isChild_11 : decode cX10_isChild 11 = .ok (.ireturn, 1) := by decide +kernel
theorem dX10_isDummy_0 : decode cX10_isDummy 0 = .ok (.iload_n 1, 1) := by decide +kernel
theorem dX10_isDummy_1 : decode cX10_isDummy 1 = .ok (.iconst 0, 1) := by decide +kernel
theorem dX10_isDummy_2 : decode cX10_isDummy 2 = .ok (.aload_n 0, 1) := by decide +kernel
theorem dX10_isDummy_3 : decode cX10_isDummy 3 = .ok (.getfield 73, 3) := by decide +kernel
theorem dX10_isDummy_6 : decode cX10_isDummy 6 = .ok (.iconst 1, 1) := by decide +kernel
theorem dX10_isDummy_7 : decode cX10_isDummy 7 = .ok (.isub, 1) := by decide +kernel
theorem dX10_isDummy_8 : decode cX10_isDummy 8 = .ok (.invokestatic 69, 3) := by decide +kernel
theorem dX10_isDummy_11 : decode cX10_isDummy 11 = .ok (.ireturn, 1) := by decide +kernel
theorem dX10_feed_0 : decode cX10_feed 0 = .ok (.iload_n 1, 1) := by decide +kernel
theorem dX10_feed_1 : decode cX10_feed 1 = .ok (.iconst 0, 1) := by decide +kernel
theorem dX10_feed_2 : decode cX10_feed 2 = .ok (.sipush 255, 3) := by decide +kernel
theorem dX10_feed_5 : decode cX10_feed 5 = .ok (.invokestatic 69, 3) := by decide +kernel
theorem dX10_feed_8 : decode cX10_feed 8 = .ok (.ifCond .ne 6, 3) := by decide +kernel
theorem dX10_feed_11 : decode cX10_feed 11 = .ok (.ldc 76, 2) := by decide +kernel
theorem dX10_feed_13 : decode cX10_feed 13 = .ok (.ireturn, 1) := by decide +kernel
theorem dX10_feed_14 : decode cX10_feed 14 = .ok (.aload_n 0, 1) := by decide +kernel
theorem dX10_feed_15 : decode cX10_feed 15 = .ok (.getfield 77, 3) := by decide +kernel
theorem dX10_feed_18 : decode cX10_feed 18 = .ok (.sipush 240, 3) := by decide +kernel
theorem dX10_feed_21 : decode cX10_feed 21 = .ok (.if_icmp .ne 6, 3) := by decide +kernel
theorem dX10_feed_24 : decode cX10_feed 24 = .ok (.ldc 80, 2) := by decide +kernel
theorem dX10_feed_26 : decode cX10_feed 26 = .ok (.ireturn, 1) := by decide +kernel
theorem dX10_feed_27 : decode cX10_feed 27 = .ok (.aload_n 0, 1) := by decide +kernel
theorem dX10_feed_28 : decode cX10_feed 28 = .ok (.getfield 7, 3) := by decide +kernel
theorem dX10_feed_31 : decode cX10_feed 31 = .ok (.aload_n 0, 1) := by decide +kernel
theorem dX10_feed_32 : decode cX10_feed 32 = .ok (.getfield 77, 3) := by decide +kernel
theorem dX10_feed_35 : decode cX10_feed 35 = .ok (.iload_n 1, 1) := by decide +kernel
theorem dX10_feed_36 : decode cX10_feed 36 = .ok (.iastore, 1) := by decide +kernel
theorem dX10_feed_37 : decode cX10_feed 37 = .ok (.aload_n 0, 1) := by decide +kernel
theorem dX10_feed_38 : decode cX10_feed 38 = .ok (.dup, 1) := by decide +kernel
theorem dX10_feed_39 : decode cX10_feed 39 = .ok (.getfield 77, 3) := by decide +kernel
theorem dX10_feed_42 : decode cX10_feed 42 = .ok (.iconst 1, 1) := by decide +kernel
theorem dX10_feed_43 : decode cX10_feed 43 = .ok (.iadd, 1) := by decide +kernel
theorem dX10_feed_44 : decode cX10_feed 44 = .ok (.putfield 77, 3) := by decide +kernel
theorem dX10_feed_47 : decode cX10_feed 47 = .ok (.aload_n 0, 1) := by decide +kernel
theorem dX10_feed_48 : decode cX10_feed 48 = .ok (.getfield 77, 3) := by decide +kernel
theorem dX10_feed_51 : decode cX10_feed 51 = .ok (.ireturn, 1) := by decide +kernel
theorem dX10_nextToken_0 : decode cX10_nextToken 0 = .ok (.aload_n 0, 1) := by decide +kernel
theorem dX10_nextToken_1 : decode cX10_nextToken 1 = .ok (.getfield 81, 3) := by decide +kernel
theorem dX10_nextToken_4 : decode cX10_nextToken 4 = .ok (.aload_n 0, 1) := by decide +kernel
theorem dX10_nextToken_5 : decode cX10_nextToken 5 = .ok (.getfield 77, 3) := by decide +kernel
theorem dX10_nextToken_8 : decode cX10_nextToken 8 = .ok (.if_icmp .ge 30, 3) := by decide +kernel
theorem dX10_nextToken_11 : decode cX10_nextToken 11 = .ok (.aload_n 0, 1) := by decide +kernel
theorem dX10_nextToken_12 : decode cX10_nextToken 12 = .ok (.getfield 7, 3) := by decide +kernel
theorem dX10_nextToken_15 : decode cX10_nextToken 15 = .ok (.aload_n 0, 1) := by decide +kernel
theorem dX10_nextToken_16 : decode cX10_nextToken 16 = .ok (.getfield 81, 3) := by decide +kernel
theorem dX10_nextToken_19 : decode cX10_nextToken 19 = .ok (.iaload, 1) := by decide +kernel
theorem dX10_nextToken_20 : decode cX10_nextToken 20 = .ok (.bipush 32, 2) := by decide +kernel
theorem dX10_nextToken_22 : decode cX10_nextToken 22 = .ok (.if_icmp .ne 16, 3) := by decide +kernel
theorem dX10_nextToken_25 : decode cX10_nextToken 25 = .ok (.aload_n 0, 1) := by decide +kernel
theorem dX10_nextToken_26 : decode cX10_nextToken 26 = .ok (.dup, 1) := by decide +kernel
theorem dX10_nextToken_27 : decode cX10_nextToken 27 = .ok (.getfield 81, 3) := by decide +kernel
theorem dX10_nextToken_30 : decode cX10_nextToken 30 = .ok (.iconst 1, 1) := by decide +kernel
theorem dX10_nextToken_31 : decode cX10_nextToken 31 = .ok (.iadd, 1) := by decide +kernel
theorem dX10_nextToken_32 : decode cX10_nextToken 32 = .ok (.putfield 81, 3) := by decide +kernel
theorem dX10_nextToken_35 : decode cX10_nextToken 35 = .ok (.goto (-35), 3) := by decide +kernel
theorem dX10_nextToken_38 : decode cX10_nextToken 38 = .ok (.aload_n 0, 1) := by decide +kernel
theorem dX10_nextToken_39 : decode cX10_nextToken 39 = .ok (.aload_n 0, 1) := by decide +kernel
theorem dX10_nextToken_40 : decode cX10_nextToken 40 = .ok (.getfield 81, 3) := by decide +kernel
theorem dX10_nextToken_43 : decode cX10_nextToken 43 = .ok (.putfield 84, 3) := by decide +kernel
theorem dX10_nextToken_46 : decode cX10_nextToken 46 = .ok (.aload_n 0, 1) := by decide +kernel
theorem dX10_nextToken_47 : decode cX10_nextToken 47 = .ok (.iconst 0, 1) := by decide +kernel
theorem dX10_nextToken_48 : decode cX10_nextToken 48 = .ok (.putfield 87, 3) := by decide +kernel
theorem dX10_nextToken_51 : decode cX10_nextToken 51 = .ok (.aload_n 0, 1) := by decide +kernel
theorem dX10_nextToken_52 : decode cX10_nextToken 52 = .ok (.iconst 0, 1) := by decide +kernel
theorem dX10_nextToken_53 : decode cX10_nextToken 53 = .ok (.putfield 90, 3) := by decide +kernel
theorem dX10_nextToken_56 : decode cX10_nextToken 56 = .ok (.aload_n 0, 1) := by decide +kernel
theorem dX10_nextToken_57 : decode cX10_nextToken 57 = .ok (.getfield 81, 3) := by decide +kernel
theorem dX10_nextToken_60 : decode cX10_nextToken 60 = .ok (.aload_n 0, 1) := by decide +kernel
theorem dX10_nextToken_61 : decode cX10_nextToken 61 = .ok (.getfield 77, 3) := by decide +kernel
theorem dX10_nextToken_64 : decode cX10_nextToken 64 = .ok (.if_icmp .ne 12, 3) := by decide +kernel
theorem dX10_nextToken_67 : decode cX10_nextToken 67 = .ok (.aload_n 0, 1) := by decide +kernel
theorem dX10_nextToken_68 : decode cX10_nextToken 68 = .ok (.bipush (-2), 2) := by decide +kernel
theorem dX10_nextToken_70 : decode cX10_nextToken 70 = .ok (.putfield 93, 3) := by decide +kernel
theorem dX10_nextToken_73 : decode cX10_nextToken 73 = .ok (.goto 145, 3) := by decide +kernel
theorem dX10_nextToken_76 : decode cX10_nextToken 76 = .ok (.aload_n 0, 1) := by decide +kernel
theorem dX10_nextToken_77 : decode cX10_nextToken 77 = .ok (.getfield 7, 3) := by decide +kernel
theorem dX10_nextToken_80 : decode cX10_nextToken 80 = .ok (.aload_n 0, 1) := by decide +kernel
theorem dX10_nextToken_81 : decode cX10_nextToken 81 = .ok (.getfield 81, 3) := by decide +kernel
theorem dX10_nextToken_84 : decode cX10_nextToken 84 = .ok (.iaload, 1) := by decide +kernel
theorem dX10_nextToken_85 : decode cX10_nextToken 85 = .ok (.bipush 48, 2) := by decide +kernel
theorem dX10_nextToken_87 : decode cX10_nextToken 87 = .ok (.bipush 57, 2) := by decide +kernel
theorem dX10_nextToken_89 : decode cX10_nextToken 89 = .ok (.invokestatic 69, 3) := by decide +kernel
theorem dX10_nextToken_92 : decode cX10_nextToken 92 = .ok (.ifCond .eq 103, 3) := by decide +kernel
theorem dX10_nextToken_95 : decode cX10_nextToken 95 = .ok (.aload_n 0, 1) := by decide +kernel
theorem dX10_nextToken_96 : decode cX10_nextToken 96 = .ok (.getfield 81, 3) := by decide +kernel
theorem dX10_nextToken_99 : decode cX10_nextToken 99 = .ok (.aload_n 0, 1) := by decide +kernel
theorem dX10_nextToken_100 : decode cX10_nextToken 100 = .ok (.getfield 77, 3) := by decide +kernel
theorem dX10_nextToken_103 : decode cX10_nextToken 103 = .ok (.if_icmp .ge 84, 3) := by decide +kernel
theorem dX10_nextToken_106 : decode cX10_nextToken 106 = .ok (.aload_n 0, 1) := by decide +kernel
theorem dX10_nextToken_107 : decode cX10_nextToken 107 = .ok (.getfield 7, 3) := by decide +kernel
theorem dX10_nextToken_110 : decode cX10_nextToken 110 = .ok (.aload_n 0, 1) := by decide +kernel
theorem dX10_nextToken_111 : decode cX10_nextToken 111 = .ok (.getfield 81, 3) := by decide +kernel
theorem dX10_nextToken_114 : decode cX10_nextToken 114 = .ok (.iaload, 1) := by decide +kernel
theorem dX10_nextToken_115 : decode cX10_nextToken 115 = .ok (.bipush 48, 2) := by decide +kernel
theorem dX10_nextToken_117 : decode cX10_nextToken 117 = .ok (.bipush 57, 2) := by decide +kernel
theorem dX10_nextToken_119 : decode cX10_nextToken 119 = .ok (.invokestatic 69, 3) := by decide +kernel
theorem dX10_nextToken_122 : decode cX10_nextToken 122 = .ok (.ifCond .eq 65, 3) := by decide +kernel
theorem dX10_nextToken_125 : decode cX10_nextToken 125 = .ok (.aload_n 0, 1) := by decide +kernel
theorem dX10_nextToken_126 : decode cX10_nextToken 126 = .ok (.aload_n 0, 1) := by decide +kernel
theorem dX10_nextToken_127 : decode cX10_nextToken 127 = .ok (.getfield 90, 3) := by decide +kernel
theorem dX10_nextToken_130 : decode cX10_nextToken 130 = .ok (.iconst 3, 1) := by decide +kernel
theorem dX10_nextToken_131 : decode cX10_nextToken 131 = .ok (.if_icmp .ge 26, 3) := by decide +kernel
theorem dX10_nextToken_134 : decode cX10_nextToken 134 = .ok (.bipush 10, 2) := by decide +kernel
theorem dX10_nextToken_136 : decode cX10_nextToken 136 = .ok (.aload_n 0, 1) := by decide +kernel
theorem dX10_nextToken_137 : decode cX10_nextToken 137 = .ok (.getfield 87, 3) := by decide +kernel
theorem dX10_nextToken_140 : decode cX10_nextToken 140 = .ok (.imul, 1) := by decide +kernel
theorem dX10_nextToken_141 : decode cX10_nextToken 141 = .ok (.aload_n 0, 1) := by decide +kernel
theorem dX10_nextToken_142 : decode cX10_nextToken 142 = .ok (.getfield 7, 3) := by decide +kernel
theorem dX10_nextToken_145 : decode cX10_nextToken 145 = .ok (.aload_n 0, 1) := by decide +kernel
theorem dX10_nextToken_146 : decode cX10_nextToken 146 = .ok (.getfield 81, 3) := by decide +kernel
theorem dX10_nextToken_149 : decode cX10_nextToken 149 = .ok (.iaload, 1) := by decide +kernel
theorem dX10_nextToken_150 : decode cX10_nextToken 150 = .ok (.iadd, 1) := by decide +kernel
theorem dX10_nextToken_151 : decode cX10_nextToken 151 = .ok (.bipush 48, 2) := by decide +kernel
theorem dX10_nextToken_153 : decode cX10_nextToken 153 = .ok (.isub, 1) := by decide +kernel
theorem dX10_nextToken_154 : decode cX10_nextToken 154 = .ok (.goto 7, 3) := by decide +kernel
theorem dX10_nextToken_157 : decode cX10_nextToken 157 = .ok (.aload_n 0, 1) := by decide +kernel
theorem dX10_nextToken_158 : decode cX10_nextToken 158 = .ok (.getfield 87, 3) := by decide +kernel
theorem dX10_nextToken_161 : decode cX10_nextToken 161 = .ok (.putfield 87, 3) := by decide +kernel
theorem dX10_nextToken_164 : decode cX10_nextToken 164 = .ok (.aload_n 0, 1) := by decide +kernel
theorem dX10_nextToken_165 : decode cX10_nextToken 165 = .ok (.dup, 1) := by decide +kernel
theorem dX10_nextToken_166 : decode cX10_nextToken 166 = .ok (.getfield 90, 3) := by decide +kernel
theorem dX10_nextToken_169 : decode cX10_nextToken 169 = .ok (.iconst 1, 1) := by decide +kernel
theorem dX10_nextToken_170 : decode cX10_nextToken 170 = .ok (.iadd, 1) := by decide +kernel
theorem dX10_nextToken_171 : decode cX10_nextToken 171 = .ok (.putfield 90, 3) := by decide +kernel
theorem dX10_nextToken_174 : decode cX10_nextToken 174 = .ok (.aload_n 0, 1) := by decide +kernel
theorem dX10_nextToken_175 : decode cX10_nextToken 175 = .ok (.dup, 1) := by decide +kernel
theorem dX10_nextToken_176 : decode cX10_nextToken 176 = .ok (.getfield 81, 3) := by decide +kernel
theorem dX10_nextToken_179 : decode cX10_nextToken 179 = .ok (.iconst 1, 1) := by decide +kernel
theorem dX10_nextToken_180 : decode cX10_nextToken 180 = .ok (.iadd, 1) := by decide +kernel
theorem dX10_nextToken_181 : decode cX10_nextToken 181 = .ok (.putfield 81, 3) := by decide +kernel
theorem dX10_nextToken_184 : decode cX10_nextToken 184 = .ok (.goto (-89), 3) := by decide +kernel
theorem dX10_nextToken_187 : decode cX10_nextToken 187 = .ok (.aload_n 0, 1) := by decide +kernel
theorem dX10_nextToken_188 : decode cX10_nextToken 188 = .ok (.iconst (-1), 1) := by decide +kernel
theorem dX10_nextToken_189 : decode cX10_nextToken 189 = .ok (.putfield 93, 3) := by decide +kernel
theorem dX10_nextToken_192 : decode cX10_nextToken 192 = .ok (.goto 26, 3) := by decide +kernel
theorem dX10_nextToken_195 : decode cX10_nextToken 195 = .ok (.aload_n 0, 1) := by decide +kernel
theorem dX10_nextToken_196 : decode cX10_nextToken 196 = .ok (.aload_n 0, 1) := by decide +kernel
theorem dX10_nextToken_197 : decode cX10_nextToken 197 = .ok (.getfield 7, 3) := by decide +kernel
theorem dX10_nextToken_200 : decode cX10_nextToken 200 = .ok (.aload_n 0, 1) := by decide +kernel
theorem dX10_nextToken_201 : decode cX10_nextToken 201 = .ok (.getfield 81, 3) := by decide +kernel
theorem dX10_nextToken_204 : decode cX10_nextToken 204 = .ok (.iaload, 1) := by decide +kernel
theorem dX10_nextToken_205 : decode cX10_nextToken 205 = .ok (.putfield 93, 3) := by decide +kernel
theorem dX10_nextToken_208 : decode cX10_nextToken 208 = .ok (.aload_n 0, 1) := by decide +kernel
theorem dX10_nextToken_209 : decode cX10_nextToken 209 = .ok (.dup, 1) := by decide +kernel
theorem dX10_nextToken_210 : decode cX10_nextToken 210 = .ok (.getfield 81, 3) := by decide +kernel
theorem dX10_nextToken_213 : decode cX10_nextToken 213 = .ok (.iconst 1, 1) := by decide +kernel
theorem dX10_nextToken_214 : decode cX10_nextToken 214 = .ok (.iadd, 1) := by decide +kernel
theorem dX10_nextToken_215 : decode cX10_nextToken 215 = .ok (.putfield 81, 3) := by decide +kernel
theorem dX10_nextToken_218 : decode cX10_nextToken 218 = .ok (.return_, 1) := by decide +kernel
theorem dX10_fails_0 : decode cX10_fails 0 = .ok (.aload_n 0, 1) := by decide +kernel
theorem dX10_fails_1 : decode cX10_fails 1 = .ok (.aload_n 0, 1) := by decide +kernel
theorem dX10_fails_2 : decode cX10_fails 2 = .ok (.getfield 84, 3) := by decide +kernel
theorem dX10_fails_5 : decode cX10_fails 5 = .ok (.putfield 13, 3) := by decide +kernel
theorem dX10_fails_8 : decode cX10_fails 8 = .ok (.aload_n 0, 1) := by decide +kernel
theorem dX10_fails_9 : decode cX10_fails 9 = .ok (.iload_n 1, 1) := by decide +kernel
theorem dX10_fails_10 : decode cX10_fails 10 = .ok (.putfield 96, 3) := by decide +kernel
theorem dX10_fails_13 : decode cX10_fails 13 = .ok (.iconst 0, 1) := by decide +kernel
theorem dX10_fails_14 : decode cX10_fails 14 = .ok (.ireturn, 1) := by decide +kernel
theorem dX10_isNumber_0 : decode cX10_isNumber 0 = .ok (.aload_n 0, 1) := by decide +kernel
theorem dX10_isNumber_1 : decode cX10_isNumber 1 = .ok (.invokevirtual 99, 3) := by decide +kernel
theorem dX10_isNumber_4 : decode cX10_isNumber 4 = .ok (.aload_n 0, 1) := by decide +kernel
theorem dX10_isNumber_5 : decode cX10_isNumber 5 = .ok (.getfield 93, 3) := by decide +kernel
theorem dX10_isNumber_8 : decode cX10_isNumber 8 = .ok (.iconst (-1), 1) := by decide +kernel
theorem dX10_isNumber_9 : decode cX10_isNumber 9 = .ok (.if_icmp .eq 9, 3) := by decide +kernel
theorem dX10_isNumber_12 : decode cX10_isNumber 12 = .ok (.aload_n 0, 1) := by decide +kernel
theorem dX10_isNumber_13 : decode cX10_isNumber 13 = .ok (.iconst 1, 1) := by decide +kernel
theorem dX10_isNumber_14 : decode cX10_isNumber 14 = .ok (.invokevirtual 102, 3) := by decide +kernel
theorem dX10_isNumber_17 : decode cX10_isNumber 17 = .ok (.ireturn, 1) := by decide +kernel
theorem dX10_isNumber_18 : decode cX10_isNumber 18 = .ok (.aload_n 0, 1) := by decide +kernel
theorem dX10_isNumber_19 : decode cX10_isNumber 19 = .ok (.getfield 90, 3) := by decide +kernel
theorem dX10_isNumber_22 : decode cX10_isNumber 22 = .ok (.iconst 4, 1) := by decide +kernel
theorem dX10_isNumber_23 : decode cX10_isNumber 23 = .ok (.if_icmp .ge 15, 3) := by decide +kernel
theorem dX10_isNumber_26 : decode cX10_isNumber 26 = .ok (.aload_n 0, 1) := by decide +kernel
theorem dX10_isNumber_27 : decode cX10_isNumber 27 = .ok (.getfield 87, 3) := by decide +kernel
theorem dX10_isNumber_30 : decode cX10_isNumber 30 = .ok (.iload_n 1, 1) := by decide +kernel
theorem dX10_isNumber_31 : decode cX10_isNumber 31 = .ok (.iload_n 2, 1) := by decide +kernel
theorem dX10_isNumber_32 : decode cX10_isNumber 32 = .ok (.invokestatic 69, 3) := by decide +kernel
theorem dX10_isNumber_35 : decode cX10_isNumber 35 = .ok (.ifCond .ne 11, 3) := by decide +kernel
theorem dX10_isNumber_38 : decode cX10_isNumber 38 = .ok (.aload_n 0, 1) := by decide +kernel
theorem dX10_isNumber_39 : decode cX10_isNumber 39 = .ok (.iconst 2, 1) := by decide +kernel
theorem dX10_isNumber_40 : decode cX10_isNumber 40 = .ok (.invokevirtual 102, 3) := by decide +kernel
theorem dX10_isNumber_43 : decode cX10_isNumber 43 = .ok (.ifCond .eq 7, 3) := by decide +kernel
theorem dX10_isNumber_46 : decode cX10_isNumber 46 = .ok (.iconst 1, 1) := by decide +kernel
theorem dX10_isNumber_47 : decode cX10_isNumber 47 = .ok (.goto 4, 3) := by decide +kernel
theorem dX10_isNumber_50 : decode cX10_isNumber 50 = .ok (.iconst 0, 1) := by decide +kernel
theorem dX10_isNumber_51 : decode cX10_isNumber 51 = .ok (.ireturn, 1) := by decide +kernel
theorem dX10_isEnd_0 : decode cX10_isEnd 0 = .ok (.aload_n 0, 1) := by decide +kernel
theorem dX10_isEnd_1 : decode cX10_isEnd 1 = .ok (.invokevirtual 99, 3) := by decide +kernel
theorem dX10_isEnd_4 : decode cX10_isEnd 4 = .ok (.aload_n 0, 1) := by decide +kernel
theorem dX10_isEnd_5 : decode cX10_isEnd 5 = .ok (.getfield 93, 3) := by decide +kernel
theorem dX10_isEnd_8 : decode cX10_isEnd 8 = .ok (.bipush 59, 2) := by decide +kernel
theorem dX10_isEnd_10 : decode cX10_isEnd 10 = .ok (.if_icmp .eq 11, 3) := by decide +kernel
theorem dX10_isEnd_13 : decode cX10_isEnd 13 = .ok (.aload_n 0, 1) := by decide +kernel
theorem dX10_isEnd_14 : decode cX10_isEnd 14 = .ok (.iconst 1, 1) := by decide +kernel
theorem dX10_isEnd_15 : decode cX10_isEnd 15 = .ok (.invokevirtual 102, 3) := by decide +kernel
theorem dX10_isEnd_18 : decode cX10_isEnd 18 = .ok (.ifCond .eq 7, 3) := by decide +kernel
theorem dX10_isEnd_21 : decode cX10_isEnd 21 = .ok (.iconst 1, 1) := by decide +kernel
theorem dX10_isEnd_22 : decode cX10_isEnd 22 = .ok (.goto 4, 3) := by decide +kernel
theorem dX10_isEnd_25 : decode cX10_isEnd 25 = .ok (.iconst 0, 1) := by decide +kernel
theorem dX10_isEnd_26 : decode cX10_isEnd 26 = .ok (.ireturn, 1) := by decide +kernel
theorem dX10_isHead_0 : decode cX10_isHead 0 = .ok (.aload_n 0, 1) := by decide +kernel
theorem dX10_isHead_1 : decode cX10_isHead 1 = .ok (.iconst 1, 1) := by decide +kernel
theorem dX10_isHead_2 : decode cX10_isHead 2 = .ok (.bipush 99, 2) := by decide +kernel
theorem dX10_isHead_4 : decode cX10_isHead 4 = .ok (.invokevirtual 106, 3) := by decide +kernel
theorem dX10_isHead_7 : decode cX10_isHead 7 = .ok (.ifCond .ne 5, 3) := by decide +kernel
theorem dX10_isHead_10 : decode cX10_isHead 10 = .ok (.iconst 0, 1) := by decide +kernel
theorem dX10_isHead_11 : decode cX10_isHead 11 = .ok (.ireturn, 1) := by decide +kernel
theorem dX10_isHead_12 : decode cX10_isHead 12 = .ok (.aload_n 0, 1) := by decide +kernel
theorem dX10_isHead_13 : decode cX10_isHead 13 = .ok (.aload_n 0, 1) := by decide +kernel
theorem dX10_isHead_14 : decode cX10_isHead 14 = .ok (.getfield 87, 3) := by decide +kernel
theorem dX10_isHead_17 : decode cX10_isHead 17 = .ok (.putfield 110, 3) := by decide +kernel
theorem dX10_isHead_20 : decode cX10_isHead 20 = .ok (.aload_n 0, 1) := by decide +kernel
theorem dX10_isHead_21 : decode cX10_isHead 21 = .ok (.iconst 0, 1) := by decide +kernel
theorem dX10_isHead_22 : decode cX10_isHead 22 = .ok (.bipush 100, 2) := by decide +kernel
theorem dX10_isHead_24 : decode cX10_isHead 24 = .ok (.invokevirtual 106, 3) := by decide +kernel
theorem dX10_isHead_27 : decode cX10_isHead 27 = .ok (.ifCond .ne 5, 3) := by decide +kernel
theorem dX10_isHead_30 : decode cX10_isHead 30 = .ok (.iconst 0, 1) := by decide +kernel
theorem dX10_isHead_31 : decode cX10_isHead 31 = .ok (.ireturn, 1) := by decide +kernel
theorem dX10_isHead_32 : decode cX10_isHead 32 = .ok (.aload_n 0, 1) := by decide +kernel
theorem dX10_isHead_33 : decode cX10_isHead 33 = .ok (.aload_n 0, 1) := by decide +kernel
theorem dX10_isHead_34 : decode cX10_isHead 34 = .ok (.getfield 87, 3) := by decide +kernel
theorem dX10_isHead_37 : decode cX10_isHead 37 = .ok (.putfield 113, 3) := by decide +kernel
theorem dX10_isHead_40 : decode cX10_isHead 40 = .ok (.aload_n 0, 1) := by decide +kernel
theorem dX10_isHead_41 : decode cX10_isHead 41 = .ok (.iconst 1, 1) := by decide +kernel
theorem dX10_isHead_42 : decode cX10_isHead 42 = .ok (.putfield 116, 3) := by decide +kernel
theorem dX10_isHead_45 : decode cX10_isHead 45 = .ok (.aload_n 0, 1) := by decide +kernel
theorem dX10_isHead_46 : decode cX10_isHead 46 = .ok (.invokevirtual 120, 3) := by decide +kernel
theorem dX10_isHead_49 : decode cX10_isHead 49 = .ok (.ireturn, 1) := by decide +kernel
theorem dX10_isChildItem_0 : decode cX10_isChildItem 0 = .ok (.aload_n 0, 1) := by decide +kernel
theorem dX10_isChildItem_1 : decode cX10_isChildItem 1 = .ok (.getfield 124, 3) := by decide +kernel
theorem dX10_isChildItem_4 : decode cX10_isChildItem 4 = .ok (.bipush 6, 2) := by decide +kernel
theorem dX10_isChildItem_6 : decode cX10_isChildItem 6 = .ok (.if_icmp .ne 9, 3) := by decide +kernel
theorem dX10_isChildItem_9 : decode cX10_isChildItem 9 = .ok (.aload_n 0, 1) := by decide +kernel
theorem dX10_isChildItem_10 : decode cX10_isChildItem 10 = .ok (.iconst 3, 1) := by decide +kernel
theorem dX10_isChildItem_11 : decode cX10_isChildItem 11 = .ok (.invokevirtual 102, 3) := by decide +kernel
theorem dX10_isChildItem_14 : decode cX10_isChildItem 14 = .ok (.ireturn, 1) := by decide +kernel
theorem dX10_isChildItem_15 : decode cX10_isChildItem 15 = .ok (.aload_n 0, 1) := by decide +kernel
theorem dX10_isChildItem_16 : decode cX10_isChildItem 16 = .ok (.iconst 0, 1) := by decide +kernel
theorem dX10_isChildItem_17 : decode cX10_isChildItem 17 = .ok (.iconst 3, 1) := by decide +kernel
theorem dX10_isChildItem_18 : decode cX10_isChildItem 18 = .ok (.invokevirtual 106, 3) := by decide +kernel
theorem dX10_isChildItem_21 : decode cX10_isChildItem 21 = .ok (.ifCond .ne 5, 3) := by decide +kernel
theorem dX10_isChildItem_24 : decode cX10_isChildItem 24 = .ok (.iconst 0, 1) := by decide +kernel
theorem dX10_isChildItem_25 : decode cX10_isChildItem 25 = .ok (.ireturn, 1) := by decide +kernel
theorem dX10_isChildItem_26 : decode cX10_isChildItem 26 = .ok (.aload_n 0, 1) := by decide +kernel
theorem dX10_isChildItem_27 : decode cX10_isChildItem 27 = .ok (.getfield 17, 3) := by decide +kernel
theorem dX10_isChildItem_30 : decode cX10_isChildItem 30 = .ok (.iconst 2, 1) := by decide +kernel
theorem dX10_isChildItem_31 : decode cX10_isChildItem 31 = .ok (.aload_n 0, 1) := by decide +kernel
theorem dX10_isChildItem_32 : decode cX10_isChildItem 32 = .ok (.getfield 124, 3) := by decide +kernel
theorem dX10_isChildItem_35 : decode cX10_isChildItem 35 = .ok (.imul, 1) := by decide +kernel
theorem dX10_isChildItem_36 : decode cX10_isChildItem 36 = .ok (.aload_n 0, 1) := by decide +kernel
theorem dX10_isChildItem_37 : decode cX10_isChildItem 37 = .ok (.getfield 87, 3) := by decide +kernel
theorem dX10_isChildItem_40 : decode cX10_isChildItem 40 = .ok (.iastore, 1) := by decide +kernel
theorem dX10_isChildItem_41 : decode cX10_isChildItem 41 = .ok (.aload_n 0, 1) := by decide +kernel
theorem dX10_isChildItem_42 : decode cX10_isChildItem 42 = .ok (.iconst 0, 1) := by decide +kernel
theorem dX10_isChildItem_43 : decode cX10_isChildItem 43 = .ok (.bipush 60, 2) := by decide +kernel
theorem dX10_isChildItem_45 : decode cX10_isChildItem 45 = .ok (.invokevirtual 106, 3) := by decide +kernel
theorem dX10_isChildItem_48 : decode cX10_isChildItem 48 = .ok (.ifCond .ne 5, 3) := by decide +kernel
theorem dX10_isChildItem_51 : decode cX10_isChildItem 51 = .ok (.iconst 0, 1) := by decide +kernel
theorem dX10_isChildItem_52 : decode cX10_isChildItem 52 = .ok (.ireturn, 1) := by decide +kernel
theorem dX10_isChildItem_53 : decode cX10_isChildItem 53 = .ok (.aload_n 0, 1) := by decide +kernel
theorem dX10_isChildItem_54 : decode cX10_isChildItem 54 = .ok (.getfield 17, 3) := by decide +kernel
theorem dX10_isChildItem_57 : decode cX10_isChildItem 57 = .ok (.iconst 2, 1) := by decide +kernel
theorem dX10_isChildItem_58 : decode cX10_isChildItem 58 = .ok (.aload_n 0, 1) := by decide +kernel
theorem dX10_isChildItem_59 : decode cX10_isChildItem 59 = .ok (.getfield 124, 3) := by decide +kernel
theorem dX10_isChildItem_62 : decode cX10_isChildItem 62 = .ok (.imul, 1) := by decide +kernel
theorem dX10_isChildItem_63 : decode cX10_isChildItem 63 = .ok (.iconst 1, 1) := by decide +kernel
theorem dX10_isChildItem_64 : decode cX10_isChildItem 64 = .ok (.iadd, 1) := by decide +kernel
theorem dX10_isChildItem_65 : decode cX10_isChildItem 65 = .ok (.aload_n 0, 1) := by decide +kernel
theorem dX10_isChildItem_66 : decode cX10_isChildItem 66 = .ok (.getfield 87, 3) := by decide +kernel
theorem dX10_isChildItem_69 : decode cX10_isChildItem 69 = .ok (.iastore, 1) := by decide +kernel
theorem dX10_isChildItem_70 : decode cX10_isChildItem 70 = .ok (.aload_n 0, 1) := by decide +kernel
theorem dX10_isChildItem_71 : decode cX10_isChildItem 71 = .ok (.dup, 1) := by decide +kernel
theorem dX10_isChildItem_72 : decode cX10_isChildItem 72 = .ok (.getfield 124, 3) := by decide +kernel
theorem dX10_isChildItem_75 : decode cX10_isChildItem 75 = .ok (.iconst 1, 1) := by decide +kernel
theorem dX10_isChildItem_76 : decode cX10_isChildItem 76 = .ok (.iadd, 1) := by decide +kernel
theorem dX10_isChildItem_77 : decode cX10_isChildItem 77 = .ok (.putfield 124, 3) := by decide +kernel
theorem dX10_isChildItem_80 : decode cX10_isChildItem 80 = .ok (.aload_n 0, 1) := by decide +kernel
theorem dX10_isChildItem_81 : decode cX10_isChildItem 81 = .ok (.invokevirtual 120, 3) := by decide +kernel
theorem dX10_isChildItem_84 : decode cX10_isChildItem 84 = .ok (.ireturn, 1) := by decide +kernel
theorem dX10_isWhose_0 : decode cX10_isWhose 0 = .ok (.aload_n 0, 1) := by decide +kernel
theorem dX10_isWhose_1 : decode cX10_isWhose 1 = .ok (.invokevirtual 99, 3) := by decide +kernel
theorem dX10_isWhose_4 : decode cX10_isWhose 4 = .ok (.aload_n 0, 1) := by decide +kernel
theorem dX10_isWhose_5 : decode cX10_isWhose 5 = .ok (.getfield 93, 3) := by decide +kernel
theorem dX10_isWhose_8 : decode cX10_isWhose 8 = .ok (.iconst (-1), 1) := by decide +kernel
theorem dX10_isWhose_9 : decode cX10_isWhose 9 = .ok (.if_icmp .eq 9, 3) := by decide +kernel
theorem dX10_isWhose_12 : decode cX10_isWhose 12 = .ok (.aload_n 0, 1) := by decide +kernel
theorem dX10_isWhose_13 : decode cX10_isWhose 13 = .ok (.iconst 1, 1) := by decide +kernel
theorem dX10_isWhose_14 : decode cX10_isWhose 14 = .ok (.invokevirtual 102, 3) := by decide +kernel
theorem dX10_isWhose_17 : decode cX10_isWhose 17 = .ok (.ireturn, 1) := by decide +kernel
theorem dX10_isWhose_18 : decode cX10_isWhose 18 = .ok (.aload_n 0, 1) := by decide +kernel
theorem dX10_isWhose_19 : decode cX10_isWhose 19 = .ok (.getfield 90, 3) := by decide +kernel
theorem dX10_isWhose_22 : decode cX10_isWhose 22 = .ok (.iconst 3, 1) := by decide +kernel
theorem dX10_isWhose_23 : decode cX10_isWhose 23 = .ok (.if_icmp .gt 23, 3) := by decide +kernel
theorem dX10_isWhose_26 : decode cX10_isWhose 26 = .ok (.aload_n 0, 1) := by decide +kernel
theorem dX10_isWhose_27 : decode cX10_isWhose 27 = .ok (.getfield 87, 3) := by decide +kernel
theorem dX10_isWhose_30 : decode cX10_isWhose 30 = .ok (.bipush 9, 2) := by decide +kernel
theorem dX10_isWhose_32 : decode cX10_isWhose 32 = .ok (.if_icmp .eq 20, 3) := by decide +kernel
theorem dX10_isWhose_35 : decode cX10_isWhose 35 = .ok (.aload_n 0, 1) := by decide +kernel
theorem dX10_isWhose_36 : decode cX10_isWhose 36 = .ok (.getfield 87, 3) := by decide +kernel
theorem dX10_isWhose_39 : decode cX10_isWhose 39 = .ok (.aload_n 0, 1) := by decide +kernel
theorem dX10_isWhose_40 : decode cX10_isWhose 40 = .ok (.getfield 124, 3) := by decide +kernel
theorem dX10_isWhose_43 : decode cX10_isWhose 43 = .ok (.if_icmp .lt 9, 3) := by decide +kernel
theorem dX10_isWhose_46 : decode cX10_isWhose 46 = .ok (.aload_n 0, 1) := by decide +kernel
theorem dX10_isWhose_47 : decode cX10_isWhose 47 = .ok (.iconst 2, 1) := by decide +kernel
theorem dX10_isWhose_48 : decode cX10_isWhose 48 = .ok (.invokevirtual 102, 3) := by decide +kernel
theorem dX10_isWhose_51 : decode cX10_isWhose 51 = .ok (.ireturn, 1) := by decide +kernel
theorem dX10_isWhose_52 : decode cX10_isWhose 52 = .ok (.iconst 0, 1) := by decide +kernel
theorem dX10_isWhose_53 : decode cX10_isWhose 53 = .ok (.istore_n 1, 1) := by decide +kernel
theorem dX10_isWhose_54 : decode cX10_isWhose 54 = .ok (.iload_n 1, 1) := by decide +kernel
theorem dX10_isWhose_55 : decode cX10_isWhose 55 = .ok (.aload_n 0, 1) := by decide +kernel
theorem dX10_isWhose_56 : decode cX10_isWhose 56 = .ok (.getfield 127, 3) := by decide +kernel
theorem dX10_isWhose_59 : decode cX10_isWhose 59 = .ok (.if_icmp .ge 41, 3) := by decide +kernel
theorem dX10_isWhose_62 : decode cX10_isWhose 62 = .ok (.aload_n 0, 1) := by decide +kernel
theorem dX10_isWhose_63 : decode cX10_isWhose 63 = .ok (.getfield 87, 3) := by decide +kernel
theorem dX10_isWhose_66 : decode cX10_isWhose 66 = .ok (.bipush 9, 2) := by decide +kernel
theorem dX10_isWhose_68 : decode cX10_isWhose 68 = .ok (.if_icmp .eq 26, 3) := by decide +kernel
theorem dX10_isWhose_71 : decode cX10_isWhose 71 = .ok (.aload_n 0, 1) := by decide +kernel
theorem dX10_isWhose_72 : decode cX10_isWhose 72 = .ok (.getfield 20, 3) := by decide +kernel
theorem dX10_isWhose_75 : decode cX10_isWhose 75 = .ok (.iconst 4, 1) := by decide +kernel
theorem dX10_isWhose_76 : decode cX10_isWhose 76 = .ok (.iload_n 1, 1) := by decide +kernel
theorem dX10_isWhose_77 : decode cX10_isWhose 77 = .ok (.imul, 1) := by decide +kernel
theorem dX10_isWhose_78 : decode cX10_isWhose 78 = .ok (.iconst 3, 1) := by decide +kernel
theorem dX10_isWhose_79 : decode cX10_isWhose 79 = .ok (.iadd, 1) := by decide +kernel
theorem dX10_isWhose_80 : decode cX10_isWhose 80 = .ok (.iaload, 1) := by decide +kernel
theorem dX10_isWhose_81 : decode cX10_isWhose 81 = .ok (.aload_n 0, 1) := by decide +kernel
theorem dX10_isWhose_82 : decode cX10_isWhose 82 = .ok (.getfield 87, 3) := by decide +kernel
theorem dX10_isWhose_85 : decode cX10_isWhose 85 = .ok (.if_icmp .ne 9, 3) := by decide +kernel
theorem dX10_isWhose_88 : decode cX10_isWhose 88 = .ok (.aload_n 0, 1) := by decide +kernel
theorem dX10_isWhose_89 : decode cX10_isWhose 89 = .ok (.iconst 4, 1) := by decide +kernel
theorem dX10_isWhose_90 : decode cX10_isWhose 90 = .ok (.invokevirtual 102, 3) := by decide +kernel
theorem dX10_isWhose_93 : decode cX10_isWhose 93 = .ok (.ireturn, 1) := by decide +kernel
theorem dX10_isWhose_94 : decode cX10_isWhose 94 = .ok (.iinc 1 1, 3) := by decide +kernel
theorem dX10_isWhose_97 : decode cX10_isWhose 97 = .ok (.goto (-43), 3) := by decide +kernel
theorem dX10_isWhose_100 : decode cX10_isWhose 100 = .ok (.iconst 1, 1) := by decide +kernel
theorem dX10_isWhose_101 : decode cX10_isWhose 101 = .ok (.ireturn, 1) := by decide +kernel
theorem dX10_isDummyItem_0 : decode cX10_isDummyItem 0 = .ok (.aload_n 0, 1) := by decide +kernel
theorem dX10_isDummyItem_1 : decode cX10_isDummyItem 1 = .ok (.getfield 127, 3) := by decide +kernel
theorem dX10_isDummyItem_4 : decode cX10_isDummyItem 4 = .ok (.bipush 6, 2) := by decide +kernel
theorem dX10_isDummyItem_6 : decode cX10_isDummyItem 6 = .ok (.if_icmp .ne 9, 3) := by decide +kernel
theorem dX10_isDummyItem_9 : decode cX10_isDummyItem 9 = .ok (.aload_n 0, 1) := by decide +kernel
theorem dX10_isDummyItem_10 : decode cX10_isDummyItem 10 = .ok (.iconst 3, 1) := by decide +kernel
theorem dX10_isDummyItem_11 : decode cX10_isDummyItem 11 = .ok (.invokevirtual 102, 3) := by decide +kernel
theorem dX10_isDummyItem_14 : decode cX10_isDummyItem 14 = .ok (.ireturn, 1) := by decide +kernel
theorem dX10_isDummyItem_15 : decode cX10_isDummyItem 15 = .ok (.iconst 4, 1) := by decide +kernel
theorem dX10_isDummyItem_16 : decode cX10_isDummyItem 16 = .ok (.aload_n 0, 1) := by decide +kernel
theorem dX10_isDummyItem_17 : decode cX10_isDummyItem 17 = .ok (.getfield 127, 3) := by decide +kernel
theorem dX10_isDummyItem_20 : decode cX10_isDummyItem 20 = .ok (.imul, 1) := by decide +kernel
theorem dX10_isDummyItem_21 : decode cX10_isDummyItem 21 = .ok (.istore_n 1, 1) := by decide +kernel
theorem dX10_isDummyItem_22 : decode cX10_isDummyItem 22 = .ok (.iconst 0, 1) := by decide +kernel
theorem dX10_isDummyItem_23 : decode cX10_isDummyItem 23 = .ok (.istore_n 2, 1) := by decide +kernel
theorem dX10_isDummyItem_24 : decode cX10_isDummyItem 24 = .ok (.iload_n 2, 1) := by decide +kernel
theorem dX10_isDummyItem_25 : decode cX10_isDummyItem 25 = .ok (.iconst 3, 1) := by decide +kernel
theorem dX10_isDummyItem_26 : decode cX10_isDummyItem 26 = .ok (.if_icmp .ge 51, 3) := by decide +kernel
theorem dX10_isDummyItem_29 : decode cX10_isDummyItem 29 = .ok (.aload_n 0, 1) := by decide +kernel
theorem dX10_isDummyItem_30 : decode cX10_isDummyItem 30 = .ok (.iconst 0, 1) := by decide +kernel
theorem dX10_isDummyItem_31 : decode cX10_isDummyItem 31 = .ok (.iload_n 2, 1) := by decide +kernel
theorem dX10_isDummyItem_32 : decode cX10_isDummyItem 32 = .ok (.ifCond .ne 8, 3) := by decide +kernel
theorem dX10_isDummyItem_35 : decode cX10_isDummyItem 35 = .ok (.bipush 9, 2) := by decide +kernel
theorem dX10_isDummyItem_37 : decode cX10_isDummyItem 37 = .ok (.goto 14, 3) := by decide +kernel
theorem dX10_isDummyItem_40 : decode cX10_isDummyItem 40 = .ok (.iload_n 2, 1) := by decide +kernel
theorem dX10_isDummyItem_41 : decode cX10_isDummyItem 41 = .ok (.iconst 1, 1) := by decide +kernel
theorem dX10_isDummyItem_42 : decode cX10_isDummyItem 42 = .ok (.if_icmp .ne 7, 3) := by decide +kernel
theorem dX10_isDummyItem_45 : decode cX10_isDummyItem 45 = .ok (.iconst 3, 1) := by decide +kernel
theorem dX10_isDummyItem_46 : decode cX10_isDummyItem 46 = .ok (.goto 5, 3) := by decide +kernel
theorem dX10_isDummyItem_49 : decode cX10_isDummyItem 49 = .ok (.bipush 30, 2) := by decide +kernel
theorem dX10_isDummyItem_51 : decode cX10_isDummyItem 51 = .ok (.invokevirtual 106, 3) := by decide +kernel
theorem dX10_isDummyItem_54 : decode cX10_isDummyItem 54 = .ok (.ifCond .ne 5, 3) := by decide +kernel
theorem dX10_isDummyItem_57 : decode cX10_isDummyItem 57 = .ok (.iconst 0, 1) := by decide +kernel
theorem dX10_isDummyItem_58 : decode cX10_isDummyItem 58 = .ok (.ireturn, 1) := by decide +kernel
theorem dX10_isDummyItem_59 : decode cX10_isDummyItem 59 = .ok (.aload_n 0, 1) := by decide +kernel
theorem dX10_isDummyItem_60 : decode cX10_isDummyItem 60 = .ok (.getfield 20, 3) := by decide +kernel
theorem dX10_isDummyItem_63 : decode cX10_isDummyItem 63 = .ok (.iload_n 1, 1) := by decide +kernel
theorem dX10_isDummyItem_64 : decode cX10_isDummyItem 64 = .ok (.iload_n 2, 1) := by decide +kernel
theorem dX10_isDummyItem_65 : decode cX10_isDummyItem 65 = .ok (.iadd, 1) := by decide +kernel
theorem dX10_isDummyItem_66 : decode cX10_isDummyItem 66 = .ok (.aload_n 0, 1) := by decide +kernel
theorem dX10_isDummyItem_67 : decode cX10_isDummyItem 67 = .ok (.getfield 87, 3) := by decide +kernel
theorem dX10_isDummyItem_70 : decode cX10_isDummyItem 70 = .ok (.iastore, 1) := by decide +kernel
theorem dX10_isDummyItem_71 : decode cX10_isDummyItem 71 = .ok (.iinc 2 1, 3) := by decide +kernel
theorem dX10_isDummyItem_74 : decode cX10_isDummyItem 74 = .ok (.goto (-50), 3) := by decide +kernel
theorem dX10_isDummyItem_77 : decode cX10_isDummyItem 77 = .ok (.aload_n 0, 1) := by decide +kernel
theorem dX10_isDummyItem_78 : decode cX10_isDummyItem 78 = .ok (.invokevirtual 130, 3) := by decide +kernel
theorem dX10_isDummyItem_81 : decode cX10_isDummyItem 81 = .ok (.ifCond .ne 5, 3) := by decide +kernel
theorem dX10_isDummyItem_84 : decode cX10_isDummyItem 84 = .ok (.iconst 0, 1) := by decide +kernel
theorem dX10_isDummyItem_85 : decode cX10_isDummyItem 85 = .ok (.ireturn, 1) := by decide +kernel
theorem dX10_isDummyItem_86 : decode cX10_isDummyItem 86 = .ok (.aload_n 0, 1) := by decide +kernel
theorem dX10_isDummyItem_87 : decode cX10_isDummyItem 87 = .ok (.getfield 20, 3) := by decide +kernel
theorem dX10_isDummyItem_90 : decode cX10_isDummyItem 90 = .ok (.iload_n 1, 1) := by decide +kernel
theorem dX10_isDummyItem_91 : decode cX10_isDummyItem 91 = .ok (.iconst 3, 1) := by decide +kernel
theorem dX10_isDummyItem_92 : decode cX10_isDummyItem 92 = .ok (.iadd, 1) := by decide +kernel
theorem dX10_isDummyItem_93 : decode cX10_isDummyItem 93 = .ok (.aload_n 0, 1) := by decide +kernel
theorem dX10_isDummyItem_94 : decode cX10_isDummyItem 94 = .ok (.getfield 87, 3) := by decide +kernel
theorem dX10_isDummyItem_97 : decode cX10_isDummyItem 97 = .ok (.iastore, 1) := by decide +kernel
theorem dX10_isDummyItem_98 : decode cX10_isDummyItem 98 = .ok (.aload_n 0, 1) := by decide +kernel
theorem dX10_isDummyItem_99 : decode cX10_isDummyItem 99 = .ok (.dup, 1) := by decide +kernel
theorem dX10_isDummyItem_100 : decode cX10_isDummyItem 100 = .ok (.getfield 127, 3) := by decide +kernel
theorem dX10_isDummyItem_103 : decode cX10_isDummyItem 103 = .ok (.iconst 1, 1) := by decide +kernel
theorem dX10_isDummyItem_104 : decode cX10_isDummyItem 104 = .ok (.iadd, 1) := by decide +kernel
theorem dX10_isDummyItem_105 : decode cX10_isDummyItem 105 = .ok (.putfield 127, 3) := by decide +kernel
theorem dX10_isDummyItem_108 : decode cX10_isDummyItem 108 = .ok (.aload_n 0, 1) := by decide +kernel
theorem dX10_isDummyItem_109 : decode cX10_isDummyItem 109 = .ok (.invokevirtual 120, 3) := by decide +kernel
theorem dX10_isDummyItem_112 : decode cX10_isDummyItem 112 = .ok (.ireturn, 1) := by decide +kernel
theorem dX10_isClause_0 : decode cX10_isClause 0 = .ok (.aload_n 0, 1) := by decide +kernel
theorem dX10_isClause_1 : decode cX10_isClause 1 = .ok (.getfield 93, 3) := by decide +kernel
theorem dX10_isClause_4 : decode cX10_isClause 4 = .ok (.bipush 110, 2) := by decide +kernel
theorem dX10_isClause_6 : decode cX10_isClause 6 = .ok (.if_icmp .ne 23, 3) := by decide +kernel
theorem dX10_isClause_9 : decode cX10_isClause 9 = .ok (.aload_n 0, 1) := by decide +kernel
theorem dX10_isClause_10 : decode cX10_isClause 10 = .ok (.getfield 116, 3) := by decide +kernel
theorem dX10_isClause_13 : decode cX10_isClause 13 = .ok (.ifCond .eq 11, 3) := by decide +kernel
theorem dX10_isClause_16 : decode cX10_isClause 16 = .ok (.aload_n 0, 1) := by decide +kernel
theorem dX10_isClause_17 : decode cX10_isClause 17 = .ok (.iconst 3, 1) := by decide +kernel
theorem dX10_isClause_18 : decode cX10_isClause 18 = .ok (.invokevirtual 102, 3) := by decide +kernel
theorem dX10_isClause_21 : decode cX10_isClause 21 = .ok (.goto 7, 3) := by decide +kernel
theorem dX10_isClause_24 : decode cX10_isClause 24 = .ok (.aload_n 0, 1) := by decide +kernel
theorem dX10_isClause_25 : decode cX10_isClause 25 = .ok (.invokevirtual 133, 3) := by decide +kernel
theorem dX10_isClause_28 : decode cX10_isClause 28 = .ok (.ireturn, 1) := by decide +kernel
theorem dX10_isClause_29 : decode cX10_isClause 29 = .ok (.aload_n 0, 1) := by decide +kernel
theorem dX10_isClause_30 : decode cX10_isClause 30 = .ok (.getfield 116, 3) := by decide +kernel
theorem dX10_isClause_33 : decode cX10_isClause 33 = .ok (.ifCond .ne 9, 3) := by decide +kernel
theorem dX10_isClause_36 : decode cX10_isClause 36 = .ok (.aload_n 0, 1) := by decide +kernel
theorem dX10_isClause_37 : decode cX10_isClause 37 = .ok (.iconst 1, 1) := by decide +kernel
theorem dX10_isClause_38 : decode cX10_isClause 38 = .ok (.invokevirtual 102, 3) := by decide +kernel
theorem dX10_isClause_41 : decode cX10_isClause 41 = .ok (.ireturn, 1) := by decide +kernel
theorem dX10_isClause_42 : decode cX10_isClause 42 = .ok (.aload_n 0, 1) := by decide +kernel
theorem dX10_isClause_43 : decode cX10_isClause 43 = .ok (.getfield 93, 3) := by decide +kernel
theorem dX10_isClause_46 : decode cX10_isClause 46 = .ok (.bipush 99, 2) := by decide +kernel
theorem dX10_isClause_48 : decode cX10_isClause 48 = .ok (.if_icmp .ne 10, 3) := by decide +kernel
theorem dX10_isClause_51 : decode cX10_isClause 51 = .ok (.aload_n 0, 1) := by decide +kernel
theorem dX10_isClause_52 : decode cX10_isClause 52 = .ok (.invokevirtual 136, 3) := by decide +kernel
theorem dX10_isClause_55 : decode cX10_isClause 55 = .ok (.goto 24, 3) := by decide +kernel
theorem dX10_isClause_58 : decode cX10_isClause 58 = .ok (.aload_n 0, 1) := by decide +kernel
theorem dX10_isClause_59 : decode cX10_isClause 59 = .ok (.getfield 93, 3) := by decide +kernel
theorem dX10_isClause_62 : decode cX10_isClause 62 = .ok (.bipush 100, 2) := by decide +kernel
theorem dX10_isClause_64 : decode cX10_isClause 64 = .ok (.if_icmp .ne 10, 3) := by decide +kernel
theorem dX10_isClause_67 : decode cX10_isClause 67 = .ok (.aload_n 0, 1) := by decide +kernel
theorem dX10_isClause_68 : decode cX10_isClause 68 = .ok (.invokevirtual 139, 3) := by decide +kernel
theorem dX10_isClause_71 : decode cX10_isClause 71 = .ok (.goto 8, 3) := by decide +kernel
theorem dX10_isClause_74 : decode cX10_isClause 74 = .ok (.aload_n 0, 1) := by decide +kernel
theorem dX10_isClause_75 : decode cX10_isClause 75 = .ok (.iconst 1, 1) := by decide +kernel
theorem dX10_isClause_76 : decode cX10_isClause 76 = .ok (.invokevirtual 102, 3) := by decide +kernel
theorem dX10_isClause_79 : decode cX10_isClause 79 = .ok (.ireturn, 1) := by decide +kernel
theorem dX10_isRead_0 : decode cX10_isRead 0 = .ok (.aload_n 0, 1) := by decide +kernel
theorem dX10_isRead_1 : decode cX10_isRead 1 = .ok (.iconst 0, 1) := by decide +kernel
theorem dX10_isRead_2 : decode cX10_isRead 2 = .ok (.putfield 81, 3) := by decide +kernel
theorem dX10_isRead_5 : decode cX10_isRead 5 = .ok (.aload_n 0, 1) := by decide +kernel
theorem dX10_isRead_6 : decode cX10_isRead 6 = .ok (.iconst 0, 1) := by decide +kernel
theorem dX10_isRead_7 : decode cX10_isRead 7 = .ok (.putfield 116, 3) := by decide +kernel
theorem dX10_isRead_10 : decode cX10_isRead 10 = .ok (.aload_n 0, 1) := by decide +kernel
theorem dX10_isRead_11 : decode cX10_isRead 11 = .ok (.iconst 0, 1) := by decide +kernel
theorem dX10_isRead_12 : decode cX10_isRead 12 = .ok (.putfield 110, 3) := by decide +kernel
theorem dX10_isRead_15 : decode cX10_isRead 15 = .ok (.aload_n 0, 1) := by decide +kernel
theorem dX10_isRead_16 : decode cX10_isRead 16 = .ok (.iconst 0, 1) := by decide +kernel
theorem dX10_isRead_17 : decode cX10_isRead 17 = .ok (.putfield 113, 3) := by decide +kernel
theorem dX10_isRead_20 : decode cX10_isRead 20 = .ok (.aload_n 0, 1) := by decide +kernel
theorem dX10_isRead_21 : decode cX10_isRead 21 = .ok (.iconst 0, 1) := by decide +kernel
theorem dX10_isRead_22 : decode cX10_isRead 22 = .ok (.putfield 124, 3) := by decide +kernel
theorem dX10_isRead_25 : decode cX10_isRead 25 = .ok (.aload_n 0, 1) := by decide +kernel
theorem dX10_isRead_26 : decode cX10_isRead 26 = .ok (.iconst 0, 1) := by decide +kernel
theorem dX10_isRead_27 : decode cX10_isRead 27 = .ok (.putfield 127, 3) := by decide +kernel
theorem dX10_isRead_30 : decode cX10_isRead 30 = .ok (.aload_n 0, 1) := by decide +kernel
theorem dX10_isRead_31 : decode cX10_isRead 31 = .ok (.invokevirtual 99, 3) := by decide +kernel
theorem dX10_isRead_34 : decode cX10_isRead 34 = .ok (.aload_n 0, 1) := by decide +kernel
theorem dX10_isRead_35 : decode cX10_isRead 35 = .ok (.getfield 93, 3) := by decide +kernel
theorem dX10_isRead_38 : decode cX10_isRead 38 = .ok (.bipush (-2), 2) := by decide +kernel
theorem dX10_isRead_40 : decode cX10_isRead 40 = .ok (.if_icmp .eq 19, 3) := by decide +kernel
theorem dX10_isRead_43 : decode cX10_isRead 43 = .ok (.aload_n 0, 1) := by decide +kernel
theorem dX10_isRead_44 : decode cX10_isRead 44 = .ok (.invokevirtual 142, 3) := by decide +kernel
theorem dX10_isRead_47 : decode cX10_isRead 47 = .ok (.ifCond .ne 5, 3) := by decide +kernel
theorem dX10_isRead_50 : decode cX10_isRead 50 = .ok (.iconst 0, 1) := by decide +kernel
theorem dX10_isRead_51 : decode cX10_isRead 51 = .ok (.ireturn, 1) := by decide +kernel
theorem dX10_isRead_52 : decode cX10_isRead 52 = .ok (.aload_n 0, 1) := by decide +kernel
theorem dX10_isRead_53 : decode cX10_isRead 53 = .ok (.invokevirtual 99, 3) := by decide +kernel
theorem dX10_isRead_56 : decode cX10_isRead 56 = .ok (.goto (-22), 3) := by decide +kernel
theorem dX10_isRead_59 : decode cX10_isRead 59 = .ok (.iconst 1, 1) := by decide +kernel
theorem dX10_isRead_60 : decode cX10_isRead 60 = .ok (.ireturn, 1) := by decide +kernel
theorem dX10_bring_0 : decode cX10_bring 0 = .ok (.iconst 0, 1) := by decide +kernel
theorem dX10_bring_1 : decode cX10_bring 1 = .ok (.istore 5, 2) := by decide +kernel
theorem dX10_bring_3 : decode cX10_bring 3 = .ok (.iload 5, 2) := by decide +kernel
theorem dX10_bring_5 : decode cX10_bring 5 = .ok (.iload 4, 2) := by decide +kernel
theorem dX10_bring_7 : decode cX10_bring 7 = .ok (.if_icmp .ge 21, 3) := by decide +kernel
theorem dX10_bring_10 : decode cX10_bring 10 = .ok (.aload_n 2, 1) := by decide +kernel
theorem dX10_bring_11 : decode cX10_bring 11 = .ok (.iload_n 3, 1) := by decide +kernel
theorem dX10_bring_12 : decode cX10_bring 12 = .ok (.iload 5, 2) := by decide +kernel
theorem dX10_bring_14 : decode cX10_bring 14 = .ok (.iadd, 1) := by decide +kernel
theorem dX10_bring_15 : decode cX10_bring 15 = .ok (.aload_n 0, 1) := by decide +kernel
theorem dX10_bring_16 : decode cX10_bring 16 = .ok (.iload_n 1, 1) := by decide +kernel
theorem dX10_bring_17 : decode cX10_bring 17 = .ok (.iload 5, 2) := by decide +kernel
theorem dX10_bring_19 : decode cX10_bring 19 = .ok (.iadd, 1) := by decide +kernel
theorem dX10_bring_20 : decode cX10_bring 20 = .ok (.iaload, 1) := by decide +kernel
theorem dX10_bring_21 : decode cX10_bring 21 = .ok (.iastore, 1) := by decide +kernel
theorem dX10_bring_22 : decode cX10_bring 22 = .ok (.iinc 5 1, 3) := by decide +kernel
theorem dX10_bring_25 : decode cX10_bring 25 = .ok (.goto (-22), 3) := by decide +kernel
theorem dX10_bring_28 : decode cX10_bring 28 = .ok (.return_, 1) := by decide +kernel
theorem dX10_nursery_0 : decode cX10_nursery 0 = .ok (.aload_n 0, 1) := by decide +kernel
theorem dX10_nursery_1 : decode cX10_nursery 1 = .ok (.invokevirtual 145, 3) := by decide +kernel
theorem dX10_nursery_4 : decode cX10_nursery 4 = .ok (.istore_n 1, 1) := by decide +kernel
theorem dX10_nursery_5 : decode cX10_nursery 5 = .ok (.aload_n 0, 1) := by decide +kernel
theorem dX10_nursery_6 : decode cX10_nursery 6 = .ok (.iconst 0, 1) := by decide +kernel
theorem dX10_nursery_7 : decode cX10_nursery 7 = .ok (.putfield 77, 3) := by decide +kernel
theorem dX10_nursery_10 : decode cX10_nursery 10 = .ok (.iload_n 1, 1) := by decide +kernel
theorem dX10_nursery_11 : decode cX10_nursery 11 = .ok (.ifCond .ne 11, 3) := by decide +kernel
theorem dX10_nursery_14 : decode cX10_nursery 14 = .ok (.bipush (-10), 2) := by decide +kernel
theorem dX10_nursery_16 : decode cX10_nursery 16 = .ok (.aload_n 0, 1) := by decide +kernel
theorem dX10_nursery_17 : decode cX10_nursery 17 = .ok (.getfield 96, 3) := by decide +kernel
theorem dX10_nursery_20 : decode cX10_nursery 20 = .ok (.isub, 1) := by decide +kernel
theorem dX10_nursery_21 : decode cX10_nursery 21 = .ok (.ireturn, 1) := by decide +kernel
theorem dX10_nursery_22 : decode cX10_nursery 22 = .ok (.aload_n 0, 1) := by decide +kernel
theorem dX10_nursery_23 : decode cX10_nursery 23 = .ok (.iconst (-1), 1) := by decide +kernel
theorem dX10_nursery_24 : decode cX10_nursery 24 = .ok (.putfield 13, 3) := by decide +kernel
theorem dX10_nursery_27 : decode cX10_nursery 27 = .ok (.aload_n 0, 1) := by decide +kernel
theorem dX10_nursery_28 : decode cX10_nursery 28 = .ok (.aload_n 0, 1) := by decide +kernel
theorem dX10_nursery_29 : decode cX10_nursery 29 = .ok (.getfield 116, 3) := by decide +kernel
theorem dX10_nursery_32 : decode cX10_nursery 32 = .ok (.putfield 148, 3) := by decide +kernel
theorem dX10_nursery_35 : decode cX10_nursery 35 = .ok (.aload_n 0, 1) := by decide +kernel
theorem dX10_nursery_36 : decode cX10_nursery 36 = .ok (.aload_n 0, 1) := by decide +kernel
theorem dX10_nursery_37 : decode cX10_nursery 37 = .ok (.getfield 110, 3) := by decide +kernel
theorem dX10_nursery_40 : decode cX10_nursery 40 = .ok (.putfield 151, 3) := by decide +kernel
theorem dX10_nursery_43 : decode cX10_nursery 43 = .ok (.aload_n 0, 1) := by decide +kernel
theorem dX10_nursery_44 : decode cX10_nursery 44 = .ok (.aload_n 0, 1) := by decide +kernel
theorem dX10_nursery_45 : decode cX10_nursery 45 = .ok (.getfield 113, 3) := by decide +kernel
theorem dX10_nursery_48 : decode cX10_nursery 48 = .ok (.putfield 154, 3) := by decide +kernel
theorem dX10_nursery_51 : decode cX10_nursery 51 = .ok (.aload_n 0, 1) := by decide +kernel
theorem dX10_nursery_52 : decode cX10_nursery 52 = .ok (.aload_n 0, 1) := by decide +kernel
theorem dX10_nursery_53 : decode cX10_nursery 53 = .ok (.getfield 124, 3) := by decide +kernel
theorem dX10_nursery_56 : decode cX10_nursery 56 = .ok (.putfield 66, 3) := by decide +kernel
theorem dX10_nursery_59 : decode cX10_nursery 59 = .ok (.aload_n 0, 1) := by decide +kernel
theorem dX10_nursery_60 : decode cX10_nursery 60 = .ok (.aload_n 0, 1) := by decide +kernel
theorem dX10_nursery_61 : decode cX10_nursery 61 = .ok (.getfield 127, 3) := by decide +kernel
theorem dX10_nursery_64 : decode cX10_nursery 64 = .ok (.putfield 73, 3) := by decide +kernel
theorem dX10_nursery_67 : decode cX10_nursery 67 = .ok (.aload_n 0, 1) := by decide +kernel
theorem dX10_nursery_68 : decode cX10_nursery 68 = .ok (.getfield 17, 3) := by decide +kernel
theorem dX10_nursery_71 : decode cX10_nursery 71 = .ok (.iconst 0, 1) := by decide +kernel
theorem dX10_nursery_72 : decode cX10_nursery 72 = .ok (.aload_n 0, 1) := by decide +kernel
theorem dX10_nursery_73 : decode cX10_nursery 73 = .ok (.getfield 23, 3) := by decide +kernel
theorem dX10_nursery_76 : decode cX10_nursery 76 = .ok (.iconst 0, 1) := by decide +kernel
theorem dX10_nursery_77 : decode cX10_nursery 77 = .ok (.bipush 12, 2) := by decide +kernel
theorem dX10_nursery_79 : decode cX10_nursery 79 = .ok (.invokestatic 157, 3) := by decide +kernel
theorem dX10_nursery_82 : decode cX10_nursery 82 = .ok (.aload_n 0, 1) := by decide +kernel
theorem dX10_nursery_83 : decode cX10_nursery 83 = .ok (.getfield 20, 3) := by decide +kernel
theorem dX10_nursery_86 : decode cX10_nursery 86 = .ok (.iconst 0, 1) := by decide +kernel
theorem dX10_nursery_87 : decode cX10_nursery 87 = .ok (.aload_n 0, 1) := by decide +kernel
theorem dX10_nursery_88 : decode cX10_nursery 88 = .ok (.getfield 26, 3) := by decide +kernel
theorem dX10_nursery_91 : decode cX10_nursery 91 = .ok (.iconst 0, 1) := by decide +kernel
theorem dX10_nursery_92 : decode cX10_nursery 92 = .ok (.bipush 24, 2) := by decide +kernel
theorem dX10_nursery_94 : decode cX10_nursery 94 = .ok (.invokestatic 157, 3) := by decide +kernel
theorem dX10_nursery_97 : decode cX10_nursery 97 = .ok (.iconst 0, 1) := by decide +kernel
theorem dX10_nursery_98 : decode cX10_nursery 98 = .ok (.istore_n 2, 1) := by decide +kernel
theorem dX10_nursery_99 : decode cX10_nursery 99 = .ok (.iload_n 2, 1) := by decide +kernel
theorem dX10_nursery_100 : decode cX10_nursery 100 = .ok (.bipush 32, 2) := by decide +kernel
theorem dX10_nursery_102 : decode cX10_nursery 102 = .ok (.if_icmp .ge 16, 3) := by decide +kernel
theorem dX10_nursery_105 : decode cX10_nursery 105 = .ok (.aload_n 0, 1) := by decide +kernel
theorem dX10_nursery_106 : decode cX10_nursery 106 = .ok (.getfield 32, 3) := by decide +kernel
theorem dX10_nursery_109 : decode cX10_nursery 109 = .ok (.iload_n 2, 1) := by decide +kernel
theorem dX10_nursery_110 : decode cX10_nursery 110 = .ok (.iconst 0, 1) := by decide +kernel
theorem dX10_nursery_111 : decode cX10_nursery 111 = .ok (.iastore, 1) := by decide +kernel
theorem dX10_nursery_112 : decode cX10_nursery 112 = .ok (.iinc 2 1, 3) := by decide +kernel
theorem dX10_nursery_115 : decode cX10_nursery 115 = .ok (.goto (-16), 3) := by decide +kernel
theorem dX10_nursery_118 : decode cX10_nursery 118 = .ok (.iconst 0, 1) := by decide +kernel
theorem dX10_nursery_119 : decode cX10_nursery 119 = .ok (.istore_n 2, 1) := by decide +kernel
theorem dX10_nursery_120 : decode cX10_nursery 120 = .ok (.iload_n 2, 1) := by decide +kernel
theorem dX10_nursery_121 : decode cX10_nursery 121 = .ok (.bipush 6, 2) := by decide +kernel
theorem dX10_nursery_123 : decode cX10_nursery 123 = .ok (.if_icmp .ge 25, 3) := by decide +kernel
theorem dX10_nursery_126 : decode cX10_nursery 126 = .ok (.aload_n 0, 1) := by decide +kernel
theorem dX10_nursery_127 : decode cX10_nursery 127 = .ok (.getfield 32, 3) := by decide +kernel
theorem dX10_nursery_130 : decode cX10_nursery 130 = .ok (.iconst 1, 1) := by decide +kernel
theorem dX10_nursery_131 : decode cX10_nursery 131 = .ok (.iload_n 2, 1) := by decide +kernel
theorem dX10_nursery_132 : decode cX10_nursery 132 = .ok (.iadd, 1) := by decide +kernel
theorem dX10_nursery_133 : decode cX10_nursery 133 = .ok (.iconst (-1), 1) := by decide +kernel
theorem dX10_nursery_134 : decode cX10_nursery 134 = .ok (.iastore, 1) := by decide +kernel
theorem dX10_nursery_135 : decode cX10_nursery 135 = .ok (.aload_n 0, 1) := by decide +kernel
theorem dX10_nursery_136 : decode cX10_nursery 136 = .ok (.getfield 29, 3) := by decide +kernel
theorem dX10_nursery_139 : decode cX10_nursery 139 = .ok (.iload_n 2, 1) := by decide +kernel
theorem dX10_nursery_140 : decode cX10_nursery 140 = .ok (.iconst (-1), 1) := by decide +kernel
theorem dX10_nursery_141 : decode cX10_nursery 141 = .ok (.iastore, 1) := by decide +kernel
theorem dX10_nursery_142 : decode cX10_nursery 142 = .ok (.iinc 2 1, 3) := by decide +kernel
theorem dX10_nursery_145 : decode cX10_nursery 145 = .ok (.goto (-25), 3) := by decide +kernel
theorem dX10_nursery_148 : decode cX10_nursery 148 = .ok (.iconst 0, 1) := by decide +kernel
theorem dX10_nursery_149 : decode cX10_nursery 149 = .ok (.istore_n 2, 1) := by decide +kernel
theorem dX10_nursery_150 : decode cX10_nursery 150 = .ok (.iload_n 2, 1) := by decide +kernel
theorem dX10_nursery_151 : decode cX10_nursery 151 = .ok (.aload_n 0, 1) := by decide +kernel
theorem dX10_nursery_152 : decode cX10_nursery 152 = .ok (.getfield 73, 3) := by decide +kernel
theorem dX10_nursery_155 : decode cX10_nursery 155 = .ok (.if_icmp .ge 40, 3) := by decide +kernel
theorem dX10_nursery_158 : decode cX10_nursery 158 = .ok (.aload_n 0, 1) := by decide +kernel
theorem dX10_nursery_159 : decode cX10_nursery 159 = .ok (.getfield 26, 3) := by decide +kernel
theorem dX10_nursery_162 : decode cX10_nursery 162 = .ok (.iconst 4, 1) := by decide +kernel
theorem dX10_nursery_163 : decode cX10_nursery 163 = .ok (.iload_n 2, 1) := by decide +kernel
theorem dX10_nursery_164 : decode cX10_nursery 164 = .ok (.imul, 1) := by decide +kernel
theorem dX10_nursery_165 : decode cX10_nursery 165 = .ok (.iconst 3, 1) := by decide +kernel
theorem dX10_nursery_166 : decode cX10_nursery 166 = .ok (.iadd, 1) := by decide +kernel
theorem dX10_nursery_167 : decode cX10_nursery 167 = .ok (.iaload, 1) := by decide +kernel
theorem dX10_nursery_168 : decode cX10_nursery 168 = .ok (.bipush 9, 2) := by decide +kernel
theorem dX10_nursery_170 : decode cX10_nursery 170 = .ok (.if_icmp .eq 19, 3) := by decide +kernel
theorem dX10_nursery_173 : decode cX10_nursery 173 = .ok (.aload_n 0, 1) := by decide +kernel
theorem dX10_nursery_174 : decode cX10_nursery 174 = .ok (.getfield 29, 3) := by decide +kernel
theorem dX10_nursery_177 : decode cX10_nursery 177 = .ok (.aload_n 0, 1) := by decide +kernel
theorem dX10_nursery_178 : decode cX10_nursery 178 = .ok (.getfield 26, 3) := by decide +kernel
theorem dX10_nursery_181 : decode cX10_nursery 181 = .ok (.iconst 4, 1) := by decide +kernel
theorem dX10_nursery_182 : decode cX10_nursery 182 = .ok (.iload_n 2, 1) := by decide +kernel
theorem dX10_nursery_183 : decode cX10_nursery 183 = .ok (.imul, 1) := by decide +kernel
theorem dX10_nursery_184 : decode cX10_nursery 184 = .ok (.iconst 3, 1) := by decide +kernel
theorem dX10_nursery_185 : decode cX10_nursery 185 = .ok (.iadd, 1) := by decide +kernel
theorem dX10_nursery_186 : decode cX10_nursery 186 = .ok (.iaload, 1) := by decide +kernel
theorem dX10_nursery_187 : decode cX10_nursery 187 = .ok (.iload_n 2, 1) := by decide +kernel
theorem dX10_nursery_188 : decode cX10_nursery 188 = .ok (.iastore, 1) := by decide +kernel
theorem dX10_nursery_189 : decode cX10_nursery 189 = .ok (.iinc 2 1, 3) := by decide +kernel
theorem dX10_nursery_192 : decode cX10_nursery 192 = .ok (.goto (-42), 3) := by decide +kernel
theorem dX10_nursery_195 : decode cX10_nursery 195 = .ok (.aload_n 0, 1) := by decide +kernel
theorem dX10_nursery_196 : decode cX10_nursery 196 = .ok (.iconst 0, 1) := by decide +kernel
theorem dX10_nursery_197 : decode cX10_nursery 197 = .ok (.putfield 161, 3) := by decide +kernel
theorem dX10_nursery_200 : decode cX10_nursery 200 = .ok (.aload_n 0, 1) := by decide +kernel
theorem dX10_nursery_201 : decode cX10_nursery 201 = .ok (.iconst 0, 1) := by decide +kernel
theorem dX10_nursery_202 : decode cX10_nursery 202 = .ok (.putfield 164, 3) := by decide +kernel
theorem dX10_nursery_205 : decode cX10_nursery 205 = .ok (.aload_n 0, 1) := by decide +kernel
theorem dX10_nursery_206 : decode cX10_nursery 206 = .ok (.getfield 44, 3) := by decide +kernel
theorem dX10_nursery_209 : decode cX10_nursery 209 = .ok (.iconst 0, 1) := by decide +kernel
theorem dX10_nursery_210 : decode cX10_nursery 210 = .ok (.iconst 0, 1) := by decide +kernel
theorem dX10_nursery_211 : decode cX10_nursery 211 = .ok (.bastore, 1) := by decide +kernel
