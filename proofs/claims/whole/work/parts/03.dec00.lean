theorem dX0_init_0 : decode cX0_init 0 = .ok (.aload_n 0, 1) := by decide +kernel
theorem dX0_init_1 : decode cX0_init 1 = .ok (.invokespecial 3, 3) := by decide +kernel
theorem dX0_init_4 : decode cX0_init 4 = .ok (.aload_n 0, 1) := by decide +kernel
theorem dX0_init_5 : decode cX0_init 5 = .ok (.bipush 15, 2) := by decide +kernel
theorem dX0_init_7 : decode cX0_init 7 = .ok (.newarray .int, 2) := by decide +kernel
theorem dX0_init_9 : decode cX0_init 9 = .ok (.putfield 9, 3) := by decide +kernel
theorem dX0_init_12 : decode cX0_init 12 = .ok (.aload_n 0, 1) := by decide +kernel
theorem dX0_init_13 : decode cX0_init 13 = .ok (.bipush 15, 2) := by decide +kernel
theorem dX0_init_15 : decode cX0_init 15 = .ok (.newarray .int, 2) := by decide +kernel
theorem dX0_init_17 : decode cX0_init 17 = .ok (.putfield 15, 3) := by decide +kernel
theorem dX0_init_20 : decode cX0_init 20 = .ok (.return_, 1) := by decide +kernel
theorem dX0_append_0 : decode cX0_append 0 = .ok (.aload_n 0, 1) := by decide +kernel
theorem dX0_append_1 : decode cX0_append 1 = .ok (.getfield 18, 3) := by decide +kernel
theorem dX0_append_4 : decode cX0_append 4 = .ok (.bipush 15, 2) := by decide +kernel
theorem dX0_append_6 : decode cX0_append 6 = .ok (.if_icmp .lt 5, 3) := by decide +kernel
theorem dX0_append_9 : decode cX0_append 9 = .ok (.iconst 0, 1) := by decide +kernel
theorem dX0_append_10 : decode cX0_append 10 = .ok (.ireturn, 1) := by decide +kernel
theorem dX0_append_11 : decode cX0_append 11 = .ok (.aload_n 0, 1) := by decide +kernel
theorem dX0_append_12 : decode cX0_append 12 = .ok (.getfield 9, 3) := by decide +kernel
theorem dX0_append_15 : decode cX0_append 15 = .ok (.aload_n 0, 1) := by decide +kernel
theorem dX0_append_16 : decode cX0_append 16 = .ok (.getfield 18, 3) := by decide +kernel
theorem dX0_append_19 : decode cX0_append 19 = .ok (.iload_n 1, 1) := by decide +kernel
theorem dX0_append_20 : decode cX0_append 20 = .ok (.iastore, 1) := by decide +kernel
theorem dX0_append_21 : decode cX0_append 21 = .ok (.aload_n 0, 1) := by decide +kernel
theorem dX0_append_22 : decode cX0_append 22 = .ok (.getfield 15, 3) := by decide +kernel
theorem dX0_append_25 : decode cX0_append 25 = .ok (.aload_n 0, 1) := by decide +kernel
theorem dX0_append_26 : decode cX0_append 26 = .ok (.getfield 18, 3) := by decide +kernel
theorem dX0_append_29 : decode cX0_append 29 = .ok (.iload_n 2, 1) := by decide +kernel
theorem dX0_append_30 : decode cX0_append 30 = .ok (.iastore, 1) := by decide +kernel
theorem dX0_append_31 : decode cX0_append 31 = .ok (.aload_n 0, 1) := by decide +kernel
theorem dX0_append_32 : decode cX0_append 32 = .ok (.dup, 1) := by decide +kernel
theorem dX0_append_33 : decode cX0_append 33 = .ok (.getfield 18, 3) := by decide +kernel
theorem dX0_append_36 : decode cX0_append 36 = .ok (.iconst 1, 1) := by decide +kernel
theorem dX0_append_37 : decode cX0_append 37 = .ok (.iadd, 1) := by decide +kernel
theorem dX0_append_38 : decode cX0_append 38 = .ok (.putfield 18, 3) := by decide +kernel
theorem dX0_append_41 : decode cX0_append 41 = .ok (.iconst 1, 1) := by decide +kernel
theorem dX0_append_42 : decode cX0_append 42 = .ok (.ireturn, 1) := by decide +kernel
theorem dX0_firstWrong_0 : decode cX0_firstWrong 0 = .ok (.iconst 0, 1) := by decide +kernel
theorem dX0_firstWrong_1 : decode cX0_firstWrong 1 = .ok (.istore_n 2, 1) := by decide +kernel
theorem dX0_firstWrong_2 : decode cX0_firstWrong 2 = .ok (.iload_n 2, 1) := by decide +kernel
theorem dX0_firstWrong_3 : decode cX0_firstWrong 3 = .ok (.aload_n 0, 1) := by decide +kernel
theorem dX0_firstWrong_4 : decode cX0_firstWrong 4 = .ok (.getfield 18, 3) := by decide +kernel
theorem dX0_firstWrong_7 : decode cX0_firstWrong 7 = .ok (.if_icmp .ge 30, 3) := by decide +kernel
theorem dX0_firstWrong_10 : decode cX0_firstWrong 10 = .ok (.aload_n 1, 1) := by decide +kernel
theorem dX0_firstWrong_11 : decode cX0_firstWrong 11 = .ok (.aload_n 0, 1) := by decide +kernel
theorem dX0_firstWrong_12 : decode cX0_firstWrong 12 = .ok (.getfield 9, 3) := by decide +kernel
theorem dX0_firstWrong_15 : decode cX0_firstWrong 15 = .ok (.iload_n 2, 1) := by decide +kernel
theorem dX0_firstWrong_16 : decode cX0_firstWrong 16 = .ok (.iaload, 1) := by decide +kernel
theorem dX0_firstWrong_17 : decode cX0_firstWrong 17 = .ok (.invokevirtual 22, 3) := by decide +kernel
theorem dX0_firstWrong_20 : decode cX0_firstWrong 20 = .ok (.aload_n 0, 1) := by decide +kernel
theorem dX0_firstWrong_21 : decode cX0_firstWrong 21 = .ok (.getfield 15, 3) := by decide +kernel
theorem dX0_firstWrong_24 : decode cX0_firstWrong 24 = .ok (.iload_n 2, 1) := by decide +kernel
theorem dX0_firstWrong_25 : decode cX0_firstWrong 25 = .ok (.iaload, 1) := by decide +kernel
theorem dX0_firstWrong_26 : decode cX0_firstWrong 26 = .ok (.if_icmp .eq 5, 3) := by decide +kernel
theorem dX0_firstWrong_29 : decode cX0_firstWrong 29 = .ok (.iload_n 2, 1) := by decide +kernel
theorem dX0_firstWrong_30 : decode cX0_firstWrong 30 = .ok (.ireturn, 1) := by decide +kernel
theorem dX0_firstWrong_31 : decode cX0_firstWrong 31 = .ok (.iinc 2 1, 3) := by decide +kernel
theorem dX0_firstWrong_34 : decode cX0_firstWrong 34 = .ok (.goto (-32), 3) := by decide +kernel
theorem dX0_firstWrong_37 : decode cX0_firstWrong 37 = .ok (.iconst (-1), 1) := by decide +kernel
theorem dX0_firstWrong_38 : decode cX0_firstWrong 38 = .ok (.ireturn, 1) := by decide +kernel
theorem dX1_init_0 : decode cX1_init 0 = .ok (.aload_n 0, 1) := by decide +kernel
theorem dX1_init_1 : decode cX1_init 1 = .ok (.invokespecial 1, 3) := by decide +kernel
theorem dX1_init_4 : decode cX1_init 4 = .ok (.return_, 1) := by decide +kernel
theorem dX1_draw_0 : decode cX1_draw 0 = .ok (.aload_n 0, 1) := by decide +kernel
theorem dX1_draw_1 : decode cX1_draw 1 = .ok (.aload_n 0, 1) := by decide +kernel
theorem dX1_draw_2 : decode cX1_draw 2 = .ok (.getfield 7, 3) := by decide +kernel
theorem dX1_draw_5 : decode cX1_draw 5 = .ok (.i2l, 1) := by decide +kernel
theorem dX1_draw_6 : decode cX1_draw 6 = .ok (.ldc2_w 13, 3) := by decide +kernel
theorem dX1_draw_9 : decode cX1_draw 9 = .ok (.lmul, 1) := by decide +kernel
theorem dX1_draw_10 : decode cX1_draw 10 = .ok (.ldc2_w 15, 3) := by decide +kernel
theorem dX1_draw_13 : decode cX1_draw 13 = .ok (.ladd, 1) := by decide +kernel
theorem dX1_draw_14 : decode cX1_draw 14 = .ok (.ldc2_w 17, 3) := by decide +kernel
theorem dX1_draw_17 : decode cX1_draw 17 = .ok (.land, 1) := by decide +kernel
theorem dX1_draw_18 : decode cX1_draw 18 = .ok (.l2i, 1) := by decide +kernel
theorem dX1_draw_19 : decode cX1_draw 19 = .ok (.putfield 7, 3) := by decide +kernel
theorem dX1_draw_22 : decode cX1_draw 22 = .ok (.iload_n 1, 1) := by decide +kernel
theorem dX1_draw_23 : decode cX1_draw 23 = .ok (.ifCond .le 15, 3) := by decide +kernel
theorem dX1_draw_26 : decode cX1_draw 26 = .ok (.aload_n 0, 1) := by decide +kernel
theorem dX1_draw_27 : decode cX1_draw 27 = .ok (.getfield 7, 3) := by decide +kernel
theorem dX1_draw_30 : decode cX1_draw 30 = .ok (.ldc 19, 2) := by decide +kernel
theorem dX1_draw_32 : decode cX1_draw 32 = .ok (.idiv, 1) := by decide +kernel
theorem dX1_draw_33 : decode cX1_draw 33 = .ok (.iload_n 1, 1) := by decide +kernel
theorem dX1_draw_34 : decode cX1_draw 34 = .ok (.irem, 1) := by decide +kernel
theorem dX1_draw_35 : decode cX1_draw 35 = .ok (.goto 4, 3) := by decide +kernel
theorem dX1_draw_38 : decode cX1_draw 38 = .ok (.iconst 0, 1) := by decide +kernel
theorem dX1_draw_39 : decode cX1_draw 39 = .ok (.ireturn, 1) := by decide +kernel
theorem dX2_init_0 : decode cX2_init 0 = .ok (.aload_n 0, 1) := by decide +kernel
theorem dX2_init_1 : decode cX2_init 1 = .ok (.invokespecial 1, 3) := by decide +kernel
theorem dX2_init_4 : decode cX2_init 4 = .ok (.aload_n 0, 1) := by decide +kernel
theorem dX2_init_5 : decode cX2_init 5 = .ok (.bipush 31, 2) := by decide +kernel
theorem dX2_init_7 : decode cX2_init 7 = .ok (.newarray .int, 2) := by decide +kernel
theorem dX2_init_9 : decode cX2_init 9 = .ok (.putfield 9, 3) := by decide +kernel
theorem dX2_init_12 : decode cX2_init 12 = .ok (.return_, 1) := by decide +kernel
theorem dX2_takeFrom_0 : decode cX2_takeFrom 0 = .ok (.aload_n 0, 1) := by decide +kernel
theorem dX2_takeFrom_1 : decode cX2_takeFrom 1 = .ok (.iconst 1, 1) := by decide +kernel
theorem dX2_takeFrom_2 : decode cX2_takeFrom 2 = .ok (.putfield 15, 3) := by decide +kernel
theorem dX2_takeFrom_5 : decode cX2_takeFrom 5 = .ok (.aload_n 0, 1) := by decide +kernel
theorem dX2_takeFrom_6 : decode cX2_takeFrom 6 = .ok (.aload_n 2, 1) := by decide +kernel
theorem dX2_takeFrom_7 : decode cX2_takeFrom 7 = .ok (.getfield 19, 3) := by decide +kernel
theorem dX2_takeFrom_10 : decode cX2_takeFrom 10 = .ok (.putfield 25, 3) := by decide +kernel
theorem dX2_takeFrom_13 : decode cX2_takeFrom 13 = .ok (.aload_n 1, 1) := by decide +kernel
theorem dX2_takeFrom_14 : decode cX2_takeFrom 14 = .ok (.aload_n 0, 1) := by decide +kernel
theorem dX2_takeFrom_15 : decode cX2_takeFrom 15 = .ok (.getfield 9, 3) := by decide +kernel
theorem dX2_takeFrom_18 : decode cX2_takeFrom 18 = .ok (.iconst 0, 1) := by decide +kernel
theorem dX2_takeFrom_19 : decode cX2_takeFrom 19 = .ok (.invokevirtual 28, 3) := by decide +kernel
theorem dX2_takeFrom_22 : decode cX2_takeFrom 22 = .ok (.return_, 1) := by decide +kernel
theorem dX2_putInto_0 : decode cX2_putInto 0 = .ok (.aload_n 1, 1) := by decide +kernel
theorem dX2_putInto_1 : decode cX2_putInto 1 = .ok (.aload_n 0, 1) := by decide +kernel
theorem dX2_putInto_2 : decode cX2_putInto 2 = .ok (.getfield 9, 3) := by decide +kernel
theorem dX2_putInto_5 : decode cX2_putInto 5 = .ok (.iconst 0, 1) := by decide +kernel
theorem dX2_putInto_6 : decode cX2_putInto 6 = .ok (.invokevirtual 32, 3) := by decide +kernel
theorem dX2_putInto_9 : decode cX2_putInto 9 = .ok (.aload_n 2, 1) := by decide +kernel
theorem dX2_putInto_10 : decode cX2_putInto 10 = .ok (.aload_n 0, 1) := by decide +kernel
theorem dX2_putInto_11 : decode cX2_putInto 11 = .ok (.getfield 25, 3) := by decide +kernel
theorem dX2_putInto_14 : decode cX2_putInto 14 = .ok (.putfield 19, 3) := by decide +kernel
theorem dX2_putInto_17 : decode cX2_putInto 17 = .ok (.return_, 1) := by decide +kernel
theorem dX3_init_0 : decode cX3_init 0 = .ok (.aload_n 0, 1) := by decide +kernel
theorem dX3_init_1 : decode cX3_init 1 = .ok (.invokespecial 3, 3) := by decide +kernel
theorem dX3_init_4 : decode cX3_init 4 = .ok (.aload_n 0, 1) := by decide +kernel
theorem dX3_init_5 : decode cX3_init 5 = .ok (.bipush 6, 2) := by decide +kernel
theorem dX3_init_7 : decode cX3_init 7 = .ok (.newarray .int, 2) := by decide +kernel
theorem dX3_init_9 : decode cX3_init 9 = .ok (.putfield 9, 3) := by decide +kernel
theorem dX3_init_12 : decode cX3_init 12 = .ok (.aload_n 0, 1) := by decide +kernel
theorem dX3_init_13 : decode cX3_init 13 = .ok (.bipush 7, 2) := by decide +kernel
theorem dX3_init_15 : decode cX3_init 15 = .ok (.bipush 64, 2) := by decide +kernel
theorem dX3_init_17 : decode cX3_init 17 = .ok (.multianewarray 15 2, 4) := by decide +kernel
theorem dX3_init_21 : decode cX3_init 21 = .ok (.putfield 17, 3) := by decide +kernel
theorem dX3_init_24 : decode cX3_init 24 = .ok (.return_, 1) := by decide +kernel
theorem dX3_prepare_0 : decode cX3_prepare 0 = .ok (.aload_n 0, 1) := by decide +kernel
theorem dX3_prepare_1 : decode cX3_prepare 1 = .ok (.aload_n 1, 1) := by decide +kernel
theorem dX3_prepare_2 : decode cX3_prepare 2 = .ok (.getfield 20, 3) := by decide +kernel
theorem dX3_prepare_5 : decode cX3_prepare 5 = .ok (.putfield 26, 3) := by decide +kernel
theorem dX3_prepare_8 : decode cX3_prepare 8 = .ok (.aload_n 0, 1) := by decide +kernel
theorem dX3_prepare_9 : decode cX3_prepare 9 = .ok (.aload_n 1, 1) := by decide +kernel
theorem dX3_prepare_10 : decode cX3_prepare 10 = .ok (.getfield 27, 3) := by decide +kernel
theorem dX3_prepare_13 : decode cX3_prepare 13 = .ok (.putfield 30, 3) := by decide +kernel
theorem dX3_prepare_16 : decode cX3_prepare 16 = .ok (.iconst 0, 1) := by decide +kernel
theorem dX3_prepare_17 : decode cX3_prepare 17 = .ok (.istore 4, 2) := by decide +kernel
theorem dX3_prepare_19 : decode cX3_prepare 19 = .ok (.iload 4, 2) := by decide +kernel
theorem dX3_prepare_21 : decode cX3_prepare 21 = .ok (.aload_n 0, 1) := by decide +kernel
theorem dX3_prepare_22 : decode cX3_prepare 22 = .ok (.getfield 26, 3) := by decide +kernel
theorem dX3_prepare_25 : decode cX3_prepare 25 = .ok (.if_icmp .ge 75, 3) := by decide +kernel
theorem dX3_prepare_28 : decode cX3_prepare 28 = .ok (.aload_n 0, 1) := by decide +kernel
theorem dX3_prepare_29 : decode cX3_prepare 29 = .ok (.getfield 9, 3) := by decide +kernel
theorem dX3_prepare_32 : decode cX3_prepare 32 = .ok (.iload 4, 2) := by decide +kernel
theorem dX3_prepare_34 : decode cX3_prepare 34 = .ok (.iconst 0, 1) := by decide +kernel
theorem dX3_prepare_35 : decode cX3_prepare 35 = .ok (.iastore, 1) := by decide +kernel
theorem dX3_prepare_36 : decode cX3_prepare 36 = .ok (.iconst 0, 1) := by decide +kernel
theorem dX3_prepare_37 : decode cX3_prepare 37 = .ok (.istore 5, 2) := by decide +kernel
theorem dX3_prepare_39 : decode cX3_prepare 39 = .ok (.iload 5, 2) := by decide +kernel
theorem dX3_prepare_41 : decode cX3_prepare 41 = .ok (.aload_n 0, 1) := by decide +kernel
theorem dX3_prepare_42 : decode cX3_prepare 42 = .ok (.getfield 30, 3) := by decide +kernel
theorem dX3_prepare_45 : decode cX3_prepare 45 = .ok (.if_icmp .ge 49, 3) := by decide +kernel
theorem dX3_prepare_48 : decode cX3_prepare 48 = .ok (.aload_n 1, 1) := by decide +kernel
theorem dX3_prepare_49 : decode cX3_prepare 49 = .ok (.iload 4, 2) := by decide +kernel
theorem dX3_prepare_51 : decode cX3_prepare 51 = .ok (.iload 5, 2) := by decide +kernel
theorem dX3_prepare_53 : decode cX3_prepare 53 = .ok (.invokevirtual 31, 3) := by decide +kernel
theorem dX3_prepare_56 : decode cX3_prepare 56 = .ok (.ifCond .eq 32, 3) := by decide +kernel
theorem dX3_prepare_59 : decode cX3_prepare 59 = .ok (.iload_n 3, 1) := by decide +kernel
theorem dX3_prepare_60 : decode cX3_prepare 60 = .ok (.ifCond .eq 14, 3) := by decide +kernel
theorem dX3_prepare_63 : decode cX3_prepare 63 = .ok (.aload_n 2, 1) := by decide +kernel
theorem dX3_prepare_64 : decode cX3_prepare 64 = .ok (.iload 5, 2) := by decide +kernel
theorem dX3_prepare_66 : decode cX3_prepare 66 = .ok (.iload 4, 2) := by decide +kernel
theorem dX3_prepare_68 : decode cX3_prepare 68 = .ok (.invokevirtual 35, 3) := by decide +kernel
theorem dX3_prepare_71 : decode cX3_prepare 71 = .ok (.ifCond .ne 17, 3) := by decide +kernel
theorem dX3_prepare_74 : decode cX3_prepare 74 = .ok (.aload_n 0, 1) := by decide +kernel
theorem dX3_prepare_75 : decode cX3_prepare 75 = .ok (.getfield 9, 3) := by decide +kernel
theorem dX3_prepare_78 : decode cX3_prepare 78 = .ok (.iload 4, 2) := by decide +kernel
theorem dX3_prepare_80 : decode cX3_prepare 80 = .ok (.dup2, 1) := by decide +kernel
theorem dX3_prepare_81 : decode cX3_prepare 81 = .ok (.iaload, 1) := by decide +kernel
theorem dX3_prepare_82 : decode cX3_prepare 82 = .ok (.iconst 1, 1) := by decide +kernel
theorem dX3_prepare_83 : decode cX3_prepare 83 = .ok (.iload 5, 2) := by decide +kernel
theorem dX3_prepare_85 : decode cX3_prepare 85 = .ok (.ishl, 1) := by decide +kernel
theorem dX3_prepare_86 : decode cX3_prepare 86 = .ok (.ior, 1) := by decide +kernel
theorem dX3_prepare_87 : decode cX3_prepare 87 = .ok (.iastore, 1) := by decide +kernel
theorem dX3_prepare_88 : decode cX3_prepare 88 = .ok (.iinc 5 1, 3) := by decide +kernel
theorem dX3_prepare_91 : decode cX3_prepare 91 = .ok (.goto (-52), 3) := by decide +kernel
theorem dX3_prepare_94 : decode cX3_prepare 94 = .ok (.iinc 4 1, 3) := by decide +kernel
theorem dX3_prepare_97 : decode cX3_prepare 97 = .ok (.goto (-78), 3) := by decide +kernel
theorem dX3_prepare_100 : decode cX3_prepare 100 = .ok (.aload_n 0, 1) := by decide +kernel
theorem dX3_prepare_101 : decode cX3_prepare 101 = .ok (.invokevirtual 40, 3) := by decide +kernel
theorem dX3_prepare_104 : decode cX3_prepare 104 = .ok (.return_, 1) := by decide +kernel
theorem dX3_fill_0 : decode cX3_fill 0 = .ok (.iconst 0, 1) := by decide +kernel
theorem dX3_fill_1 : decode cX3_fill 1 = .ok (.istore_n 1, 1) := by decide +kernel
theorem dX3_fill_2 : decode cX3_fill 2 = .ok (.iload_n 1, 1) := by decide +kernel
theorem dX3_fill_3 : decode cX3_fill 3 = .ok (.bipush 64, 2) := by decide +kernel
theorem dX3_fill_5 : decode cX3_fill 5 = .ok (.if_icmp .ge 21, 3) := by decide +kernel
theorem dX3_fill_8 : decode cX3_fill 8 = .ok (.aload_n 0, 1) := by decide +kernel
theorem dX3_fill_9 : decode cX3_fill 9 = .ok (.getfield 17, 3) := by decide +kernel
theorem dX3_fill_12 : decode cX3_fill 12 = .ok (.aload_n 0, 1) := by decide +kernel
theorem dX3_fill_13 : decode cX3_fill 13 = .ok (.getfield 26, 3) := by decide +kernel
theorem dX3_fill_16 : decode cX3_fill 16 = .ok (.aaload, 1) := by decide +kernel
theorem dX3_fill_17 : decode cX3_fill 17 = .ok (.iload_n 1, 1) := by decide +kernel
theorem dX3_fill_18 : decode cX3_fill 18 = .ok (.iconst 0, 1) := by decide +kernel
theorem dX3_fill_19 : decode cX3_fill 19 = .ok (.iastore, 1) := by decide +kernel
theorem dX3_fill_20 : decode cX3_fill 20 = .ok (.iinc 1 1, 3) := by decide +kernel
theorem dX3_fill_23 : decode cX3_fill 23 = .ok (.goto (-21), 3) := by decide +kernel
theorem dX3_fill_26 : decode cX3_fill 26 = .ok (.aload_n 0, 1) := by decide +kernel
theorem dX3_fill_27 : decode cX3_fill 27 = .ok (.getfield 26, 3) := by decide +kernel
theorem dX3_fill_30 : decode cX3_fill 30 = .ok (.iconst 1, 1) := by decide +kernel
theorem dX3_fill_31 : decode cX3_fill 31 = .ok (.isub, 1) := by decide +kernel
theorem dX3_fill_32 : decode cX3_fill 32 = .ok (.istore_n 1, 1) := by decide +kernel
theorem dX3_fill_33 : decode cX3_fill 33 = .ok (.iload_n 1, 1) := by decide +kernel
theorem dX3_fill_34 : decode cX3_fill 34 = .ok (.ifCond .lt 37, 3) := by decide +kernel
theorem dX3_fill_37 : decode cX3_fill 37 = .ok (.iconst 0, 1) := by decide +kernel
theorem dX3_fill_38 : decode cX3_fill 38 = .ok (.istore_n 2, 1) := by decide +kernel
theorem dX3_fill_39 : decode cX3_fill 39 = .ok (.iload_n 2, 1) := by decide +kernel
theorem dX3_fill_40 : decode cX3_fill 40 = .ok (.bipush 64, 2) := by decide +kernel
theorem dX3_fill_42 : decode cX3_fill 42 = .ok (.if_icmp .ge 23, 3) := by decide +kernel
theorem dX3_fill_45 : decode cX3_fill 45 = .ok (.aload_n 0, 1) := by decide +kernel
theorem dX3_fill_46 : decode cX3_fill 46 = .ok (.getfield 17, 3) := by decide +kernel
theorem dX3_fill_49 : decode cX3_fill 49 = .ok (.iload_n 1, 1) := by decide +kernel
theorem dX3_fill_50 : decode cX3_fill 50 = .ok (.aaload, 1) := by decide +kernel
theorem dX3_fill_51 : decode cX3_fill 51 = .ok (.iload_n 2, 1) := by decide +kernel
theorem dX3_fill_52 : decode cX3_fill 52 = .ok (.aload_n 0, 1) := by decide +kernel
theorem dX3_fill_53 : decode cX3_fill 53 = .ok (.iload_n 1, 1) := by decide +kernel
theorem dX3_fill_54 : decode cX3_fill 54 = .ok (.iload_n 2, 1) := by decide +kernel
theorem dX3_fill_55 : decode cX3_fill 55 = .ok (.invokevirtual 43, 3) := by decide +kernel
theorem dX3_fill_58 : decode cX3_fill 58 = .ok (.iastore, 1) := by decide +kernel
theorem dX3_fill_59 : decode cX3_fill 59 = .ok (.iinc 2 1, 3) := by decide +kernel
theorem dX3_fill_62 : decode cX3_fill 62 = .ok (.goto (-23), 3) := by decide +kernel
theorem dX3_fill_65 : decode cX3_fill 65 = .ok (.iinc 1 (-1), 3) := by decide +kernel
theorem dX3_fill_68 : decode cX3_fill 68 = .ok (.goto (-35), 3) := by decide +kernel
theorem dX3_fill_71 : decode cX3_fill 71 = .ok (.return_, 1) := by decide +kernel
theorem dX3_bestFrom_0 : decode cX3_bestFrom 0 = .ok (.aload_n 0, 1) := by decide +kernel
theorem dX3_bestFrom_1 : decode cX3_bestFrom 1 = .ok (.getfield 17, 3) := by decide +kernel
theorem dX3_bestFrom_4 : decode cX3_bestFrom 4 = .ok (.iload_n 1, 1) := by decide +kernel
theorem dX3_bestFrom_5 : decode cX3_bestFrom 5 = .ok (.iconst 1, 1) := by decide +kernel
theorem dX3_bestFrom_6 : decode cX3_bestFrom 6 = .ok (.iadd, 1) := by decide +kernel
theorem dX3_bestFrom_7 : decode cX3_bestFrom 7 = .ok (.aaload, 1) := by decide +kernel
theorem dX3_bestFrom_8 : decode cX3_bestFrom 8 = .ok (.iload_n 2, 1) := by decide +kernel
theorem dX3_bestFrom_9 : decode cX3_bestFrom 9 = .ok (.iaload, 1) := by decide +kernel
theorem dX3_bestFrom_10 : decode cX3_bestFrom 10 = .ok (.istore_n 3, 1) := by decide +kernel
theorem dX3_bestFrom_11 : decode cX3_bestFrom 11 = .ok (.iconst 0, 1) := by decide +kernel
theorem dX3_bestFrom_12 : decode cX3_bestFrom 12 = .ok (.istore 4, 2) := by decide +kernel
theorem dX3_bestFrom_14 : decode cX3_bestFrom 14 = .ok (.iload 4, 2) := by decide +kernel
theorem dX3_bestFrom_16 : decode cX3_bestFrom 16 = .ok (.aload_n 0, 1) := by decide +kernel
theorem dX3_bestFrom_17 : decode cX3_bestFrom 17 = .ok (.getfield 30, 3) := by decide +kernel
theorem dX3_bestFrom_20 : decode cX3_bestFrom 20 = .ok (.if_icmp .ge 49, 3) := by decide +kernel
theorem dX3_bestFrom_23 : decode cX3_bestFrom 23 = .ok (.aload_n 0, 1) := by decide +kernel
theorem dX3_bestFrom_24 : decode cX3_bestFrom 24 = .ok (.getfield 9, 3) := by decide +kernel
theorem dX3_bestFrom_27 : decode cX3_bestFrom 27 = .ok (.iload_n 1, 1) := by decide +kernel
theorem dX3_bestFrom_28 : decode cX3_bestFrom 28 = .ok (.iaload, 1) := by decide +kernel
theorem dX3_bestFrom_29 : decode cX3_bestFrom 29 = .ok (.iload_n 2, 1) := by decide +kernel
theorem dX3_bestFrom_30 : decode cX3_bestFrom 30 = .ok (.iconst (-1), 1) := by decide +kernel
theorem dX3_bestFrom_31 : decode cX3_bestFrom 31 = .ok (.ixor, 1) := by decide +kernel
theorem dX3_bestFrom_32 : decode cX3_bestFrom 32 = .ok (.iand, 1) := by decide +kernel
theorem dX3_bestFrom_33 : decode cX3_bestFrom 33 = .ok (.iload 4, 2) := by decide +kernel
theorem dX3_bestFrom_35 : decode cX3_bestFrom 35 = .ok (.invokestatic 47, 3) := by decide +kernel
theorem dX3_bestFrom_38 : decode cX3_bestFrom 38 = .ok (.ifCond .eq 25, 3) := by decide +kernel
theorem dX3_bestFrom_41 : decode cX3_bestFrom 41 = .ok (.iload_n 3, 1) := by decide +kernel
theorem dX3_bestFrom_42 : decode cX3_bestFrom 42 = .ok (.iconst 1, 1) := by decide +kernel
theorem dX3_bestFrom_43 : decode cX3_bestFrom 43 = .ok (.aload_n 0, 1) := by decide +kernel
theorem dX3_bestFrom_44 : decode cX3_bestFrom 44 = .ok (.getfield 17, 3) := by decide +kernel
theorem dX3_bestFrom_47 : decode cX3_bestFrom 47 = .ok (.iload_n 1, 1) := by decide +kernel
theorem dX3_bestFrom_48 : decode cX3_bestFrom 48 = .ok (.iconst 1, 1) := by decide +kernel
theorem dX3_bestFrom_49 : decode cX3_bestFrom 49 = .ok (.iadd, 1) := by decide +kernel
theorem dX3_bestFrom_50 : decode cX3_bestFrom 50 = .ok (.aaload, 1) := by decide +kernel
theorem dX3_bestFrom_51 : decode cX3_bestFrom 51 = .ok (.iload_n 2, 1) := by decide +kernel
theorem dX3_bestFrom_52 : decode cX3_bestFrom 52 = .ok (.iconst 1, 1) := by decide +kernel
theorem dX3_bestFrom_53 : decode cX3_bestFrom 53 = .ok (.iload 4, 2) := by decide +kernel
theorem dX3_bestFrom_55 : decode cX3_bestFrom 55 = .ok (.ishl, 1) := by decide +kernel
theorem dX3_bestFrom_56 : decode cX3_bestFrom 56 = .ok (.ior, 1) := by decide +kernel
theorem dX3_bestFrom_57 : decode cX3_bestFrom 57 = .ok (.iaload, 1) := by decide +kernel
theorem dX3_bestFrom_58 : decode cX3_bestFrom 58 = .ok (.iadd, 1) := by decide +kernel
theorem dX3_bestFrom_59 : decode cX3_bestFrom 59 = .ok (.invokestatic 50, 3) := by decide +kernel
theorem dX3_bestFrom_62 : decode cX3_bestFrom 62 = .ok (.istore_n 3, 1) := by decide +kernel
theorem dX3_bestFrom_63 : decode cX3_bestFrom 63 = .ok (.iinc 4 1, 3) := by decide +kernel
theorem dX3_bestFrom_66 : decode cX3_bestFrom 66 = .ok (.goto (-52), 3) := by decide +kernel
theorem dX3_bestFrom_69 : decode cX3_bestFrom 69 = .ok (.iload_n 3, 1) := by decide +kernel
theorem dX3_bestFrom_70 : decode cX3_bestFrom 70 = .ok (.ireturn, 1) := by decide +kernel
theorem dX3_most_0 : decode cX3_most 0 = .ok (.iload_n 1, 1) := by decide +kernel
theorem dX3_most_1 : decode cX3_most 1 = .ok (.ifCond .lt 20, 3) := by decide +kernel
theorem dX3_most_4 : decode cX3_most 4 = .ok (.iload_n 1, 1) := by decide +kernel
theorem dX3_most_5 : decode cX3_most 5 = .ok (.bipush 64, 2) := by decide +kernel
theorem dX3_most_7 : decode cX3_most 7 = .ok (.if_icmp .ge 14, 3) := by decide +kernel
theorem dX3_most_10 : decode cX3_most 10 = .ok (.aload_n 0, 1) := by decide +kernel
theorem dX3_most_11 : decode cX3_most 11 = .ok (.getfield 17, 3) := by decide +kernel
theorem dX3_most_14 : decode cX3_most 14 = .ok (.iconst 0, 1) := by decide +kernel
theorem dX3_most_15 : decode cX3_most 15 = .ok (.aaload, 1) := by decide +kernel
theorem dX3_most_16 : decode cX3_most 16 = .ok (.iload_n 1, 1) := by decide +kernel
theorem dX3_most_17 : decode cX3_most 17 = .ok (.iaload, 1) := by decide +kernel
theorem dX3_most_18 : decode cX3_most 18 = .ok (.goto 4, 3) := by decide +kernel
theorem dX3_most_21 : decode cX3_most 21 = .ok (.iconst 0, 1) := by decide +kernel
theorem dX3_most_22 : decode cX3_most 22 = .ok (.ireturn, 1) := by decide +kernel
theorem dX3_dummyFor_0 : decode cX3_dummyFor 0 = .ok (.iconst 0, 1) := by decide +kernel
theorem dX3_dummyFor_1 : decode cX3_dummyFor 1 = .ok (.istore_n 2, 1) := by decide +kernel
theorem dX3_dummyFor_2 : decode cX3_dummyFor 2 = .ok (.iconst 0, 1) := by decide +kernel
theorem dX3_dummyFor_3 : decode cX3_dummyFor 3 = .ok (.istore_n 3, 1) := by decide +kernel
theorem dX3_dummyFor_4 : decode cX3_dummyFor 4 = .ok (.iload_n 3, 1) := by decide +kernel
theorem dX3_dummyFor_5 : decode cX3_dummyFor 5 = .ok (.aload_n 0, 1) := by decide +kernel
theorem dX3_dummyFor_6 : decode cX3_dummyFor 6 = .ok (.getfield 26, 3) := by decide +kernel
theorem dX3_dummyFor_9 : decode cX3_dummyFor 9 = .ok (.if_icmp .ge 38, 3) := by decide +kernel
theorem dX3_dummyFor_12 : decode cX3_dummyFor 12 = .ok (.aload_n 0, 1) := by decide +kernel
theorem dX3_dummyFor_13 : decode cX3_dummyFor 13 = .ok (.iload_n 3, 1) := by decide +kernel
theorem dX3_dummyFor_14 : decode cX3_dummyFor 14 = .ok (.iload_n 2, 1) := by decide +kernel
theorem dX3_dummyFor_15 : decode cX3_dummyFor 15 = .ok (.invokevirtual 55, 3) := by decide +kernel
theorem dX3_dummyFor_18 : decode cX3_dummyFor 18 = .ok (.istore 4, 2) := by decide +kernel
theorem dX3_dummyFor_20 : decode cX3_dummyFor 20 = .ok (.iload_n 3, 1) := by decide +kernel
theorem dX3_dummyFor_21 : decode cX3_dummyFor 21 = .ok (.iload_n 1, 1) := by decide +kernel
theorem dX3_dummyFor_22 : decode cX3_dummyFor 22 = .ok (.if_icmp .ne 6, 3) := by decide +kernel
theorem dX3_dummyFor_25 : decode cX3_dummyFor 25 = .ok (.iload 4, 2) := by decide +kernel
theorem dX3_dummyFor_27 : decode cX3_dummyFor 27 = .ok (.ireturn, 1) := by decide +kernel
theorem dX3_dummyFor_28 : decode cX3_dummyFor 28 = .ok (.iload 4, 2) := by decide +kernel
theorem dX3_dummyFor_30 : decode cX3_dummyFor 30 = .ok (.iconst (-1), 1) := by decide +kernel
theorem dX3_dummyFor_31 : decode cX3_dummyFor 31 = .ok (.if_icmp .eq 10, 3) := by decide +kernel
theorem dX3_dummyFor_34 : decode cX3_dummyFor 34 = .ok (.iload_n 2, 1) := by decide +kernel
theorem dX3_dummyFor_35 : decode cX3_dummyFor 35 = .ok (.iconst 1, 1) := by decide +kernel
theorem dX3_dummyFor_36 : decode cX3_dummyFor 36 = .ok (.iload 4, 2) := by decide +kernel
theorem dX3_dummyFor_38 : decode cX3_dummyFor 38 = .ok (.ishl, 1) := by decide +kernel
theorem dX3_dummyFor_39 : decode cX3_dummyFor 39 = .ok (.ior, 1) := by decide +kernel
theorem dX3_dummyFor_40 : decode cX3_dummyFor 40 = .ok (.istore_n 2, 1) := by decide +kernel
theorem dX3_dummyFor_41 : decode cX3_dummyFor 41 = .ok (.iinc 3 1, 3) := by decide +kernel
theorem dX3_dummyFor_44 : decode cX3_dummyFor 44 = .ok (.goto (-40), 3) := by decide +kernel
theorem dX3_dummyFor_47 : decode cX3_dummyFor 47 = .ok (.iconst (-1), 1) := by decide +kernel
theorem dX3_dummyFor_48 : decode cX3_dummyFor 48 = .ok (.ireturn, 1) := by decide +kernel
theorem dX3_firstBest_0 : decode cX3_firstBest 0 = .ok (.iconst 0, 1) := by decide +kernel
theorem dX3_firstBest_1 : decode cX3_firstBest 1 = .ok (.istore_n 3, 1) := by decide +kernel
theorem dX3_firstBest_2 : decode cX3_firstBest 2 = .ok (.iload_n 3, 1) := by decide +kernel
theorem dX3_firstBest_3 : decode cX3_firstBest 3 = .ok (.aload_n 0, 1) := by decide +kernel
theorem dX3_firstBest_4 : decode cX3_firstBest 4 = .ok (.getfield 30, 3) := by decide +kernel
theorem dX3_firstBest_7 : decode cX3_firstBest 7 = .ok (.if_icmp .ge 55, 3) := by decide +kernel
theorem dX3_firstBest_10 : decode cX3_firstBest 10 = .ok (.aload_n 0, 1) := by decide +kernel
theorem dX3_firstBest_11 : decode cX3_firstBest 11 = .ok (.getfield 9, 3) := by decide +kernel
theorem dX3_firstBest_14 : decode cX3_firstBest 14 = .ok (.iload_n 1, 1) := by decide +kernel
theorem dX3_firstBest_15 : decode cX3_firstBest 15 = .ok (.iaload, 1) := by decide +kernel
theorem dX3_firstBest_16 : decode cX3_firstBest 16 = .ok (.iload_n 2, 1) := by decide +kernel
theorem dX3_firstBest_17 : decode cX3_firstBest 17 = .ok (.iconst (-1), 1) := by decide +kernel
theorem dX3_firstBest_18 : decode cX3_firstBest 18 = .ok (.ixor, 1) := by decide +kernel
theorem dX3_firstBest_19 : decode cX3_firstBest 19 = .ok (.iand, 1) := by decide +kernel
theorem dX3_firstBest_20 : decode cX3_firstBest 20 = .ok (.iload_n 3, 1) := by decide +kernel
theorem dX3_firstBest_21 : decode cX3_firstBest 21 = .ok (.invokestatic 47, 3) := by decide +kernel
theorem dX3_firstBest_24 : decode cX3_firstBest 24 = .ok (.ifCond .eq 32, 3) := by decide +kernel
theorem dX3_firstBest_27 : decode cX3_firstBest 27 = .ok (.iconst 1, 1) := by decide +kernel
theorem dX3_firstBest_28 : decode cX3_firstBest 28 = .ok (.aload_n 0, 1) := by decide +kernel
theorem dX3_firstBest_29 : decode cX3_firstBest 29 = .ok (.getfield 17, 3) := by decide +kernel
theorem dX3_firstBest_32 : decode cX3_firstBest 32 = .ok (.iload_n 1, 1) := by decide +kernel
theorem dX3_firstBest_33 : decode cX3_firstBest 33 = .ok (.iconst 1, 1) := by decide +kernel
theorem dX3_firstBest_34 : decode cX3_firstBest 34 = .ok (.iadd, 1) := by decide +kernel
theorem dX3_firstBest_35 : decode cX3_firstBest 35 = .ok (.aaload, 1) := by decide +kernel
theorem dX3_firstBest_36 : decode cX3_firstBest 36 = .ok (.iload_n 2, 1) := by decide +kernel
theorem dX3_firstBest_37 : decode cX3_firstBest 37 = .ok (.iconst 1, 1) := by decide +kernel
theorem dX3_firstBest_38 : decode cX3_firstBest 38 = .ok (.iload_n 3, 1) := by decide +kernel
theorem dX3_firstBest_39 : decode cX3_firstBest 39 = .ok (.ishl, 1) := by decide +kernel
theorem dX3_firstBest_40 : decode cX3_firstBest 40 = .ok (.ior, 1) := by decide +kernel
theorem dX3_firstBest_41 : decode cX3_firstBest 41 = .ok (.iaload, 1) := by decide +kernel
theorem dX3_firstBest_42 : decode cX3_firstBest 42 = .ok (.iadd, 1) := by decide +kernel
theorem dX3_firstBest_43 : decode cX3_firstBest 43 = .ok (.aload_n 0, 1) := by decide +kernel
theorem dX3_firstBest_44 : decode cX3_firstBest 44 = .ok (.getfield 17, 3) := by decide +kernel
theorem dX3_firstBest_47 : decode cX3_firstBest 47 = .ok (.iload_n 1, 1) := by decide +kernel
theorem dX3_firstBest_48 : decode cX3_firstBest 48 = .ok (.aaload, 1) := by decide +kernel
theorem dX3_firstBest_49 : decode cX3_firstBest 49 = .ok (.iload_n 2, 1) := by decide +kernel
theorem dX3_firstBest_50 : decode cX3_firstBest 50 = .ok (.iaload, 1) := by decide +kernel
theorem dX3_firstBest_51 : decode cX3_firstBest 51 = .ok (.if_icmp .ne 5, 3) := by decide +kernel
theorem dX3_firstBest_54 : decode cX3_firstBest 54 = .ok (.iload_n 3, 1) := by decide +kernel
theorem dX3_firstBest_55 : decode cX3_firstBest 55 = .ok (.ireturn, 1) := by decide +kernel
theorem dX3_firstBest_56 : decode cX3_firstBest 56 = .ok (.iinc 3 1, 3) := by decide +kernel
theorem dX3_firstBest_59 : decode cX3_firstBest 59 = .ok (.goto (-57), 3) := by decide +kernel
theorem dX3_firstBest_62 : decode cX3_firstBest 62 = .ok (.iconst (-1), 1) := by decide +kernel
theorem dX3_firstBest_63 : decode cX3_firstBest 63 = .ok (.ireturn, 1) := by decide +kernel
theorem dX4_init_0 : decode cX4_init 0 = .ok (.aload_n 0, 1) := by decide +kernel
theorem dX4_init_1 : decode cX4_init 1 = .ok (.invokespecial 3, 3) := by decide +kernel
theorem dX4_init_4 : decode cX4_init 4 = .ok (.aload_n 0, 1) := by decide +kernel
theorem dX4_init_5 : decode cX4_init 5 = .ok (.sipush 620, 3) := by decide +kernel
theorem dX4_init_8 : decode cX4_init 8 = .ok (.newarray .int, 2) := by decide +kernel
theorem dX4_init_10 : decode cX4_init 10 = .ok (.putfield 11, 3) := by decide +kernel
theorem dX4_init_13 : decode cX4_init 13 = .ok (.return_, 1) := by decide +kernel
theorem dX4_remember_0 : decode cX4_remember 0 = .ok (.aload_n 1, 1) := by decide +kernel
theorem dX4_remember_1 : decode cX4_remember 1 = .ok (.aload_n 0, 1) := by decide +kernel
theorem dX4_remember_2 : decode cX4_remember 2 = .ok (.getfield 11, 3) := by decide +kernel
theorem dX4_remember_5 : decode cX4_remember 5 = .ok (.aload_n 0, 1) := by decide +kernel
theorem dX4_remember_6 : decode cX4_remember 6 = .ok (.getfield 17, 3) := by decide +kernel
theorem dX4_remember_9 : decode cX4_remember 9 = .ok (.bipush 31, 2) := by decide +kernel
theorem dX4_remember_11 : decode cX4_remember 11 = .ok (.imul, 1) := by decide +kernel
theorem dX4_remember_12 : decode cX4_remember 12 = .ok (.invokevirtual 21, 3) := by decide +kernel
theorem dX4_remember_15 : decode cX4_remember 15 = .ok (.aload_n 0, 1) := by decide +kernel
theorem dX4_remember_16 : decode cX4_remember 16 = .ok (.aload_n 0, 1) := by decide +kernel
theorem dX4_remember_17 : decode cX4_remember 17 = .ok (.getfield 17, 3) := by decide +kernel
theorem dX4_remember_20 : decode cX4_remember 20 = .ok (.iconst 1, 1) := by decide +kernel
theorem dX4_remember_21 : decode cX4_remember 21 = .ok (.iadd, 1) := by decide +kernel
theorem dX4_remember_22 : decode cX4_remember 22 = .ok (.bipush 20, 2) := by decide +kernel
theorem dX4_remember_24 : decode cX4_remember 24 = .ok (.irem, 1) := by decide +kernel
theorem dX4_remember_25 : decode cX4_remember 25 = .ok (.putfield 17, 3) := by decide +kernel
theorem dX4_remember_28 : decode cX4_remember 28 = .ok (.aload_n 0, 1) := by decide +kernel
theorem dX4_remember_29 : decode cX4_remember 29 = .ok (.aload_n 0, 1) := by decide +kernel
theorem dX4_remember_30 : decode cX4_remember 30 = .ok (.getfield 25, 3) := by decide +kernel
theorem dX4_remember_33 : decode cX4_remember 33 = .ok (.iconst 1, 1) := by decide +kernel
theorem dX4_remember_34 : decode cX4_remember 34 = .ok (.iadd, 1) := by decide +kernel
theorem dX4_remember_35 : decode cX4_remember 35 = .ok (.bipush 20, 2) := by decide +kernel
theorem dX4_remember_37 : decode cX4_remember 37 = .ok (.invokestatic 28, 3) := by decide +kernel
theorem dX4_remember_40 : decode cX4_remember 40 = .ok (.putfield 25, 3) := by decide +kernel
theorem dX4_remember_43 : decode cX4_remember 43 = .ok (.return_, 1) := by decide +kernel
theorem dX4_recall_0 : decode cX4_recall 0 = .ok (.aload_n 0, 1) := by decide +kernel
theorem dX4_recall_1 : decode cX4_recall 1 = .ok (.getfield 25, 3) := by decide +kernel
theorem dX4_recall_4 : decode cX4_recall 4 = .ok (.ifCond .ne 4, 3) := by decide +kernel
theorem dX4_recall_7 : decode cX4_recall 7 = .ok (.return_, 1) := by decide +kernel
theorem dX4_recall_8 : decode cX4_recall 8 = .ok (.aload_n 0, 1) := by decide +kernel
theorem dX4_recall_9 : decode cX4_recall 9 = .ok (.aload_n 0, 1) := by decide +kernel
theorem dX4_recall_10 : decode cX4_recall 10 = .ok (.getfield 17, 3) := by decide +kernel
theorem dX4_recall_13 : decode cX4_recall 13 = .ok (.bipush 20, 2) := by decide +kernel
theorem dX4_recall_15 : decode cX4_recall 15 = .ok (.iadd, 1) := by decide +kernel
theorem dX4_recall_16 : decode cX4_recall 16 = .ok (.iconst 1, 1) := by decide +kernel
theorem dX4_recall_17 : decode cX4_recall 17 = .ok (.isub, 1) := by decide +kernel
theorem dX4_recall_18 : decode cX4_recall 18 = .ok (.bipush 20, 2) := by decide +kernel
theorem dX4_recall_20 : decode cX4_recall 20 = .ok (.irem, 1) := by decide +kernel
theorem dX4_recall_21 : decode cX4_recall 21 = .ok (.putfield 17, 3) := by decide +kernel
theorem dX4_recall_24 : decode cX4_recall 24 = .ok (.aload_n 0, 1) := by decide +kernel
theorem dX4_recall_25 : decode cX4_recall 25 = .ok (.dup, 1) := by decide +kernel
theorem dX4_recall_26 : decode cX4_recall 26 = .ok (.getfield 25, 3) := by decide +kernel
theorem dX4_recall_29 : decode cX4_recall 29 = .ok (.iconst 1, 1) := by decide +kernel
theorem dX4_recall_30 : decode cX4_recall 30 = .ok (.isub, 1) := by decide +kernel
theorem dX4_recall_31 : decode cX4_recall 31 = .ok (.putfield 25, 3) := by decide +kernel
theorem dX4_recall_34 : decode cX4_recall 34 = .ok (.aload_n 1, 1) := by decide +kernel
theorem dX4_recall_35 : decode cX4_recall 35 = .ok (.aload_n 0, 1) := by decide +kernel
theorem dX4_recall_36 : decode cX4_recall 36 = .ok (.getfield 11, 3) := by decide +kernel
theorem dX4_recall_39 : decode cX4_recall 39 = .ok (.aload_n 0, 1) := by decide +kernel
theorem dX4_recall_40 : decode cX4_recall 40 = .ok (.getfield 17, 3) := by decide +kernel
theorem dX4_recall_43 : decode cX4_recall 43 = .ok (.bipush 31, 2) := by decide +kernel
theorem dX4_recall_45 : decode cX4_recall 45 = .ok (.imul, 1) := by decide +kernel
theorem dX4_recall_46 : decode cX4_recall 46 = .ok (.invokevirtual 34, 3) := by decide +kernel
theorem dX4_recall_49 : decode cX4_recall 49 = .ok (.return_, 1) := by decide +kernel
theorem dX4_forget_0 : decode cX4_forget 0 = .ok (.aload_n 0, 1) := by decide +kernel
theorem dX4_forget_1 : decode cX4_forget 1 = .ok (.iconst 0, 1) := by decide +kernel
theorem dX4_forget_2 : decode cX4_forget 2 = .ok (.putfield 17, 3) := by decide +kernel
theorem dX4_forget_5 : decode cX4_forget 5 = .ok (.aload_n 0, 1) := by decide +kernel
theorem dX4_forget_6 : decode cX4_forget 6 = .ok (.iconst 0, 1) := by decide +kernel
theorem dX4_forget_7 : decode cX4_forget 7 = .ok (.putfield 25, 3) := by decide +kernel
theorem dX4_forget_10 : decode cX4_forget 10 = .ok (.return_, 1) := by decide +kernel
theorem dX5_init_0 : decode cX5_init 0 = .ok (.aload_n 0, 1) := by decide +kernel
theorem dX5_init_1 : decode cX5_init 1 = .ok (.invokespecial 3, 3) := by decide +kernel
theorem dX5_init_4 : decode cX5_init 4 = .ok (.aload_n 0, 1) := by decide +kernel
theorem dX5_init_5 : decode cX5_init 5 = .ok (.bipush 6, 2) := by decide +kernel
theorem dX5_init_7 : decode cX5_init 7 = .ok (.newarray .int, 2) := by decide +kernel
theorem dX5_init_9 : decode cX5_init 9 = .ok (.putfield 9, 3) := by decide +kernel
theorem dX5_init_12 : decode cX5_init 12 = .ok (.aload_n 0, 1) := by decide +kernel
theorem dX5_init_13 : decode cX5_init 13 = .ok (.bipush 6, 2) := by decide +kernel
theorem dX5_init_15 : decode cX5_init 15 = .ok (.newarray .int, 2) := by decide +kernel
theorem dX5_init_17 : decode cX5_init 17 = .ok (.putfield 15, 3) := by decide +kernel
theorem dX5_init_20 : decode cX5_init 20 = .ok (.aload_n 0, 1) := by decide +kernel
theorem dX5_init_21 : decode cX5_init 21 = .ok (.bipush 6, 2) := by decide +kernel
theorem dX5_init_23 : decode cX5_init 23 = .ok (.newarray .int, 2) := by decide +kernel
theorem dX5_init_25 : decode cX5_init 25 = .ok (.putfield 18, 3) := by decide +kernel
theorem dX5_init_28 : decode cX5_init 28 = .ok (.aload_n 0, 1) := by decide +kernel
theorem dX5_init_29 : decode cX5_init 29 = .ok (.bipush 6, 2) := by decide +kernel
theorem dX5_init_31 : decode cX5_init 31 = .ok (.newarray .int, 2) := by decide +kernel
theorem dX5_init_33 : decode cX5_init 33 = .ok (.putfield 21, 3) := by decide +kernel
theorem dX5_init_36 : decode cX5_init 36 = .ok (.aload_n 0, 1) := by decide +kernel
theorem dX5_init_37 : decode cX5_init 37 = .ok (.bipush 6, 2) := by decide +kernel
theorem dX5_init_39 : decode cX5_init 39 = .ok (.newarray .int, 2) := by decide +kernel
theorem dX5_init_41 : decode cX5_init 41 = .ok (.putfield 24, 3) := by decide +kernel
theorem dX5_init_44 : decode cX5_init 44 = .ok (.aload_n 0, 1) := by decide +kernel
theorem dX5_init_45 : decode cX5_init 45 = .ok (.bipush 6, 2) := by decide +kernel
theorem dX5_init_47 : decode cX5_init 47 = .ok (.newarray .int, 2) := by decide +kernel
theorem dX5_init_49 : decode cX5_init 49 = .ok (.putfield 27, 3) := by decide +kernel
theorem dX5_init_52 : decode cX5_init 52 = .ok (.aload_n 0, 1) := by decide +kernel
theorem dX5_init_53 : decode cX5_init 53 = .ok (.bipush 6, 2) := by decide +kernel
theorem dX5_init_55 : decode cX5_init 55 = .ok (.newarray .int, 2) := by decide +kernel
theorem dX5_init_57 : decode cX5_init 57 = .ok (.putfield 30, 3) := by decide +kernel
theorem dX5_init_60 : decode cX5_init 60 = .ok (.return_, 1) := by decide +kernel
theorem dX5_reset_0 : decode cX5_reset 0 = .ok (.aload_n 0, 1) := by decide +kernel
theorem dX5_reset_1 : decode cX5_reset 1 = .ok (.iconst 0, 1) := by decide +kernel
theorem dX5_reset_2 : decode cX5_reset 2 = .ok (.putfield 33, 3) := by decide +kernel
theorem dX5_reset_5 : decode cX5_reset 5 = .ok (.aload_n 0, 1) := by decide +kernel
theorem dX5_reset_6 : decode cX5_reset 6 = .ok (.iconst 0, 1) := by decide +kernel
theorem dX5_reset_7 : decode cX5_reset 7 = .ok (.putfield 37, 3) := by decide +kernel
theorem dX5_reset_10 : decode cX5_reset 10 = .ok (.aload_n 0, 1) := by decide +kernel
theorem dX5_reset_11 : decode cX5_reset 11 = .ok (.iconst 0, 1) := by decide +kernel
theorem dX5_reset_12 : decode cX5_reset 12 = .ok (.putfield 41, 3) := by decide +kernel
theorem dX5_reset_15 : decode cX5_reset 15 = .ok (.aload_n 0, 1) := by decide +kernel
theorem dX5_reset_16 : decode cX5_reset 16 = .ok (.iconst 0, 1) := by decide +kernel
theorem dX5_reset_17 : decode cX5_reset 17 = .ok (.putfield 44, 3) := by decide +kernel
theorem dX5_reset_20 : decode cX5_reset 20 = .ok (.aload_n 0, 1) := by decide +kernel
theorem dX5_reset_21 : decode cX5_reset 21 = .ok (.iconst 0, 1) := by decide +kernel
theorem dX5_reset_22 : decode cX5_reset 22 = .ok (.putfield 47, 3) := by decide +kernel
theorem dX5_reset_25 : decode cX5_reset 25 = .ok (.return_, 1) := by decide +kernel
theorem dX5_copyFrom_0 : decode cX5_copyFrom 0 = .ok (.aload_n 0, 1) := by decide +kernel
theorem dX5_copyFrom_1 : decode cX5_copyFrom 1 = .ok (.aload_n 1, 1) := by decide +kernel
theorem dX5_copyFrom_2 : decode cX5_copyFrom 2 = .ok (.getfield 33, 3) := by decide +kernel
theorem dX5_copyFrom_5 : decode cX5_copyFrom 5 = .ok (.putfield 33, 3) := by decide +kernel
theorem dX5_copyFrom_8 : decode cX5_copyFrom 8 = .ok (.aload_n 0, 1) := by decide +kernel
theorem dX5_copyFrom_9 : decode cX5_copyFrom 9 = .ok (.aload_n 1, 1) := by decide +kernel
theorem dX5_copyFrom_10 : decode cX5_copyFrom 10 = .ok (.getfield 37, 3) := by decide +kernel
theorem dX5_copyFrom_13 : decode cX5_copyFrom 13 = .ok (.putfield 37, 3) := by decide +kernel
theorem dX5_copyFrom_16 : decode cX5_copyFrom 16 = .ok (.aload_n 0, 1) := by decide +kernel
theorem dX5_copyFrom_17 : decode cX5_copyFrom 17 = .ok (.aload_n 1, 1) := by decide +kernel
theorem dX5_copyFrom_18 : decode cX5_copyFrom 18 = .ok (.getfield 41, 3) := by decide +kernel
theorem dX5_copyFrom_21 : decode cX5_copyFrom 21 = .ok (.putfield 41, 3) := by decide +kernel
theorem dX5_copyFrom_24 : decode cX5_copyFrom 24 = .ok (.aload_n 0, 1) := by decide +kernel
theorem dX5_copyFrom_25 : decode cX5_copyFrom 25 = .ok (.aload_n 1, 1) := by decide +kernel
theorem dX5_copyFrom_26 : decode cX5_copyFrom 26 = .ok (.getfield 44, 3) := by decide +kernel
theorem dX5_copyFrom_29 : decode cX5_copyFrom 29 = .ok (.putfield 44, 3) := by decide +kernel
theorem dX5_copyFrom_32 : decode cX5_copyFrom 32 = .ok (.aload_n 0, 1) := by decide +kernel
theorem dX5_copyFrom_33 : decode cX5_copyFrom 33 = .ok (.aload_n 1, 1) := by decide +kernel
theorem dX5_copyFrom_34 : decode cX5_copyFrom 34 = .ok (.getfield 47, 3) := by decide +kernel
theorem dX5_copyFrom_37 : decode cX5_copyFrom 37 = .ok (.putfield 47, 3) := by decide +kernel
theorem dX5_copyFrom_40 : decode cX5_copyFrom 40 = .ok (.aload_n 1, 1) := by decide +kernel
theorem dX5_copyFrom_41 : decode cX5_copyFrom 41 = .ok (.getfield 9, 3) := by decide +kernel
theorem dX5_copyFrom_44 : decode cX5_copyFrom 44 = .ok (.aload_n 0, 1) := by decide +kernel
theorem dX5_copyFrom_45 : decode cX5_copyFrom 45 = .ok (.getfield 9, 3) := by decide +kernel
theorem dX5_copyFrom_48 : decode cX5_copyFrom 48 = .ok (.invokestatic 50, 3) := by decide +kernel
theorem dX5_copyFrom_51 : decode cX5_copyFrom 51 = .ok (.aload_n 1, 1) := by decide +kernel
theorem dX5_copyFrom_52 : decode cX5_copyFrom 52 = .ok (.getfield 15, 3) := by decide +kernel
theorem dX5_copyFrom_55 : decode cX5_copyFrom 55 = .ok (.aload_n 0, 1) := by decide +kernel
theorem dX5_copyFrom_56 : decode cX5_copyFrom 56 = .ok (.getfield 15, 3) := by decide +kernel
theorem dX5_copyFrom_59 : decode cX5_copyFrom 59 = .ok (.invokestatic 50, 3) := by decide +kernel
theorem dX5_copyFrom_62 : decode cX5_copyFrom 62 = .ok (.aload_n 1, 1) := by decide +kernel
theorem dX5_copyFrom_63 : decode cX5_copyFrom 63 = .ok (.getfield 18, 3) := by decide +kernel
theorem dX5_copyFrom_66 : decode cX5_copyFrom 66 = .ok (.aload_n 0, 1) := by decide +kernel
theorem dX5_copyFrom_67 : decode cX5_copyFrom 67 = .ok (.getfield 18, 3) := by decide +kernel
theorem dX5_copyFrom_70 : decode cX5_copyFrom 70 = .ok (.invokestatic 50, 3) := by decide +kernel
theorem dX5_copyFrom_73 : decode cX5_copyFrom 73 = .ok (.aload_n 1, 1) := by decide +kernel
theorem dX5_copyFrom_74 : decode cX5_copyFrom 74 = .ok (.getfield 21, 3) := by decide +kernel
theorem dX5_copyFrom_77 : decode cX5_copyFrom 77 = .ok (.aload_n 0, 1) := by decide +kernel
theorem dX5_copyFrom_78 : decode cX5_copyFrom 78 = .ok (.getfield 21, 3) := by decide +kernel
theorem dX5_copyFrom_81 : decode cX5_copyFrom 81 = .ok (.invokestatic 50, 3) := by decide +kernel
theorem dX5_copyFrom_84 : decode cX5_copyFrom 84 = .ok (.aload_n 1, 1) := by decide +kernel
theorem dX5_copyFrom_85 : decode cX5_copyFrom 85 = .ok (.getfield 24, 3) := by decide +kernel
theorem dX5_copyFrom_88 : decode cX5_copyFrom 88 = .ok (.aload_n 0, 1) := by decide +kernel
theorem dX5_copyFrom_89 : decode cX5_copyFrom 89 = .ok (.getfield 24, 3) := by decide +kernel
theorem dX5_copyFrom_92 : decode cX5_copyFrom 92 = .ok (.invokestatic 50, 3) := by decide +kernel
theorem dX5_copyFrom_95 : decode cX5_copyFrom 95 = .ok (.aload_n 1, 1) := by decide +kernel
theorem dX5_copyFrom_96 : decode cX5_copyFrom 96 = .ok (.getfield 27, 3) := by decide +kernel
theorem dX5_copyFrom_99 : decode cX5_copyFrom 99 = .ok (.aload_n 0, 1) := by decide +kernel
theorem dX5_copyFrom_100 : decode cX5_copyFrom 100 = .ok (.getfield 27, 3) := by decide +kernel
theorem dX5_copyFrom_103 : decode cX5_copyFrom 103 = .ok (.invokestatic 50, 3) := by decide +kernel
theorem dX5_copyFrom_106 : decode cX5_copyFrom 106 = .ok (.aload_n 1, 1) := by decide +kernel
theorem dX5_copyFrom_107 : decode cX5_copyFrom 107 = .ok (.getfield 30, 3) := by decide +kernel
theorem dX5_copyFrom_110 : decode cX5_copyFrom 110 = .ok (.aload_n 0, 1) := by decide +kernel
theorem dX5_copyFrom_111 : decode cX5_copyFrom 111 = .ok (.getfield 30, 3) := by decide +kernel
theorem dX5_copyFrom_114 : decode cX5_copyFrom 114 = .ok (.invokestatic 50, 3) := by decide +kernel
theorem dX5_copyFrom_117 : decode cX5_copyFrom 117 = .ok (.return_, 1) := by decide +kernel
theorem dX5_copyRow_0 : decode cX5_copyRow 0 = .ok (.aload_n 0, 1) := by decide +kernel
theorem dX5_copyRow_1 : decode cX5_copyRow 1 = .ok (.iconst 0, 1) := by decide +kernel
theorem dX5_copyRow_2 : decode cX5_copyRow 2 = .ok (.aload_n 1, 1) := by decide +kernel
theorem dX5_copyRow_3 : decode cX5_copyRow 3 = .ok (.iconst 0, 1) := by decide +kernel
theorem dX5_copyRow_4 : decode cX5_copyRow 4 = .ok (.bipush 6, 2) := by decide +kernel
theorem dX5_copyRow_6 : decode cX5_copyRow 6 = .ok (.invokestatic 54, 3) := by decide +kernel
theorem dX5_copyRow_9 : decode cX5_copyRow 9 = .ok (.return_, 1) := by decide +kernel
theorem dX5_addChild_0 : decode cX5_addChild 0 = .ok (.aload_n 0, 1) := by decide +kernel
theorem dX5_addChild_1 : decode cX5_addChild 1 = .ok (.getfield 44, 3) := by decide +kernel
theorem dX5_addChild_4 : decode cX5_addChild 4 = .ok (.bipush 6, 2) := by decide +kernel
theorem dX5_addChild_6 : decode cX5_addChild 6 = .ok (.if_icmp .lt 4, 3) := by decide +kernel
theorem dX5_addChild_9 : decode cX5_addChild 9 = .ok (.return_, 1) := by decide +kernel
theorem dX5_addChild_10 : decode cX5_addChild 10 = .ok (.aload_n 0, 1) := by decide +kernel
theorem dX5_addChild_11 : decode cX5_addChild 11 = .ok (.getfield 9, 3) := by decide +kernel
theorem dX5_addChild_14 : decode cX5_addChild 14 = .ok (.aload_n 0, 1) := by decide +kernel
theorem dX5_addChild_15 : decode cX5_addChild 15 = .ok (.getfield 44, 3) := by decide +kernel
theorem dX5_addChild_18 : decode cX5_addChild 18 = .ok (.iload_n 1, 1) := by decide +kernel
theorem dX5_addChild_19 : decode cX5_addChild 19 = .ok (.iastore, 1) := by decide +kernel
theorem dX5_addChild_20 : decode cX5_addChild 20 = .ok (.aload_n 0, 1) := by decide +kernel
theorem dX5_addChild_21 : decode cX5_addChild 21 = .ok (.getfield 15, 3) := by decide +kernel
theorem dX5_addChild_24 : decode cX5_addChild 24 = .ok (.aload_n 0, 1) := by decide +kernel
theorem dX5_addChild_25 : decode cX5_addChild 25 = .ok (.getfield 44, 3) := by decide +kernel
theorem dX5_addChild_28 : decode cX5_addChild 28 = .ok (.iload_n 2, 1) := by decide +kernel
theorem dX5_addChild_29 : decode cX5_addChild 29 = .ok (.iastore, 1) := by decide +kernel
theorem dX5_addChild_30 : decode cX5_addChild 30 = .ok (.aload_n 0, 1) := by decide +kernel
theorem dX5_addChild_31 : decode cX5_addChild 31 = .ok (.getfield 18, 3) := by decide +kernel
theorem dX5_addChild_34 : decode cX5_addChild 34 = .ok (.aload_n 0, 1) := by decide +kernel
theorem dX5_addChild_35 : decode cX5_addChild 35 = .ok (.getfield 44, 3) := by decide +kernel
theorem dX5_addChild_38 : decode cX5_addChild 38 = .ok (.iconst (-1), 1) := by decide +kernel
theorem dX5_addChild_39 : decode cX5_addChild 39 = .ok (.iastore, 1) := by decide +kernel
theorem dX5_addChild_40 : decode cX5_addChild 40 = .ok (.aload_n 0, 1) := by decide +kernel
theorem dX5_addChild_41 : decode cX5_addChild 41 = .ok (.dup, 1) := by decide +kernel
theorem dX5_addChild_42 : decode cX5_addChild 42 = .ok (.getfield 44, 3) := by decide +kernel
theorem dX5_addChild_45 : decode cX5_addChild 45 = .ok (.iconst 1, 1) := by decide +kernel
theorem dX5_addChild_46 : decode cX5_addChild 46 = .ok (.iadd, 1) := by decide +kernel
theorem dX5_addChild_47 : decode cX5_addChild 47 = .ok (.putfield 44, 3) := by decide +kernel
theorem dX5_addChild_50 : decode cX5_addChild 50 = .ok (.return_, 1) := by decide +kernel
theorem dX5_addDummy_0 : decode cX5_addDummy 0 = .ok (.aload_n 0, 1) := by decide +kernel
theorem dX5_addDummy_1 : decode cX5_addDummy 1 = .ok (.getfield 47, 3) := by decide +kernel
theorem dX5_addDummy_4 : decode cX5_addDummy 4 = .ok (.bipush 6, 2) := by decide +kernel
theorem dX5_addDummy_6 : decode cX5_addDummy 6 = .ok (.if_icmp .lt 4, 3) := by decide +kernel
theorem dX5_addDummy_9 : decode cX5_addDummy 9 = .ok (.return_, 1) := by decide +kernel
theorem dX5_addDummy_10 : decode cX5_addDummy 10 = .ok (.aload_n 0, 1) := by decide +kernel
theorem dX5_addDummy_11 : decode cX5_addDummy 11 = .ok (.getfield 21, 3) := by decide +kernel
theorem dX5_addDummy_14 : decode cX5_addDummy 14 = .ok (.aload_n 0, 1) := by decide +kernel
theorem dX5_addDummy_15 : decode cX5_addDummy 15 = .ok (.getfield 47, 3) := by decide +kernel
theorem dX5_addDummy_18 : decode cX5_addDummy 18 = .ok (.iload_n 1, 1) := by decide +kernel
theorem dX5_addDummy_19 : decode cX5_addDummy 19 = .ok (.iastore, 1) := by decide +kernel
theorem dX5_addDummy_20 : decode cX5_addDummy 20 = .ok (.aload_n 0, 1) := by decide +kernel
theorem dX5_addDummy_21 : decode cX5_addDummy 21 = .ok (.getfield 24, 3) := by decide +kernel
theorem dX5_addDummy_24 : decode cX5_addDummy 24 = .ok (.aload_n 0, 1) := by decide +kernel
theorem dX5_addDummy_25 : decode cX5_addDummy 25 = .ok (.getfield 47, 3) := by decide +kernel
theorem dX5_addDummy_28 : decode cX5_addDummy 28 = .ok (.iload_n 2, 1) := by decide +kernel
theorem dX5_addDummy_29 : decode cX5_addDummy 29 = .ok (.iastore, 1) := by decide +kernel
theorem dX5_addDummy_30 : decode cX5_addDummy 30 = .ok (.aload_n 0, 1) := by decide +kernel
theorem dX5_addDummy_31 : decode cX5_addDummy 31 = .ok (.getfield 27, 3) := by decide +kernel
theorem dX5_addDummy_34 : decode cX5_addDummy 34 = .ok (.aload_n 0, 1) := by decide +kernel
theorem dX5_addDummy_35 : decode cX5_addDummy 35 = .ok (.getfield 47, 3) := by decide +kernel
theorem dX5_addDummy_38 : decode cX5_addDummy 38 = .ok (.iload_n 3, 1) := by decide +kernel
theorem dX5_addDummy_39 : decode cX5_addDummy 39 = .ok (.iastore, 1) := by decide +kernel
theorem dX5_addDummy_40 : decode cX5_addDummy 40 = .ok (.aload_n 0, 1) := by decide +kernel
theorem dX5_addDummy_41 : decode cX5_addDummy 41 = .ok (.getfield 30, 3) := by decide +kernel
theorem dX5_addDummy_44 : decode cX5_addDummy 44 = .ok (.aload_n 0, 1) := by decide +kernel
theorem dX5_addDummy_45 : decode cX5_addDummy 45 = .ok (.getfield 47, 3) := by decide +kernel
theorem dX5_addDummy_48 : decode cX5_addDummy 48 = .ok (.iload 4, 2) := by decide +kernel
theorem dX5_addDummy_50 : decode cX5_addDummy 50 = .ok (.iastore, 1) := by decide +kernel
theorem dX5_addDummy_51 : decode cX5_addDummy 51 = .ok (.aload_n 0, 1) := by decide +kernel
theorem dX5_addDummy_52 : decode cX5_addDummy 52 = .ok (.iload 4, 2) := by decide +kernel
theorem dX5_addDummy_54 : decode cX5_addDummy 54 = .ok (.invokevirtual 60, 3) := by decide +kernel
theorem dX5_addDummy_57 : decode cX5_addDummy 57 = .ok (.ifCond .eq 14, 3) := by decide +kernel
theorem dX5_addDummy_60 : decode cX5_addDummy 60 = .ok (.aload_n 0, 1) := by decide +kernel
theorem dX5_addDummy_61 : decode cX5_addDummy 61 = .ok (.getfield 18, 3) := by decide +kernel
theorem dX5_addDummy_64 : decode cX5_addDummy 64 = .ok (.iload 4, 2) := by decide +kernel
theorem dX5_addDummy_66 : decode cX5_addDummy 66 = .ok (.aload_n 0, 1) := by decide +kernel
theorem dX5_addDummy_67 : decode cX5_addDummy 67 = .ok (.getfield 47, 3) := by decide +kernel
theorem dX5_addDummy_70 : decode cX5_addDummy 70 = .ok (.iastore, 1) := by decide +kernel
theorem dX5_addDummy_71 : decode cX5_addDummy 71 = .ok (.aload_n 0, 1) := by decide +kernel
theorem dX5_addDummy_72 : decode cX5_addDummy 72 = .ok (.dup, 1) := by decide +kernel
theorem dX5_addDummy_73 : decode cX5_addDummy 73 = .ok (.getfield 47, 3) := by decide +kernel
theorem dX5_addDummy_76 : decode cX5_addDummy 76 = .ok (.iconst 1, 1) := by decide +kernel
theorem dX5_addDummy_77 : decode cX5_addDummy 77 = .ok (.iadd, 1) := by decide +kernel
theorem dX5_addDummy_78 : decode cX5_addDummy 78 = .ok (.putfield 47, 3) := by decide +kernel
theorem dX5_addDummy_81 : decode cX5_addDummy 81 = .ok (.return_, 1) := by decide +kernel
theorem dX5_hasChild_0 : decode cX5_hasChild 0 = .ok (.iload_n 1, 1) := by decide +kernel
theorem dX5_hasChild_1 : decode cX5_hasChild 1 = .ok (.ifCond .lt 15, 3) := by decide +kernel
theorem dX5_hasChild_4 : decode cX5_hasChild 4 = .ok (.iload_n 1, 1) := by decide +kernel
theorem dX5_hasChild_5 : decode cX5_hasChild 5 = .ok (.aload_n 0, 1) := by decide +kernel
theorem dX5_hasChild_6 : decode cX5_hasChild 6 = .ok (.getfield 44, 3) := by decide +kernel
theorem dX5_hasChild_9 : decode cX5_hasChild 9 = .ok (.if_icmp .ge 7, 3) := by decide +kernel
theorem dX5_hasChild_12 : decode cX5_hasChild 12 = .ok (.iconst 1, 1) := by decide +kernel
theorem dX5_hasChild_13 : decode cX5_hasChild 13 = .ok (.goto 4, 3) := by decide +kernel
theorem dX5_hasChild_16 : decode cX5_hasChild 16 = .ok (.iconst 0, 1) := by decide +kernel
theorem dX5_hasChild_17 : decode cX5_hasChild 17 = .ok (.ireturn, 1) := by decide +kernel
theorem dX5_hasDummy_0 : decode cX5_hasDummy 0 = .ok (.iload_n 1, 1) := by decide +kernel
theorem dX5_hasDummy_1 : decode cX5_hasDummy 1 = .ok (.ifCond .lt 15, 3) := by decide +kernel
theorem dX5_hasDummy_4 : decode cX5_hasDummy 4 = .ok (.iload_n 1, 1) := by decide +kernel
theorem dX5_hasDummy_5 : decode cX5_hasDummy 5 = .ok (.aload_n 0, 1) := by decide +kernel
theorem dX5_hasDummy_6 : decode cX5_hasDummy 6 = .ok (.getfield 47, 3) := by decide +kernel
theorem dX5_hasDummy_9 : decode cX5_hasDummy 9 = .ok (.if_icmp .ge 7, 3) := by decide +kernel
theorem dX5_hasDummy_12 : decode cX5_hasDummy 12 = .ok (.iconst 1, 1) := by decide +kernel
theorem dX5_hasDummy_13 : decode cX5_hasDummy 13 = .ok (.goto 4, 3) := by decide +kernel
theorem dX5_hasDummy_16 : decode cX5_hasDummy 16 = .ok (.iconst 0, 1) := by decide +kernel
theorem dX5_hasDummy_17 : decode cX5_hasDummy 17 = .ok (.ireturn, 1) := by decide +kernel
theorem dX5_takes_0 : decode cX5_takes 0 = .ok (.aload_n 0, 1) := by decide +kernel
theorem dX5_takes_1 : decode cX5_takes 1 = .ok (.iload_n 1, 1) := by decide +kernel
theorem dX5_takes_2 : decode cX5_takes 2 = .ok (.invokevirtual 60, 3) := by decide +kernel
theorem dX5_takes_5 : decode cX5_takes 5 = .ok (.ifCond .eq 22, 3) := by decide +kernel
theorem dX5_takes_8 : decode cX5_takes 8 = .ok (.aload_n 0, 1) := by decide +kernel
theorem dX5_takes_9 : decode cX5_takes 9 = .ok (.iload_n 1, 1) := by decide +kernel
theorem dX5_takes_10 : decode cX5_takes 10 = .ok (.aload_n 0, 1) := by decide +kernel
theorem dX5_takes_11 : decode cX5_takes 11 = .ok (.getfield 18, 3) := by decide +kernel
theorem dX5_takes_14 : decode cX5_takes 14 = .ok (.iload_n 1, 1) := by decide +kernel
theorem dX5_takes_15 : decode cX5_takes 15 = .ok (.iaload, 1) := by decide +kernel
theorem dX5_takes_16 : decode cX5_takes 16 = .ok (.iload_n 2, 1) := by decide +kernel
theorem dX5_takes_17 : decode cX5_takes 17 = .ok (.invokevirtual 64, 3) := by decide +kernel
theorem dX5_takes_20 : decode cX5_takes 20 = .ok (.ifCond .eq 7, 3) := by decide +kernel
theorem dX5_takes_23 : decode cX5_takes 23 = .ok (.iconst 1, 1) := by decide +kernel
theorem dX5_takes_24 : decode cX5_takes 24 = .ok (.goto 4, 3) := by decide +kernel
theorem dX5_takes_27 : decode cX5_takes 27 = .ok (.iconst 0, 1) := by decide +kernel
theorem dX5_takes_28 : decode cX5_takes 28 = .ok (.ireturn, 1) := by decide +kernel
theorem dX5_takesOwning_0 : decode cX5_takesOwning 0 = .ok (.aload_n 0, 1) := by decide +kernel
theorem dX5_takesOwning_1 : decode cX5_takesOwning 1 = .ok (.iload_n 1, 1) := by decide +kernel
theorem dX5_takesOwning_2 : decode cX5_takesOwning 2 = .ok (.invokevirtual 60, 3) := by decide +kernel
theorem dX5_takesOwning_5 : decode cX5_takesOwning 5 = .ok (.ifCond .eq 11, 3) := by decide +kernel
theorem dX5_takesOwning_8 : decode cX5_takesOwning 8 = .ok (.aload_n 0, 1) := by decide +kernel
theorem dX5_takesOwning_9 : decode cX5_takesOwning 9 = .ok (.iload_n 3, 1) := by decide +kernel
theorem dX5_takesOwning_10 : decode cX5_takesOwning 10 = .ok (.invokevirtual 68, 3) := by decide +kernel
theorem dX5_takesOwning_13 : decode cX5_takesOwning 13 = .ok (.ifCond .ne 5, 3) := by decide +kernel
theorem dX5_takesOwning_16 : decode cX5_takesOwning 16 = .ok (.iconst 0, 1) := by decide +kernel
theorem dX5_takesOwning_17 : decode cX5_takesOwning 17 = .ok (.ireturn, 1) := by decide +kernel
theorem dX5_takesOwning_18 : decode cX5_takesOwning 18 = .ok (.aload_n 0, 1) := by decide +kernel
theorem dX5_takesOwning_19 : decode cX5_takesOwning 19 = .ok (.getfield 9, 3) := by decide +kernel
theorem dX5_takesOwning_22 : decode cX5_takesOwning 22 = .ok (.iload_n 1, 1) := by decide +kernel
theorem dX5_takesOwning_23 : decode cX5_takesOwning 23 = .ok (.iaload, 1) := by decide +kernel
theorem dX5_takesOwning_24 : decode cX5_takesOwning 24 = .ok (.iconst 3, 1) := by decide +kernel
theorem dX5_takesOwning_25 : decode cX5_takesOwning 25 = .ok (.if_icmp .ne 5, 3) := by decide +kernel
theorem dX5_takesOwning_28 : decode cX5_takesOwning 28 = .ok (.iconst 1, 1) := by decide +kernel
theorem dX5_takesOwning_29 : decode cX5_takesOwning 29 = .ok (.ireturn, 1) := by decide +kernel
theorem dX5_takesOwning_30 : decode cX5_takesOwning 30 = .ok (.aload_n 0, 1) := by decide +kernel
theorem dX5_takesOwning_31 : decode cX5_takesOwning 31 = .ok (.iload_n 2, 1) := by decide +kernel
theorem dX5_takesOwning_32 : decode cX5_takesOwning 32 = .ok (.invokevirtual 68, 3) := by decide +kernel
theorem dX5_takesOwning_35 : decode cX5_takesOwning 35 = .ok (.ifCond .ne 5, 3) := by decide +kernel
theorem dX5_takesOwning_38 : decode cX5_takesOwning 38 = .ok (.iconst 0, 1) := by decide +kernel
theorem dX5_takesOwning_39 : decode cX5_takesOwning 39 = .ok (.ireturn, 1) := by decide +kernel
theorem dX5_takesOwning_40 : decode cX5_takesOwning 40 = .ok (.aload_n 0, 1) := by decide +kernel
theorem dX5_takesOwning_41 : decode cX5_takesOwning 41 = .ok (.getfield 9, 3) := by decide +kernel
theorem dX5_takesOwning_44 : decode cX5_takesOwning 44 = .ok (.iload_n 1, 1) := by decide +kernel
theorem dX5_takesOwning_45 : decode cX5_takesOwning 45 = .ok (.iaload, 1) := by decide +kernel
theorem dX5_takesOwning_46 : decode cX5_takesOwning 46 = .ok (.iconst 1, 1) := by decide +kernel
theorem dX5_takesOwning_47 : decode cX5_takesOwning 47 = .ok (.if_icmp .ne 24, 3) := by decide +kernel
theorem dX5_takesOwning_50 : decode cX5_takesOwning 50 = .ok (.aload_n 0, 1) := by decide +kernel
theorem dX5_takesOwning_51 : decode cX5_takesOwning 51 = .ok (.getfield 24, 3) := by decide +kernel
theorem dX5_takesOwning_54 : decode cX5_takesOwning 54 = .ok (.iload_n 3, 1) := by decide +kernel
theorem dX5_takesOwning_55 : decode cX5_takesOwning 55 = .ok (.iaload, 1) := by decide +kernel
theorem dX5_takesOwning_56 : decode cX5_takesOwning 56 = .ok (.aload_n 0, 1) := by decide +kernel
theorem dX5_takesOwning_57 : decode cX5_takesOwning 57 = .ok (.getfield 24, 3) := by decide +kernel
theorem dX5_takesOwning_60 : decode cX5_takesOwning 60 = .ok (.iload_n 2, 1) := by decide +kernel
theorem dX5_takesOwning_61 : decode cX5_takesOwning 61 = .ok (.iaload, 1) := by decide +kernel
theorem dX5_takesOwning_62 : decode cX5_takesOwning 62 = .ok (.if_icmp .ne 7, 3) := by decide +kernel
theorem dX5_takesOwning_65 : decode cX5_takesOwning 65 = .ok (.iconst 1, 1) := by decide +kernel
theorem dX5_takesOwning_66 : decode cX5_takesOwning 66 = .ok (.goto 4, 3) := by decide +kernel
theorem dX5_takesOwning_69 : decode cX5_takesOwning 69 = .ok (.iconst 0, 1) := by decide +kernel
theorem dX5_takesOwning_70 : decode cX5_takesOwning 70 = .ok (.ireturn, 1) := by decide +kernel
theorem dX5_takesOwning_71 : decode cX5_takesOwning 71 = .ok (.aload_n 0, 1) := by decide +kernel
theorem dX5_takesOwning_72 : decode cX5_takesOwning 72 = .ok (.getfield 9, 3) := by decide +kernel
theorem dX5_takesOwning_75 : decode cX5_takesOwning 75 = .ok (.iload_n 1, 1) := by decide +kernel
theorem dX5_takesOwning_76 : decode cX5_takesOwning 76 = .ok (.iaload, 1) := by decide +kernel
theorem dX5_takesOwning_77 : decode cX5_takesOwning 77 = .ok (.iconst 2, 1) := by decide +kernel
theorem dX5_takesOwning_78 : decode cX5_takesOwning 78 = .ok (.if_icmp .ne 24, 3) := by decide +kernel
theorem dX5_takesOwning_81 : decode cX5_takesOwning 81 = .ok (.aload_n 0, 1) := by decide +kernel
theorem dX5_takesOwning_82 : decode cX5_takesOwning 82 = .ok (.getfield 21, 3) := by decide +kernel
theorem dX5_takesOwning_85 : decode cX5_takesOwning 85 = .ok (.iload_n 3, 1) := by decide +kernel
theorem dX5_takesOwning_86 : decode cX5_takesOwning 86 = .ok (.iaload, 1) := by decide +kernel
theorem dX5_takesOwning_87 : decode cX5_takesOwning 87 = .ok (.aload_n 0, 1) := by decide +kernel
theorem dX5_takesOwning_88 : decode cX5_takesOwning 88 = .ok (.getfield 21, 3) := by decide +kernel
theorem dX5_takesOwning_91 : decode cX5_takesOwning 91 = .ok (.iload_n 2, 1) := by decide +kernel
theorem dX5_takesOwning_92 : decode cX5_takesOwning 92 = .ok (.iaload, 1) := by decide +kernel
theorem dX5_takesOwning_93 : decode cX5_takesOwning 93 = .ok (.if_icmp .ne 7, 3) := by decide +kernel
theorem dX5_takesOwning_96 : decode cX5_takesOwning 96 = .ok (.iconst 1, 1) := by decide +kernel
theorem dX5_takesOwning_97 : decode cX5_takesOwning 97 = .ok (.goto 4, 3) := by decide +kernel
theorem dX5_takesOwning_100 : decode cX5_takesOwning 100 = .ok (.iconst 0, 1) := by decide +kernel
theorem dX5_takesOwning_101 : decode cX5_takesOwning 101 = .ok (.ireturn, 1) := by decide +kernel
theorem dX5_takesOwning_102 : decode cX5_takesOwning 102 = .ok (.iload_n 3, 1) := by decide +kernel
theorem dX5_takesOwning_103 : decode cX5_takesOwning 103 = .ok (.iload_n 2, 1) := by decide +kernel
theorem dX5_takesOwning_104 : decode cX5_takesOwning 104 = .ok (.if_icmp .ne 7, 3) := by decide +kernel
theorem dX5_takesOwning_107 : decode cX5_takesOwning 107 = .ok (.iconst 1, 1) := by decide +kernel
theorem dX5_takesOwning_108 : decode cX5_takesOwning 108 = .ok (.goto 4, 3) := by decide +kernel
theorem dX5_takesOwning_111 : decode cX5_takesOwning 111 = .ok (.iconst 0, 1) := by decide +kernel
theorem dX5_takesOwning_112 : decode cX5_takesOwning 112 = .ok (.ireturn, 1) := by decide +kernel
theorem dX6_init_0 : decode cX6_init 0 = .ok (.aload_n 0, 1) := by decide +kernel
theorem dX6_init_1 : decode cX6_init 1 = .ok (.invokespecial 3, 3) := by decide +kernel
theorem dX6_init_4 : decode cX6_init 4 = .ok (.aload_n 0, 1) := by decide +kernel
theorem dX6_init_5 : decode cX6_init 5 = .ok (.sipush 240, 3) := by decide +kernel
theorem dX6_init_8 : decode cX6_init 8 = .ok (.newarray .int, 2) := by decide +kernel
theorem dX6_init_10 : decode cX6_init 10 = .ok (.putfield 9, 3) := by decide +kernel
theorem dX6_init_13 : decode cX6_init 13 = .ok (.aload_n 0, 1) := by decide +kernel
theorem dX6_init_14 : decode cX6_init 14 = .ok (.iconst (-1), 1) := by decide +kernel
theorem dX6_init_15 : decode cX6_init 15 = .ok (.putfield 15, 3) := by decide +kernel
theorem dX6_init_18 : decode cX6_init 18 = .ok (.return_, 1) := by decide +kernel
theorem dX6_append_0 : decode cX6_append 0 = .ok (.aload_n 0, 1) := by decide +kernel
theorem dX6_append_1 : decode cX6_append 1 = .ok (.getfield 19, 3) := by decide +kernel
theorem dX6_append_4 : decode cX6_append 4 = .ok (.sipush 240, 3) := by decide +kernel
theorem dX6_append_7 : decode cX6_append 7 = .ok (.if_icmp .lt 5, 3) := by decide +kernel
theorem dX6_append_10 : decode cX6_append 10 = .ok (.iconst 0, 1) := by decide +kernel
theorem dX6_append_11 : decode cX6_append 11 = .ok (.ireturn, 1) := by decide +kernel
theorem dX6_append_12 : decode cX6_append 12 = .ok (.aload_n 0, 1) := by decide +kernel
theorem dX6_append_13 : decode cX6_append 13 = .ok (.getfield 9, 3) := by decide +kernel
theorem dX6_append_16 : decode cX6_append 16 = .ok (.aload_n 0, 1) := by decide +kernel
theorem dX6_append_17 : decode cX6_append 17 = .ok (.getfield 19, 3) := by decide +kernel
theorem dX6_append_20 : decode cX6_append 20 = .ok (.iload_n 1, 1) := by decide +kernel
theorem dX6_append_21 : decode cX6_append 21 = .ok (.iastore, 1) := by decide +kernel
theorem dX6_append_22 : decode cX6_append 22 = .ok (.aload_n 0, 1) := by decide +kernel
theorem dX6_append_23 : decode cX6_append 23 = .ok (.dup, 1) := by decide +kernel
theorem dX6_append_24 : decode cX6_append 24 = .ok (.getfield 19, 3) := by decide +kernel
theorem dX6_append_27 : decode cX6_append 27 = .ok (.iconst 1, 1) := by decide +kernel
theorem dX6_append_28 : decode cX6_append 28 = .ok (.iadd, 1) := by decide +kernel
theorem dX6_append_29 : decode cX6_append 29 = .ok (.putfield 19, 3) := by decide +kernel
theorem dX6_append_32 : decode cX6_append 32 = .ok (.iconst 1, 1) := by decide +kernel
theorem dX6_append_33 : decode cX6_append 33 = .ok (.ireturn, 1) := by decide +kernel
theorem dX6_readInto_0 : decode cX6_readInto 0 = .ok (.aload_n 1, 1) := by decide +kernel
theorem dX6_readInto_1 : decode cX6_readInto 1 = .ok (.invokevirtual 22, 3) := by decide +kernel
theorem dX6_readInto_4 : decode cX6_readInto 4 = .ok (.aload_n 0, 1) := by decide +kernel
theorem dX6_readInto_5 : decode cX6_readInto 5 = .ok (.iconst 0, 1) := by decide +kernel
theorem dX6_readInto_6 : decode cX6_readInto 6 = .ok (.putfield 27, 3) := by decide +kernel
theorem dX6_readInto_9 : decode cX6_readInto 9 = .ok (.aload_n 0, 1) := by decide +kernel
theorem dX6_readInto_10 : decode cX6_readInto 10 = .ok (.iconst 0, 1) := by decide +kernel
theorem dX6_readInto_11 : decode cX6_readInto 11 = .ok (.putfield 30, 3) := by decide +kernel
theorem dX6_readInto_14 : decode cX6_readInto 14 = .ok (.aload_n 0, 1) := by decide +kernel
theorem dX6_readInto_15 : decode cX6_readInto 15 = .ok (.iconst (-1), 1) := by decide +kernel
theorem dX6_readInto_16 : decode cX6_readInto 16 = .ok (.putfield 15, 3) := by decide +kernel
theorem dX6_readInto_19 : decode cX6_readInto 19 = .ok (.aload_n 0, 1) := by decide +kernel
theorem dX6_readInto_20 : decode cX6_readInto 20 = .ok (.invokevirtual 33, 3) := by decide +kernel
theorem dX6_readInto_23 : decode cX6_readInto 23 = .ok (.aload_n 0, 1) := by decide +kernel
theorem dX6_readInto_24 : decode cX6_readInto 24 = .ok (.getfield 27, 3) := by decide +kernel
theorem dX6_readInto_27 : decode cX6_readInto 27 = .ok (.aload_n 0, 1) := by decide +kernel
theorem dX6_readInto_28 : decode cX6_readInto 28 = .ok (.getfield 19, 3) := by decide +kernel
theorem dX6_readInto_31 : decode cX6_readInto 31 = .ok (.if_icmp .lt 5, 3) := by decide +kernel
theorem dX6_readInto_34 : decode cX6_readInto 34 = .ok (.iconst 1, 1) := by decide +kernel
theorem dX6_readInto_35 : decode cX6_readInto 35 = .ok (.ireturn, 1) := by decide +kernel
theorem dX6_readInto_36 : decode cX6_readInto 36 = .ok (.aload_n 0, 1) := by decide +kernel
theorem dX6_readInto_37 : decode cX6_readInto 37 = .ok (.aload_n 1, 1) := by decide +kernel
theorem dX6_readInto_38 : decode cX6_readInto 38 = .ok (.invokevirtual 36, 3) := by decide +kernel
theorem dX6_readInto_41 : decode cX6_readInto 41 = .ok (.aload_n 0, 1) := by decide +kernel
theorem dX6_readInto_42 : decode cX6_readInto 42 = .ok (.invokevirtual 33, 3) := by decide +kernel
theorem dX6_readInto_45 : decode cX6_readInto 45 = .ok (.iconst 0, 1) := by decide +kernel
theorem dX6_readInto_46 : decode cX6_readInto 46 = .ok (.istore_n 2, 1) := by decide +kernel
theorem dX6_readInto_47 : decode cX6_readInto 47 = .ok (.iload_n 2, 1) := by decide +kernel
theorem dX6_readInto_48 : decode cX6_readInto 48 = .ok (.sipush 240, 3) := by decide +kernel
theorem dX6_readInto_51 : decode cX6_readInto 51 = .ok (.if_icmp .ge 36, 3) := by decide +kernel
theorem dX6_readInto_54 : decode cX6_readInto 54 = .ok (.aload_n 0, 1) := by decide +kernel
theorem dX6_readInto_55 : decode cX6_readInto 55 = .ok (.getfield 30, 3) := by decide +kernel
theorem dX6_readInto_58 : decode cX6_readInto 58 = .ok (.ifCond .ne 29, 3) := by decide +kernel
theorem dX6_readInto_61 : decode cX6_readInto 61 = .ok (.aload_n 0, 1) := by decide +kernel
theorem dX6_readInto_62 : decode cX6_readInto 62 = .ok (.getfield 27, 3) := by decide +kernel
theorem dX6_readInto_65 : decode cX6_readInto 65 = .ok (.aload_n 0, 1) := by decide +kernel
theorem dX6_readInto_66 : decode cX6_readInto 66 = .ok (.getfield 19, 3) := by decide +kernel
theorem dX6_readInto_69 : decode cX6_readInto 69 = .ok (.if_icmp .ge 18, 3) := by decide +kernel
theorem dX6_readInto_72 : decode cX6_readInto 72 = .ok (.aload_n 0, 1) := by decide +kernel
theorem dX6_readInto_73 : decode cX6_readInto 73 = .ok (.aload_n 1, 1) := by decide +kernel
theorem dX6_readInto_74 : decode cX6_readInto 74 = .ok (.invokevirtual 40, 3) := by decide +kernel
theorem dX6_readInto_77 : decode cX6_readInto 77 = .ok (.aload_n 0, 1) := by decide +kernel
theorem dX6_readInto_78 : decode cX6_readInto 78 = .ok (.invokevirtual 33, 3) := by decide +kernel
theorem dX6_readInto_81 : decode cX6_readInto 81 = .ok (.iinc 2 1, 3) := by decide +kernel
theorem dX6_readInto_84 : decode cX6_readInto 84 = .ok (.goto (-37), 3) := by decide +kernel
theorem dX6_readInto_87 : decode cX6_readInto 87 = .ok (.aload_n 0, 1) := by decide +kernel
theorem dX6_readInto_88 : decode cX6_readInto 88 = .ok (.getfield 30, 3) := by decide +kernel
theorem dX6_readInto_91 : decode cX6_readInto 91 = .ok (.ifCond .ne 7, 3) := by decide +kernel
theorem dX6_readInto_94 : decode cX6_readInto 94 = .ok (.iconst 1, 1) := by decide +kernel
theorem dX6_readInto_95 : decode cX6_readInto 95 = .ok (.goto 4, 3) := by decide +kernel
theorem dX6_readInto_98 : decode cX6_readInto 98 = .ok (.iconst 0, 1) := by decide +kernel
theorem dX6_readInto_99 : decode cX6_readInto 99 = .ok (.ireturn, 1) := by decide +kernel
theorem dX6_readHead_0 : decode cX6_readHead 0 = .ok (.aload_n 0, 1) := by decide +kernel
theorem dX6_readHead_1 : decode cX6_readHead 1 = .ok (.invokevirtual 43, 3) := by decide +kernel
theorem dX6_readHead_4 : decode cX6_readHead 4 = .ok (.bipush 110, 2) := by decide +kernel
theorem dX6_readHead_6 : decode cX6_readHead 6 = .ok (.if_icmp .eq 13, 3) := by decide +kernel
theorem dX6_readHead_9 : decode cX6_readHead 9 = .ok (.aload_n 0, 1) := by decide +kernel
theorem dX6_readHead_10 : decode cX6_readHead 10 = .ok (.iconst 1, 1) := by decide +kernel
theorem dX6_readHead_11 : decode cX6_readHead 11 = .ok (.aload_n 0, 1) := by decide +kernel
theorem dX6_readHead_12 : decode cX6_readHead 12 = .ok (.getfield 27, 3) := by decide +kernel
theorem dX6_readHead_15 : decode cX6_readHead 15 = .ok (.invokevirtual 47, 3) := by decide +kernel
theorem dX6_readHead_18 : decode cX6_readHead 18 = .ok (.return_, 1) := by decide +kernel
theorem dX6_readHead_19 : decode cX6_readHead 19 = .ok (.aload_n 0, 1) := by decide +kernel
theorem dX6_readHead_20 : decode cX6_readHead 20 = .ok (.dup, 1) := by decide +kernel
theorem dX6_readHead_21 : decode cX6_readHead 21 = .ok (.getfield 27, 3) := by decide +kernel
theorem dX6_readHead_24 : decode cX6_readHead 24 = .ok (.iconst 1, 1) := by decide +kernel
theorem dX6_readHead_25 : decode cX6_readHead 25 = .ok (.iadd, 1) := by decide +kernel
theorem dX6_readHead_26 : decode cX6_readHead 26 = .ok (.putfield 27, 3) := by decide +kernel
theorem dX6_readHead_29 : decode cX6_readHead 29 = .ok (.aload_n 0, 1) := by decide +kernel
theorem dX6_readHead_30 : decode cX6_readHead 30 = .ok (.iconst 1, 1) := by decide +kernel
theorem dX6_readHead_31 : decode cX6_readHead 31 = .ok (.bipush 99, 2) := by decide +kernel
theorem dX6_readHead_33 : decode cX6_readHead 33 = .ok (.invokevirtual 51, 3) := by decide +kernel
theorem dX6_readHead_36 : decode cX6_readHead 36 = .ok (.istore_n 2, 1) := by decide +kernel
theorem dX6_readHead_37 : decode cX6_readHead 37 = .ok (.aload_n 0, 1) := by decide +kernel
theorem dX6_readHead_38 : decode cX6_readHead 38 = .ok (.iconst 0, 1) := by decide +kernel
theorem dX6_readHead_39 : decode cX6_readHead 39 = .ok (.bipush 100, 2) := by decide +kernel
theorem dX6_readHead_41 : decode cX6_readHead 41 = .ok (.invokevirtual 51, 3) := by decide +kernel
theorem dX6_readHead_44 : decode cX6_readHead 44 = .ok (.istore_n 3, 1) := by decide +kernel
theorem dX6_readHead_45 : decode cX6_readHead 45 = .ok (.aload_n 0, 1) := by decide +kernel
theorem dX6_readHead_46 : decode cX6_readHead 46 = .ok (.invokevirtual 55, 3) := by decide +kernel
theorem dX6_readHead_49 : decode cX6_readHead 49 = .ok (.aload_n 1, 1) := by decide +kernel
theorem dX6_readHead_50 : decode cX6_readHead 50 = .ok (.iconst 1, 1) := by decide +kernel
theorem dX6_readHead_51 : decode cX6_readHead 51 = .ok (.putfield 58, 3) := by decide +kernel
theorem dX6_readHead_54 : decode cX6_readHead 54 = .ok (.aload_n 1, 1) := by decide +kernel
theorem dX6_readHead_55 : decode cX6_readHead 55 = .ok (.iload_n 2, 1) := by decide +kernel
theorem dX6_readHead_56 : decode cX6_readHead 56 = .ok (.putfield 62, 3) := by decide +kernel
theorem dX6_readHead_59 : decode cX6_readHead 59 = .ok (.aload_n 1, 1) := by decide +kernel
theorem dX6_readHead_60 : decode cX6_readHead 60 = .ok (.iload_n 3, 1) := by decide +kernel
theorem dX6_readHead_61 : decode cX6_readHead 61 = .ok (.putfield 65, 3) := by decide +kernel
theorem dX6_readHead_64 : decode cX6_readHead 64 = .ok (.return_, 1) := by decide +kernel
theorem dX6_readClause_0 : decode cX6_readClause 0 = .ok (.aload_n 0, 1) := by decide +kernel
theorem dX6_readClause_1 : decode cX6_readClause 1 = .ok (.invokevirtual 43, 3) := by decide +kernel
theorem dX6_readClause_4 : decode cX6_readClause 4 = .ok (.istore_n 2, 1) := by decide +kernel
theorem dX6_readClause_5 : decode cX6_readClause 5 = .ok (.iload_n 2, 1) := by decide +kernel
theorem dX6_readClause_6 : decode cX6_readClause 6 = .ok (.bipush 99, 2) := by decide +kernel
theorem dX6_readClause_8 : decode cX6_readClause 8 = .ok (.if_icmp .ne 11, 3) := by decide +kernel
theorem dX6_readClause_11 : decode cX6_readClause 11 = .ok (.aload_n 0, 1) := by decide +kernel
theorem dX6_readClause_12 : decode cX6_readClause 12 = .ok (.aload_n 1, 1) := by decide +kernel
theorem dX6_readClause_13 : decode cX6_readClause 13 = .ok (.invokevirtual 68, 3) := by decide +kernel
theorem dX6_readClause_16 : decode cX6_readClause 16 = .ok (.goto 36, 3) := by decide +kernel
theorem dX6_readClause_19 : decode cX6_readClause 19 = .ok (.iload_n 2, 1) := by decide +kernel
theorem dX6_readClause_20 : decode cX6_readClause 20 = .ok (.bipush 100, 2) := by decide +kernel
theorem dX6_readClause_22 : decode cX6_readClause 22 = .ok (.if_icmp .ne 11, 3) := by decide +kernel
theorem dX6_readClause_25 : decode cX6_readClause 25 = .ok (.aload_n 0, 1) := by decide +kernel
theorem dX6_readClause_26 : decode cX6_readClause 26 = .ok (.aload_n 1, 1) := by decide +kernel
theorem dX6_readClause_27 : decode cX6_readClause 27 = .ok (.invokevirtual 71, 3) := by decide +kernel
theorem dX6_readClause_30 : decode cX6_readClause 30 = .ok (.goto 22, 3) := by decide +kernel
theorem dX6_readClause_33 : decode cX6_readClause 33 = .ok (.aload_n 0, 1) := by decide +kernel
theorem dX6_readClause_34 : decode cX6_readClause 34 = .ok (.iload_n 2, 1) := by decide +kernel
theorem dX6_readClause_35 : decode cX6_readClause 35 = .ok (.bipush 110, 2) := by decide +kernel
theorem dX6_readClause_37 : decode cX6_readClause 37 = .ok (.if_icmp .ne 7, 3) := by decide +kernel
theorem dX6_readClause_40 : decode cX6_readClause 40 = .ok (.iconst 3, 1) := by decide +kernel
theorem dX6_readClause_41 : decode cX6_readClause 41 = .ok (.goto 4, 3) := by decide +kernel
theorem dX6_readClause_44 : decode cX6_readClause 44 = .ok (.iconst 1, 1) := by decide +kernel
theorem dX6_readClause_45 : decode cX6_readClause 45 = .ok (.aload_n 0, 1) := by decide +kernel
theorem dX6_readClause_46 : decode cX6_readClause 46 = .ok (.getfield 27, 3) := by decide +kernel
theorem dX6_readClause_49 : decode cX6_readClause 49 = .ok (.invokevirtual 47, 3) := by decide +kernel
theorem dX6_readClause_52 : decode cX6_readClause 52 = .ok (.return_, 1) := by decide +kernel
theorem dX6_readChild_0 : decode cX6_readChild 0 = .ok (.aload_n 1, 1) := by decide +kernel
theorem dX6_readChild_1 : decode cX6_readChild 1 = .ok (.getfield 74, 3) := by decide +kernel
theorem dX6_readChild_4 : decode cX6_readChild 4 = .ok (.bipush 6, 2) := by decide +kernel
theorem dX6_readChild_6 : decode cX6_readChild 6 = .ok (.if_icmp .lt 13, 3) := by decide +kernel
theorem dX6_readChild_9 : decode cX6_readChild 9 = .ok (.aload_n 0, 1) := by decide +kernel
theorem dX6_readChild_10 : decode cX6_readChild 10 = .ok (.iconst 3, 1) := by decide +kernel
theorem dX6_readChild_11 : decode cX6_readChild 11 = .ok (.aload_n 0, 1) := by decide +kernel
theorem dX6_readChild_12 : decode cX6_readChild 12 = .ok (.getfield 27, 3) := by decide +kernel
theorem dX6_readChild_15 : decode cX6_readChild 15 = .ok (.invokevirtual 47, 3) := by decide +kernel
theorem dX6_readChild_18 : decode cX6_readChild 18 = .ok (.return_, 1) := by decide +kernel
theorem dX6_readChild_19 : decode cX6_readChild 19 = .ok (.aload_n 0, 1) := by decide +kernel
theorem dX6_readChild_20 : decode cX6_readChild 20 = .ok (.dup, 1) := by decide +kernel
theorem dX6_readChild_21 : decode cX6_readChild 21 = .ok (.getfield 27, 3) := by decide +kernel
theorem dX6_readChild_24 : decode cX6_readChild 24 = .ok (.iconst 1, 1) := by decide +kernel
theorem dX6_readChild_25 : decode cX6_readChild 25 = .ok (.iadd, 1) := by decide +kernel
theorem dX6_readChild_26 : decode cX6_readChild 26 = .ok (.putfield 27, 3) := by decide +kernel
theorem dX6_readChild_29 : decode cX6_readChild 29 = .ok (.aload_n 0, 1) := by decide +kernel
theorem dX6_readChild_30 : decode cX6_readChild 30 = .ok (.iconst 0, 1) := by decide +kernel
theorem dX6_readChild_31 : decode cX6_readChild 31 = .ok (.iconst 3, 1) := by decide +kernel
theorem dX6_readChild_32 : decode cX6_readChild 32 = .ok (.invokevirtual 51, 3) := by decide +kernel
theorem dX6_readChild_35 : decode cX6_readChild 35 = .ok (.istore_n 2, 1) := by decide +kernel
theorem dX6_readChild_36 : decode cX6_readChild 36 = .ok (.aload_n 0, 1) := by decide +kernel
theorem dX6_readChild_37 : decode cX6_readChild 37 = .ok (.iconst 0, 1) := by decide +kernel
theorem dX6_readChild_38 : decode cX6_readChild 38 = .ok (.bipush 60, 2) := by decide +kernel
theorem dX6_readChild_40 : decode cX6_readChild 40 = .ok (.invokevirtual 51, 3) := by decide +kernel
theorem dX6_readChild_43 : decode cX6_readChild 43 = .ok (.istore_n 3, 1) := by decide +kernel
theorem dX6_readChild_44 : decode cX6_readChild 44 = .ok (.aload_n 0, 1) := by decide +kernel
theorem dX6_readChild_45 : decode cX6_readChild 45 = .ok (.invokevirtual 55, 3) := by decide +kernel
theorem dX6_readChild_48 : decode cX6_readChild 48 = .ok (.aload_n 0, 1) := by decide +kernel
theorem dX6_readChild_49 : decode cX6_readChild 49 = .ok (.getfield 30, 3) := by decide +kernel
theorem dX6_readChild_52 : decode cX6_readChild 52 = .ok (.ifCond .ne 9, 3) := by decide +kernel
theorem dX6_readChild_55 : decode cX6_readChild 55 = .ok (.aload_n 1, 1) := by decide +kernel
theorem dX6_readChild_56 : decode cX6_readChild 56 = .ok (.iload_n 2, 1) := by decide +kernel
theorem dX6_readChild_57 : decode cX6_readChild 57 = .ok (.iload_n 3, 1) := by decide +kernel
theorem dX6_readChild_58 : decode cX6_readChild 58 = .ok (.invokevirtual 77, 3) := by decide +kernel
theorem dX6_readChild_61 : decode cX6_readChild 61 = .ok (.return_, 1) := by decide +kernel
theorem dX6_readDummy_0 : decode cX6_readDummy 0 = .ok (.aload_n 1, 1) := by decide +kernel
theorem dX6_readDummy_1 : decode cX6_readDummy 1 = .ok (.getfield 80, 3) := by decide +kernel
theorem dX6_readDummy_4 : decode cX6_readDummy 4 = .ok (.bipush 6, 2) := by decide +kernel
theorem dX6_readDummy_6 : decode cX6_readDummy 6 = .ok (.if_icmp .lt 13, 3) := by decide +kernel
theorem dX6_readDummy_9 : decode cX6_readDummy 9 = .ok (.aload_n 0, 1) := by decide +kernel
theorem dX6_readDummy_10 : decode cX6_readDummy 10 = .ok (.iconst 3, 1) := by decide +kernel
theorem dX6_readDummy_11 : decode cX6_readDummy 11 = .ok (.aload_n 0, 1) := by decide +kernel
theorem dX6_readDummy_12 : decode cX6_readDummy 12 = .ok (.getfield 27, 3) := by decide +kernel
theorem dX6_readDummy_15 : decode cX6_readDummy 15 = .ok (.invokevirtual 47, 3) := by decide +kernel
theorem dX6_readDummy_18 : decode cX6_readDummy 18 = .ok (.return_, 1) := by decide +kernel
theorem dX6_readDummy_19 : decode cX6_readDummy 19 = .ok (.aload_n 0, 1) := by decide +kernel
theorem dX6_readDummy_20 : decode cX6_readDummy 20 = .ok (.dup, 1) := by decide +kernel
theorem dX6_readDummy_21 : decode cX6_readDummy 21 = .ok (.getfield 27, 3) := by decide +kernel
theorem dX6_readDummy_24 : decode cX6_readDummy 24 = .ok (.iconst 1, 1) := by decide +kernel
theorem dX6_readDummy_25 : decode cX6_readDummy 25 = .ok (.iadd, 1) := by decide +kernel
theorem dX6_readDummy_26 : decode cX6_readDummy 26 = .ok (.putfield 27, 3) := by decide +kernel
theorem dX6_readDummy_29 : decode cX6_readDummy 29 = .ok (.aload_n 0, 1) := by decide +kernel
theorem dX6_readDummy_30 : decode cX6_readDummy 30 = .ok (.iconst 0, 1) := by decide +kernel
theorem dX6_readDummy_31 : decode cX6_readDummy 31 = .ok (.bipush 9, 2) := by decide +kernel
theorem dX6_readDummy_33 : decode cX6_readDummy 33 = .ok (.invokevirtual 51, 3) := by decide +kernel
theorem dX6_readDummy_36 : decode cX6_readDummy 36 = .ok (.istore_n 2, 1) := by decide +kernel
theorem dX6_readDummy_37 : decode cX6_readDummy 37 = .ok (.aload_n 0, 1) := by decide +kernel
theorem dX6_readDummy_38 : decode cX6_readDummy 38 = .ok (.iconst 0, 1) := by decide +kernel
theorem dX6_readDummy_39 : decode cX6_readDummy 39 = .ok (.iconst 3, 1) := by decide +kernel
theorem dX6_readDummy_40 : decode cX6_readDummy 40 = .ok (.invokevirtual 51, 3) := by decide +kernel
theorem dX6_readDummy_43 : decode cX6_readDummy 43 = .ok (.istore_n 3, 1) := by decide +kernel
theorem dX6_readDummy_44 : decode cX6_readDummy 44 = .ok (.aload_n 0, 1) := by decide +kernel
theorem dX6_readDummy_45 : decode cX6_readDummy 45 = .ok (.iconst 0, 1) := by decide +kernel
theorem dX6_readDummy_46 : decode cX6_readDummy 46 = .ok (.bipush 30, 2) := by decide +kernel
theorem dX6_readDummy_48 : decode cX6_readDummy 48 = .ok (.invokevirtual 51, 3) := by decide +kernel
theorem dX6_readDummy_51 : decode cX6_readDummy 51 = .ok (.istore 4, 2) := by decide +kernel
theorem dX6_readDummy_53 : decode cX6_readDummy 53 = .ok (.aload_n 0, 1) := by decide +kernel
theorem dX6_readDummy_54 : decode cX6_readDummy 54 = .ok (.aload_n 1, 1) := by decide +kernel
theorem dX6_readDummy_55 : decode cX6_readDummy 55 = .ok (.invokevirtual 83, 3) := by decide +kernel
theorem dX6_readDummy_58 : decode cX6_readDummy 58 = .ok (.istore 5, 2) := by decide +kernel
theorem dX6_readDummy_60 : decode cX6_readDummy 60 = .ok (.aload_n 0, 1) := by decide +kernel
theorem dX6_readDummy_61 : decode cX6_readDummy 61 = .ok (.invokevirtual 55, 3) := by decide +kernel
theorem dX6_readDummy_64 : decode cX6_readDummy 64 = .ok (.aload_n 0, 1) := by decide +kernel
theorem dX6_readDummy_65 : decode cX6_readDummy 65 = .ok (.getfield 30, 3) := by decide +kernel
theorem dX6_readDummy_68 : decode cX6_readDummy 68 = .ok (.ifCond .ne 13, 3) := by decide +kernel
theorem dX6_readDummy_71 : decode cX6_readDummy 71 = .ok (.aload_n 1, 1) := by decide +kernel
theorem dX6_readDummy_72 : decode cX6_readDummy 72 = .ok (.iload_n 2, 1) := by decide +kernel
theorem dX6_readDummy_73 : decode cX6_readDummy 73 = .ok (.iload_n 3, 1) := by decide +kernel
theorem dX6_readDummy_74 : decode cX6_readDummy 74 = .ok (.iload 4, 2) := by decide +kernel
theorem dX6_readDummy_76 : decode cX6_readDummy 76 = .ok (.iload 5, 2) := by decide +kernel
theorem dX6_readDummy_78 : decode cX6_readDummy 78 = .ok (.invokevirtual 87, 3) := by decide +kernel
theorem dX6_readDummy_81 : decode cX6_readDummy 81 = .ok (.return_, 1) := by decide +kernel
theorem dX6_readOwner_0 : decode cX6_readOwner 0 = .ok (.aload_n 0, 1) := by decide +kernel
theorem dX6_readOwner_1 : decode cX6_readOwner 1 = .ok (.iconst 0, 1) := by decide +kernel
theorem dX6_readOwner_2 : decode cX6_readOwner 2 = .ok (.sipush 999, 3) := by decide +kernel
theorem dX6_readOwner_5 : decode cX6_readOwner 5 = .ok (.invokevirtual 51, 3) := by decide +kernel
theorem dX6_readOwner_8 : decode cX6_readOwner 8 = .ok (.istore_n 2, 1) := by decide +kernel
theorem dX6_readOwner_9 : decode cX6_readOwner 9 = .ok (.aload_n 0, 1) := by decide +kernel
theorem dX6_readOwner_10 : decode cX6_readOwner 10 = .ok (.getfield 30, 3) := by decide +kernel
theorem dX6_readOwner_13 : decode cX6_readOwner 13 = .ok (.ifCond .ne 9, 3) := by decide +kernel
theorem dX6_readOwner_16 : decode cX6_readOwner 16 = .ok (.iload_n 2, 1) := by decide +kernel
theorem dX6_readOwner_17 : decode cX6_readOwner 17 = .ok (.bipush 9, 2) := by decide +kernel
theorem dX6_readOwner_19 : decode cX6_readOwner 19 = .ok (.if_icmp .ne 5, 3) := by decide +kernel
theorem dX6_readOwner_22 : decode cX6_readOwner 22 = .ok (.iload_n 2, 1) := by decide +kernel
theorem dX6_readOwner_23 : decode cX6_readOwner 23 = .ok (.ireturn, 1) := by decide +kernel
theorem dX6_readOwner_24 : decode cX6_readOwner 24 = .ok (.aload_n 1, 1) := by decide +kernel
theorem dX6_readOwner_25 : decode cX6_readOwner 25 = .ok (.iload_n 2, 1) := by decide +kernel
theorem dX6_readOwner_26 : decode cX6_readOwner 26 = .ok (.invokevirtual 91, 3) := by decide +kernel
theorem dX6_readOwner_29 : decode cX6_readOwner 29 = .ok (.ifCond .ne 15, 3) := by decide +kernel
theorem dX6_readOwner_32 : decode cX6_readOwner 32 = .ok (.aload_n 0, 1) := by decide +kernel
theorem dX6_readOwner_33 : decode cX6_readOwner 33 = .ok (.iconst 2, 1) := by decide +kernel
theorem dX6_readOwner_34 : decode cX6_readOwner 34 = .ok (.aload_n 0, 1) := by decide +kernel
theorem dX6_readOwner_35 : decode cX6_readOwner 35 = .ok (.getfield 95, 3) := by decide +kernel
theorem dX6_readOwner_38 : decode cX6_readOwner 38 = .ok (.invokevirtual 47, 3) := by decide +kernel
theorem dX6_readOwner_41 : decode cX6_readOwner 41 = .ok (.goto 22, 3) := by decide +kernel
theorem dX6_readOwner_44 : decode cX6_readOwner 44 = .ok (.aload_n 1, 1) := by decide +kernel
theorem dX6_readOwner_45 : decode cX6_readOwner 45 = .ok (.getfield 98, 3) := by decide +kernel
theorem dX6_readOwner_48 : decode cX6_readOwner 48 = .ok (.iload_n 2, 1) := by decide +kernel
theorem dX6_readOwner_49 : decode cX6_readOwner 49 = .ok (.iaload, 1) := by decide +kernel
theorem dX6_readOwner_50 : decode cX6_readOwner 50 = .ok (.iconst (-1), 1) := by decide +kernel
theorem dX6_readOwner_51 : decode cX6_readOwner 51 = .ok (.if_icmp .eq 12, 3) := by decide +kernel
theorem dX6_readOwner_54 : decode cX6_readOwner 54 = .ok (.aload_n 0, 1) := by decide +kernel
theorem dX6_readOwner_55 : decode cX6_readOwner 55 = .ok (.iconst 4, 1) := by decide +kernel
theorem dX6_readOwner_56 : decode cX6_readOwner 56 = .ok (.aload_n 0, 1) := by decide +kernel
theorem dX6_readOwner_57 : decode cX6_readOwner 57 = .ok (.getfield 95, 3) := by decide +kernel
theorem dX6_readOwner_60 : decode cX6_readOwner 60 = .ok (.invokevirtual 47, 3) := by decide +kernel
theorem dX6_readOwner_63 : decode cX6_readOwner 63 = .ok (.iload_n 2, 1) := by decide +kernel
theorem dX6_readOwner_64 : decode cX6_readOwner 64 = .ok (.ireturn, 1) := by decide +kernel
theorem dX6_readNumber_0 : decode cX6_readNumber 0 = .ok (.aload_n 0, 1) := by decide +kernel
theorem dX6_readNumber_1 : decode cX6_readNumber 1 = .ok (.getfield 30, 3) := by decide +kernel
theorem dX6_readNumber_4 : decode cX6_readNumber 4 = .ok (.ifCond .eq 5, 3) := by decide +kernel
theorem dX6_readNumber_7 : decode cX6_readNumber 7 = .ok (.iconst 0, 1) := by decide +kernel
theorem dX6_readNumber_8 : decode cX6_readNumber 8 = .ok (.ireturn, 1) := by decide +kernel
theorem dX6_readNumber_9 : decode cX6_readNumber 9 = .ok (.aload_n 0, 1) := by decide +kernel
theorem dX6_readNumber_10 : decode cX6_readNumber 10 = .ok (.invokevirtual 33, 3) := by decide +kernel
theorem dX6_readNumber_13 : decode cX6_readNumber 13 = .ok (.aload_n 0, 1) := by decide +kernel
theorem dX6_readNumber_14 : decode cX6_readNumber 14 = .ok (.invokevirtual 43, 3) := by decide +kernel
theorem dX6_readNumber_17 : decode cX6_readNumber 17 = .ok (.invokestatic 101, 3) := by decide +kernel
theorem dX6_readNumber_20 : decode cX6_readNumber 20 = .ok (.ifCond .ne 14, 3) := by decide +kernel
theorem dX6_readNumber_23 : decode cX6_readNumber 23 = .ok (.aload_n 0, 1) := by decide +kernel
theorem dX6_readNumber_24 : decode cX6_readNumber 24 = .ok (.iconst 1, 1) := by decide +kernel
