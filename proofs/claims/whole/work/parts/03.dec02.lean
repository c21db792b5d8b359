theorem dX8_hand_58 : decode cX8_hand 58 = .ok (.getfield 27, 3) := by decide +kernel
theorem dX8_hand_61 : decode cX8_hand 61 = .ok (.getfield 80, 3) := by decide +kernel
theorem dX8_hand_64 : decode cX8_hand 64 = .ok (.iastore, 1) := by decide +kernel
theorem dX8_hand_65 : decode cX8_hand 65 = .ok (.aload_n 0, 1) := by decide +kernel
theorem dX8_hand_66 : decode cX8_hand 66 = .ok (.getfield 18, 3) := by decide +kernel
theorem dX8_hand_69 : decode cX8_hand 69 = .ok (.iload_n 1, 1) := by decide +kernel
theorem dX8_hand_70 : decode cX8_hand 70 = .ok (.dup2, 1) := by decide +kernel
theorem dX8_hand_71 : decode cX8_hand 71 = .ok (.iaload, 1) := by decide +kernel
theorem dX8_hand_72 : decode cX8_hand 72 = .ok (.iconst 1, 1) := by decide +kernel
theorem dX8_hand_73 : decode cX8_hand 73 = .ok (.iload_n 2, 1) := by decide +kernel
theorem dX8_hand_74 : decode cX8_hand 74 = .ok (.ishl, 1) := by decide +kernel
theorem dX8_hand_75 : decode cX8_hand 75 = .ok (.ior, 1) := by decide +kernel
theorem dX8_hand_76 : decode cX8_hand 76 = .ok (.iastore, 1) := by decide +kernel
theorem dX8_hand_77 : decode cX8_hand 77 = .ok (.return_, 1) := by decide +kernel
theorem dX8_boilAll_0 : decode cX8_boilAll 0 = .ok (.iconst 0, 1) := by decide +kernel
theorem dX8_boilAll_1 : decode cX8_boilAll 1 = .ok (.istore_n 2, 1) := by decide +kernel
theorem dX8_boilAll_2 : decode cX8_boilAll 2 = .ok (.iload_n 2, 1) := by decide +kernel
theorem dX8_boilAll_3 : decode cX8_boilAll 3 = .ok (.aload_n 0, 1) := by decide +kernel
theorem dX8_boilAll_4 : decode cX8_boilAll 4 = .ok (.getfield 27, 3) := by decide +kernel
theorem dX8_boilAll_7 : decode cX8_boilAll 7 = .ok (.getfield 51, 3) := by decide +kernel
theorem dX8_boilAll_10 : decode cX8_boilAll 10 = .ok (.if_icmp .ge 34, 3) := by decide +kernel
theorem dX8_boilAll_13 : decode cX8_boilAll 13 = .ok (.iload_n 1, 1) := by decide +kernel
theorem dX8_boilAll_14 : decode cX8_boilAll 14 = .ok (.iload_n 2, 1) := by decide +kernel
theorem dX8_boilAll_15 : decode cX8_boilAll 15 = .ok (.invokestatic 71, 3) := by decide +kernel
theorem dX8_boilAll_18 : decode cX8_boilAll 18 = .ok (.ifCond .eq 20, 3) := by decide +kernel
theorem dX8_boilAll_21 : decode cX8_boilAll 21 = .ok (.aload_n 0, 1) := by decide +kernel
theorem dX8_boilAll_22 : decode cX8_boilAll 22 = .ok (.getfield 18, 3) := by decide +kernel
theorem dX8_boilAll_25 : decode cX8_boilAll 25 = .ok (.iload_n 2, 1) := by decide +kernel
theorem dX8_boilAll_26 : decode cX8_boilAll 26 = .ok (.iconst 0, 1) := by decide +kernel
theorem dX8_boilAll_27 : decode cX8_boilAll 27 = .ok (.iastore, 1) := by decide +kernel
theorem dX8_boilAll_28 : decode cX8_boilAll 28 = .ok (.aload_n 0, 1) := by decide +kernel
theorem dX8_boilAll_29 : decode cX8_boilAll 29 = .ok (.getfield 15, 3) := by decide +kernel
theorem dX8_boilAll_32 : decode cX8_boilAll 32 = .ok (.iload_n 2, 1) := by decide +kernel
theorem dX8_boilAll_33 : decode cX8_boilAll 33 = .ok (.dup2, 1) := by decide +kernel
theorem dX8_boilAll_34 : decode cX8_boilAll 34 = .ok (.iaload, 1) := by decide +kernel
theorem dX8_boilAll_35 : decode cX8_boilAll 35 = .ok (.iconst 1, 1) := by decide +kernel
theorem dX8_boilAll_36 : decode cX8_boilAll 36 = .ok (.iadd, 1) := by decide +kernel
theorem dX8_boilAll_37 : decode cX8_boilAll 37 = .ok (.iastore, 1) := by decide +kernel
theorem dX8_boilAll_38 : decode cX8_boilAll 38 = .ok (.iinc 2 1, 3) := by decide +kernel
theorem dX8_boilAll_41 : decode cX8_boilAll 41 = .ok (.goto (-39), 3) := by decide +kernel
theorem dX8_boilAll_44 : decode cX8_boilAll 44 = .ok (.return_, 1) := by decide +kernel
theorem dX8_passHour_0 : decode cX8_passHour 0 = .ok (.aload_n 0, 1) := by decide +kernel
theorem dX8_passHour_1 : decode cX8_passHour 1 = .ok (.invokevirtual 83, 3) := by decide +kernel
theorem dX8_passHour_4 : decode cX8_passHour 4 = .ok (.istore_n 1, 1) := by decide +kernel
theorem dX8_passHour_5 : decode cX8_passHour 5 = .ok (.iconst 0, 1) := by decide +kernel
theorem dX8_passHour_6 : decode cX8_passHour 6 = .ok (.istore_n 2, 1) := by decide +kernel
theorem dX8_passHour_7 : decode cX8_passHour 7 = .ok (.iload_n 2, 1) := by decide +kernel
theorem dX8_passHour_8 : decode cX8_passHour 8 = .ok (.aload_n 0, 1) := by decide +kernel
theorem dX8_passHour_9 : decode cX8_passHour 9 = .ok (.getfield 27, 3) := by decide +kernel
theorem dX8_passHour_12 : decode cX8_passHour 12 = .ok (.getfield 57, 3) := by decide +kernel
theorem dX8_passHour_15 : decode cX8_passHour 15 = .ok (.if_icmp .ge 46, 3) := by decide +kernel
theorem dX8_passHour_18 : decode cX8_passHour 18 = .ok (.iload_n 1, 1) := by decide +kernel
theorem dX8_passHour_19 : decode cX8_passHour 19 = .ok (.iload_n 2, 1) := by decide +kernel
theorem dX8_passHour_20 : decode cX8_passHour 20 = .ok (.invokestatic 71, 3) := by decide +kernel
theorem dX8_passHour_23 : decode cX8_passHour 23 = .ok (.ifCond .ne 13, 3) := by decide +kernel
theorem dX8_passHour_26 : decode cX8_passHour 26 = .ok (.aload_n 0, 1) := by decide +kernel
theorem dX8_passHour_27 : decode cX8_passHour 27 = .ok (.getfield 24, 3) := by decide +kernel
theorem dX8_passHour_30 : decode cX8_passHour 30 = .ok (.iload_n 2, 1) := by decide +kernel
theorem dX8_passHour_31 : decode cX8_passHour 31 = .ok (.dup2, 1) := by decide +kernel
theorem dX8_passHour_32 : decode cX8_passHour 32 = .ok (.iaload, 1) := by decide +kernel
theorem dX8_passHour_33 : decode cX8_passHour 33 = .ok (.iconst 1, 1) := by decide +kernel
theorem dX8_passHour_34 : decode cX8_passHour 34 = .ok (.iadd, 1) := by decide +kernel
theorem dX8_passHour_35 : decode cX8_passHour 35 = .ok (.iastore, 1) := by decide +kernel
theorem dX8_passHour_36 : decode cX8_passHour 36 = .ok (.aload_n 0, 1) := by decide +kernel
theorem dX8_passHour_37 : decode cX8_passHour 37 = .ok (.getfield 21, 3) := by decide +kernel
theorem dX8_passHour_40 : decode cX8_passHour 40 = .ok (.iload_n 2, 1) := by decide +kernel
theorem dX8_passHour_41 : decode cX8_passHour 41 = .ok (.iaload, 1) := by decide +kernel
theorem dX8_passHour_42 : decode cX8_passHour 42 = .ok (.ifCond .le 13, 3) := by decide +kernel
theorem dX8_passHour_45 : decode cX8_passHour 45 = .ok (.aload_n 0, 1) := by decide +kernel
theorem dX8_passHour_46 : decode cX8_passHour 46 = .ok (.getfield 21, 3) := by decide +kernel
theorem dX8_passHour_49 : decode cX8_passHour 49 = .ok (.iload_n 2, 1) := by decide +kernel
theorem dX8_passHour_50 : decode cX8_passHour 50 = .ok (.dup2, 1) := by decide +kernel
theorem dX8_passHour_51 : decode cX8_passHour 51 = .ok (.iaload, 1) := by decide +kernel
theorem dX8_passHour_52 : decode cX8_passHour 52 = .ok (.iconst 1, 1) := by decide +kernel
theorem dX8_passHour_53 : decode cX8_passHour 53 = .ok (.isub, 1) := by decide +kernel
theorem dX8_passHour_54 : decode cX8_passHour 54 = .ok (.iastore, 1) := by decide +kernel
theorem dX8_passHour_55 : decode cX8_passHour 55 = .ok (.iinc 2 1, 3) := by decide +kernel
theorem dX8_passHour_58 : decode cX8_passHour 58 = .ok (.goto (-51), 3) := by decide +kernel
theorem dX8_passHour_61 : decode cX8_passHour 61 = .ok (.aload_n 0, 1) := by decide +kernel
theorem dX8_passHour_62 : decode cX8_passHour 62 = .ok (.dup, 1) := by decide +kernel
theorem dX8_passHour_63 : decode cX8_passHour 63 = .ok (.getfield 31, 3) := by decide +kernel
theorem dX8_passHour_66 : decode cX8_passHour 66 = .ok (.iconst 1, 1) := by decide +kernel
theorem dX8_passHour_67 : decode cX8_passHour 67 = .ok (.iadd, 1) := by decide +kernel
theorem dX8_passHour_68 : decode cX8_passHour 68 = .ok (.putfield 31, 3) := by decide +kernel
theorem dX8_passHour_71 : decode cX8_passHour 71 = .ok (.return_, 1) := by decide +kernel
theorem dX8_tradeCalms_0 : decode cX8_tradeCalms 0 = .ok (.aload_n 0, 1) := by decide +kernel
theorem dX8_tradeCalms_1 : decode cX8_tradeCalms 1 = .ok (.iload_n 1, 1) := by decide +kernel
theorem dX8_tradeCalms_2 : decode cX8_tradeCalms 2 = .ok (.invokevirtual 60, 3) := by decide +kernel
theorem dX8_tradeCalms_5 : decode cX8_tradeCalms 5 = .ok (.istore_n 3, 1) := by decide +kernel
theorem dX8_tradeCalms_6 : decode cX8_tradeCalms 6 = .ok (.aload_n 0, 1) := by decide +kernel
theorem dX8_tradeCalms_7 : decode cX8_tradeCalms 7 = .ok (.iload_n 2, 1) := by decide +kernel
theorem dX8_tradeCalms_8 : decode cX8_tradeCalms 8 = .ok (.invokevirtual 60, 3) := by decide +kernel
theorem dX8_tradeCalms_11 : decode cX8_tradeCalms 11 = .ok (.istore 4, 2) := by decide +kernel
theorem dX8_tradeCalms_13 : decode cX8_tradeCalms 13 = .ok (.iload_n 3, 1) := by decide +kernel
theorem dX8_tradeCalms_14 : decode cX8_tradeCalms 14 = .ok (.iconst (-1), 1) := by decide +kernel
theorem dX8_tradeCalms_15 : decode cX8_tradeCalms 15 = .ok (.if_icmp .eq 9, 3) := by decide +kernel
theorem dX8_tradeCalms_18 : decode cX8_tradeCalms 18 = .ok (.iload 4, 2) := by decide +kernel
theorem dX8_tradeCalms_20 : decode cX8_tradeCalms 20 = .ok (.iconst (-1), 1) := by decide +kernel
theorem dX8_tradeCalms_21 : decode cX8_tradeCalms 21 = .ok (.if_icmp .ne 5, 3) := by decide +kernel
theorem dX8_tradeCalms_24 : decode cX8_tradeCalms 24 = .ok (.iconst 0, 1) := by decide +kernel
theorem dX8_tradeCalms_25 : decode cX8_tradeCalms 25 = .ok (.ireturn, 1) := by decide +kernel
theorem dX8_tradeCalms_26 : decode cX8_tradeCalms 26 = .ok (.aload_n 0, 1) := by decide +kernel
theorem dX8_tradeCalms_27 : decode cX8_tradeCalms 27 = .ok (.iload_n 1, 1) := by decide +kernel
theorem dX8_tradeCalms_28 : decode cX8_tradeCalms 28 = .ok (.iload_n 3, 1) := by decide +kernel
theorem dX8_tradeCalms_29 : decode cX8_tradeCalms 29 = .ok (.invokevirtual 86, 3) := by decide +kernel
theorem dX8_tradeCalms_32 : decode cX8_tradeCalms 32 = .ok (.aload_n 0, 1) := by decide +kernel
theorem dX8_tradeCalms_33 : decode cX8_tradeCalms 33 = .ok (.iload_n 2, 1) := by decide +kernel
theorem dX8_tradeCalms_34 : decode cX8_tradeCalms 34 = .ok (.iload 4, 2) := by decide +kernel
theorem dX8_tradeCalms_36 : decode cX8_tradeCalms 36 = .ok (.invokevirtual 86, 3) := by decide +kernel
theorem dX8_tradeCalms_39 : decode cX8_tradeCalms 39 = .ok (.iadd, 1) := by decide +kernel
theorem dX8_tradeCalms_40 : decode cX8_tradeCalms 40 = .ok (.aload_n 0, 1) := by decide +kernel
theorem dX8_tradeCalms_41 : decode cX8_tradeCalms 41 = .ok (.iload_n 1, 1) := by decide +kernel
theorem dX8_tradeCalms_42 : decode cX8_tradeCalms 42 = .ok (.iload 4, 2) := by decide +kernel
theorem dX8_tradeCalms_44 : decode cX8_tradeCalms 44 = .ok (.invokevirtual 86, 3) := by decide +kernel
theorem dX8_tradeCalms_47 : decode cX8_tradeCalms 47 = .ok (.aload_n 0, 1) := by decide +kernel
theorem dX8_tradeCalms_48 : decode cX8_tradeCalms 48 = .ok (.iload_n 2, 1) := by decide +kernel
theorem dX8_tradeCalms_49 : decode cX8_tradeCalms 49 = .ok (.iload_n 3, 1) := by decide +kernel
theorem dX8_tradeCalms_50 : decode cX8_tradeCalms 50 = .ok (.invokevirtual 86, 3) := by decide +kernel
theorem dX8_tradeCalms_53 : decode cX8_tradeCalms 53 = .ok (.iadd, 1) := by decide +kernel
theorem dX8_tradeCalms_54 : decode cX8_tradeCalms 54 = .ok (.if_icmp .ge 7, 3) := by decide +kernel
theorem dX8_tradeCalms_57 : decode cX8_tradeCalms 57 = .ok (.iconst 1, 1) := by decide +kernel
theorem dX8_tradeCalms_58 : decode cX8_tradeCalms 58 = .ok (.goto 4, 3) := by decide +kernel
theorem dX8_tradeCalms_61 : decode cX8_tradeCalms 61 = .ok (.iconst 0, 1) := by decide +kernel
theorem dX8_tradeCalms_62 : decode cX8_tradeCalms 62 = .ok (.ireturn, 1) := by decide +kernel
theorem dX8_calmOf_0 : decode cX8_calmOf 0 = .ok (.aload_n 0, 1) := by decide +kernel
theorem dX8_calmOf_1 : decode cX8_calmOf 1 = .ok (.getfield 27, 3) := by decide +kernel
theorem dX8_calmOf_4 : decode cX8_calmOf 4 = .ok (.iload_n 1, 1) := by decide +kernel
theorem dX8_calmOf_5 : decode cX8_calmOf 5 = .ok (.iload_n 2, 1) := by decide +kernel
theorem dX8_calmOf_6 : decode cX8_calmOf 6 = .ok (.invokevirtual 63, 3) := by decide +kernel
theorem dX8_calmOf_9 : decode cX8_calmOf 9 = .ok (.ifCond .eq 7, 3) := by decide +kernel
theorem dX8_calmOf_12 : decode cX8_calmOf 12 = .ok (.iconst 1, 1) := by decide +kernel
theorem dX8_calmOf_13 : decode cX8_calmOf 13 = .ok (.goto 4, 3) := by decide +kernel
theorem dX8_calmOf_16 : decode cX8_calmOf 16 = .ok (.iconst 0, 1) := by decide +kernel
theorem dX8_calmOf_17 : decode cX8_calmOf 17 = .ok (.ireturn, 1) := by decide +kernel
theorem dX9_init_0 : decode cX9_init 0 = .ok (.aload_n 0, 1) := by decide +kernel
theorem dX9_init_1 : decode cX9_init 1 = .ok (.invokespecial 3, 3) := by decide +kernel
theorem dX9_init_4 : decode cX9_init 4 = .ok (.aload_n 0, 1) := by decide +kernel
theorem dX9_init_5 : decode cX9_init 5 = .ok (.new 9, 3) := by decide +kernel
theorem dX9_init_8 : decode cX9_init 8 = .ok (.dup, 1) := by decide +kernel
theorem dX9_init_9 : decode cX9_init 9 = .ok (.invokespecial 11, 3) := by decide +kernel
theorem dX9_init_12 : decode cX9_init 12 = .ok (.putfield 12, 3) := by decide +kernel
theorem dX9_init_15 : decode cX9_init 15 = .ok (.aload_n 0, 1) := by decide +kernel
theorem dX9_init_16 : decode cX9_init 16 = .ok (.new 16, 3) := by decide +kernel
theorem dX9_init_19 : decode cX9_init 19 = .ok (.dup, 1) := by decide +kernel
theorem dX9_init_20 : decode cX9_init 20 = .ok (.invokespecial 18, 3) := by decide +kernel
theorem dX9_init_23 : decode cX9_init 23 = .ok (.putfield 19, 3) := by decide +kernel
theorem dX9_init_26 : decode cX9_init 26 = .ok (.aload_n 0, 1) := by decide +kernel
theorem dX9_init_27 : decode cX9_init 27 = .ok (.new 16, 3) := by decide +kernel
theorem dX9_init_30 : decode cX9_init 30 = .ok (.dup, 1) := by decide +kernel
theorem dX9_init_31 : decode cX9_init 31 = .ok (.invokespecial 18, 3) := by decide +kernel
theorem dX9_init_34 : decode cX9_init 34 = .ok (.putfield 23, 3) := by decide +kernel
theorem dX9_init_37 : decode cX9_init 37 = .ok (.aload_n 0, 1) := by decide +kernel
theorem dX9_init_38 : decode cX9_init 38 = .ok (.new 26, 3) := by decide +kernel
theorem dX9_init_41 : decode cX9_init 41 = .ok (.dup, 1) := by decide +kernel
theorem dX9_init_42 : decode cX9_init 42 = .ok (.aload_n 0, 1) := by decide +kernel
theorem dX9_init_43 : decode cX9_init 43 = .ok (.getfield 19, 3) := by decide +kernel
theorem dX9_init_46 : decode cX9_init 46 = .ok (.invokespecial 28, 3) := by decide +kernel
theorem dX9_init_49 : decode cX9_init 49 = .ok (.putfield 31, 3) := by decide +kernel
theorem dX9_init_52 : decode cX9_init 52 = .ok (.aload_n 0, 1) := by decide +kernel
theorem dX9_init_53 : decode cX9_init 53 = .ok (.new 35, 3) := by decide +kernel
theorem dX9_init_56 : decode cX9_init 56 = .ok (.dup, 1) := by decide +kernel
theorem dX9_init_57 : decode cX9_init 57 = .ok (.invokespecial 37, 3) := by decide +kernel
theorem dX9_init_60 : decode cX9_init 60 = .ok (.putfield 38, 3) := by decide +kernel
theorem dX9_init_63 : decode cX9_init 63 = .ok (.aload_n 0, 1) := by decide +kernel
theorem dX9_init_64 : decode cX9_init 64 = .ok (.new 42, 3) := by decide +kernel
theorem dX9_init_67 : decode cX9_init 67 = .ok (.dup, 1) := by decide +kernel
theorem dX9_init_68 : decode cX9_init 68 = .ok (.invokespecial 44, 3) := by decide +kernel
theorem dX9_init_71 : decode cX9_init 71 = .ok (.putfield 45, 3) := by decide +kernel
theorem dX9_init_74 : decode cX9_init 74 = .ok (.aload_n 0, 1) := by decide +kernel
theorem dX9_init_75 : decode cX9_init 75 = .ok (.new 49, 3) := by decide +kernel
theorem dX9_init_78 : decode cX9_init 78 = .ok (.dup, 1) := by decide +kernel
theorem dX9_init_79 : decode cX9_init 79 = .ok (.aload_n 0, 1) := by decide +kernel
theorem dX9_init_80 : decode cX9_init 80 = .ok (.getfield 19, 3) := by decide +kernel
theorem dX9_init_83 : decode cX9_init 83 = .ok (.invokespecial 51, 3) := by decide +kernel
theorem dX9_init_86 : decode cX9_init 86 = .ok (.putfield 52, 3) := by decide +kernel
theorem dX9_init_89 : decode cX9_init 89 = .ok (.aload_n 0, 1) := by decide +kernel
theorem dX9_init_90 : decode cX9_init 90 = .ok (.new 56, 3) := by decide +kernel
theorem dX9_init_93 : decode cX9_init 93 = .ok (.dup, 1) := by decide +kernel
theorem dX9_init_94 : decode cX9_init 94 = .ok (.invokespecial 58, 3) := by decide +kernel
theorem dX9_init_97 : decode cX9_init 97 = .ok (.putfield 59, 3) := by decide +kernel
theorem dX9_init_100 : decode cX9_init 100 = .ok (.aload_n 0, 1) := by decide +kernel
theorem dX9_init_101 : decode cX9_init 101 = .ok (.new 63, 3) := by decide +kernel
theorem dX9_init_104 : decode cX9_init 104 = .ok (.dup, 1) := by decide +kernel
theorem dX9_init_105 : decode cX9_init 105 = .ok (.invokespecial 65, 3) := by decide +kernel
theorem dX9_init_108 : decode cX9_init 108 = .ok (.putfield 66, 3) := by decide +kernel
theorem dX9_init_111 : decode cX9_init 111 = .ok (.aload_n 0, 1) := by decide +kernel
theorem dX9_init_112 : decode cX9_init 112 = .ok (.iconst 2, 1) := by decide +kernel
theorem dX9_init_113 : decode cX9_init 113 = .ok (.anewarray 70, 3) := by decide +kernel
theorem dX9_init_116 : decode cX9_init 116 = .ok (.putfield 72, 3) := by decide +kernel
theorem dX9_init_119 : decode cX9_init 119 = .ok (.iconst 0, 1) := by decide +kernel
theorem dX9_init_120 : decode cX9_init 120 = .ok (.istore_n 1, 1) := by decide +kernel
theorem dX9_init_121 : decode cX9_init 121 = .ok (.iload_n 1, 1) := by decide +kernel
theorem dX9_init_122 : decode cX9_init 122 = .ok (.iconst 2, 1) := by decide +kernel
theorem dX9_init_123 : decode cX9_init 123 = .ok (.if_icmp .ge 22, 3) := by decide +kernel
theorem dX9_init_126 : decode cX9_init 126 = .ok (.aload_n 0, 1) := by decide +kernel
theorem dX9_init_127 : decode cX9_init 127 = .ok (.getfield 72, 3) := by decide +kernel
theorem dX9_init_130 : decode cX9_init 130 = .ok (.iload_n 1, 1) := by decide +kernel
theorem dX9_init_131 : decode cX9_init 131 = .ok (.new 70, 3) := by decide +kernel
theorem dX9_init_134 : decode cX9_init 134 = .ok (.dup, 1) := by decide +kernel
theorem dX9_init_135 : decode cX9_init 135 = .ok (.invokespecial 76, 3) := by decide +kernel
theorem dX9_init_138 : decode cX9_init 138 = .ok (.aastore, 1) := by decide +kernel
theorem dX9_init_139 : decode cX9_init 139 = .ok (.iinc 1 1, 3) := by decide +kernel
theorem dX9_init_142 : decode cX9_init 142 = .ok (.goto (-21), 3) := by decide +kernel
theorem dX9_init_145 : decode cX9_init 145 = .ok (.aload_n 0, 1) := by decide +kernel
theorem dX9_init_146 : decode cX9_init 146 = .ok (.bipush 20, 2) := by decide +kernel
theorem dX9_init_148 : decode cX9_init 148 = .ok (.newarray .int, 2) := by decide +kernel
theorem dX9_init_150 : decode cX9_init 150 = .ok (.putfield 77, 3) := by decide +kernel
theorem dX9_init_153 : decode cX9_init 153 = .ok (.return_, 1) := by decide +kernel
theorem dX9_feed_0 : decode cX9_feed 0 = .ok (.iload_n 1, 1) := by decide +kernel
theorem dX9_feed_1 : decode cX9_feed 1 = .ok (.ifCond .lt 10, 3) := by decide +kernel
theorem dX9_feed_4 : decode cX9_feed 4 = .ok (.iload_n 1, 1) := by decide +kernel
theorem dX9_feed_5 : decode cX9_feed 5 = .ok (.sipush 255, 3) := by decide +kernel
theorem dX9_feed_8 : decode cX9_feed 8 = .ok (.if_icmp .le 6, 3) := by decide +kernel
theorem dX9_feed_11 : decode cX9_feed 11 = .ok (.ldc 81, 2) := by decide +kernel
theorem dX9_feed_13 : decode cX9_feed 13 = .ok (.ireturn, 1) := by decide +kernel
theorem dX9_feed_14 : decode cX9_feed 14 = .ok (.aload_n 0, 1) := by decide +kernel
theorem dX9_feed_15 : decode cX9_feed 15 = .ok (.getfield 12, 3) := by decide +kernel
theorem dX9_feed_18 : decode cX9_feed 18 = .ok (.iload_n 1, 1) := by decide +kernel
theorem dX9_feed_19 : decode cX9_feed 19 = .ok (.invokevirtual 82, 3) := by decide +kernel
theorem dX9_feed_22 : decode cX9_feed 22 = .ok (.ifCond .eq 13, 3) := by decide +kernel
theorem dX9_feed_25 : decode cX9_feed 25 = .ok (.aload_n 0, 1) := by decide +kernel
theorem dX9_feed_26 : decode cX9_feed 26 = .ok (.getfield 12, 3) := by decide +kernel
theorem dX9_feed_29 : decode cX9_feed 29 = .ok (.getfield 86, 3) := by decide +kernel
theorem dX9_feed_32 : decode cX9_feed 32 = .ok (.goto 5, 3) := by decide +kernel
theorem dX9_feed_35 : decode cX9_feed 35 = .ok (.ldc 90, 2) := by decide +kernel
theorem dX9_feed_37 : decode cX9_feed 37 = .ok (.ireturn, 1) := by decide +kernel
theorem dX9_nursery_0 : decode cX9_nursery 0 = .ok (.aload_n 0, 1) := by decide +kernel
theorem dX9_nursery_1 : decode cX9_nursery 1 = .ok (.getfield 12, 3) := by decide +kernel
theorem dX9_nursery_4 : decode cX9_nursery 4 = .ok (.aload_n 0, 1) := by decide +kernel
theorem dX9_nursery_5 : decode cX9_nursery 5 = .ok (.getfield 23, 3) := by decide +kernel
theorem dX9_nursery_8 : decode cX9_nursery 8 = .ok (.invokevirtual 91, 3) := by decide +kernel
theorem dX9_nursery_11 : decode cX9_nursery 11 = .ok (.istore_n 1, 1) := by decide +kernel
theorem dX9_nursery_12 : decode cX9_nursery 12 = .ok (.aload_n 0, 1) := by decide +kernel
theorem dX9_nursery_13 : decode cX9_nursery 13 = .ok (.getfield 12, 3) := by decide +kernel
theorem dX9_nursery_16 : decode cX9_nursery 16 = .ok (.iconst 0, 1) := by decide +kernel
theorem dX9_nursery_17 : decode cX9_nursery 17 = .ok (.putfield 86, 3) := by decide +kernel
theorem dX9_nursery_20 : decode cX9_nursery 20 = .ok (.iload_n 1, 1) := by decide +kernel
theorem dX9_nursery_21 : decode cX9_nursery 21 = .ok (.ifCond .ne 14, 3) := by decide +kernel
theorem dX9_nursery_24 : decode cX9_nursery 24 = .ok (.bipush (-10), 2) := by decide +kernel
theorem dX9_nursery_26 : decode cX9_nursery 26 = .ok (.aload_n 0, 1) := by decide +kernel
theorem dX9_nursery_27 : decode cX9_nursery 27 = .ok (.getfield 12, 3) := by decide +kernel
theorem dX9_nursery_30 : decode cX9_nursery 30 = .ok (.getfield 95, 3) := by decide +kernel
theorem dX9_nursery_33 : decode cX9_nursery 33 = .ok (.isub, 1) := by decide +kernel
theorem dX9_nursery_34 : decode cX9_nursery 34 = .ok (.ireturn, 1) := by decide +kernel
theorem dX9_nursery_35 : decode cX9_nursery 35 = .ok (.aload_n 0, 1) := by decide +kernel
theorem dX9_nursery_36 : decode cX9_nursery 36 = .ok (.getfield 19, 3) := by decide +kernel
theorem dX9_nursery_39 : decode cX9_nursery 39 = .ok (.aload_n 0, 1) := by decide +kernel
theorem dX9_nursery_40 : decode cX9_nursery 40 = .ok (.getfield 23, 3) := by decide +kernel
theorem dX9_nursery_43 : decode cX9_nursery 43 = .ok (.invokevirtual 98, 3) := by decide +kernel
theorem dX9_nursery_46 : decode cX9_nursery 46 = .ok (.aload_n 0, 1) := by decide +kernel
theorem dX9_nursery_47 : decode cX9_nursery 47 = .ok (.getfield 31, 3) := by decide +kernel
theorem dX9_nursery_50 : decode cX9_nursery 50 = .ok (.invokevirtual 101, 3) := by decide +kernel
theorem dX9_nursery_53 : decode cX9_nursery 53 = .ok (.aload_n 0, 1) := by decide +kernel
theorem dX9_nursery_54 : decode cX9_nursery 54 = .ok (.getfield 38, 3) := by decide +kernel
theorem dX9_nursery_57 : decode cX9_nursery 57 = .ok (.invokevirtual 104, 3) := by decide +kernel
theorem dX9_nursery_60 : decode cX9_nursery 60 = .ok (.aload_n 0, 1) := by decide +kernel
theorem dX9_nursery_61 : decode cX9_nursery 61 = .ok (.getfield 52, 3) := by decide +kernel
theorem dX9_nursery_64 : decode cX9_nursery 64 = .ok (.invokevirtual 107, 3) := by decide +kernel
theorem dX9_nursery_67 : decode cX9_nursery 67 = .ok (.aload_n 0, 1) := by decide +kernel
theorem dX9_nursery_68 : decode cX9_nursery 68 = .ok (.getfield 59, 3) := by decide +kernel
theorem dX9_nursery_71 : decode cX9_nursery 71 = .ok (.iconst 0, 1) := by decide +kernel
theorem dX9_nursery_72 : decode cX9_nursery 72 = .ok (.putfield 110, 3) := by decide +kernel
theorem dX9_nursery_75 : decode cX9_nursery 75 = .ok (.aload_n 0, 1) := by decide +kernel
theorem dX9_nursery_76 : decode cX9_nursery 76 = .ok (.getfield 72, 3) := by decide +kernel
theorem dX9_nursery_79 : decode cX9_nursery 79 = .ok (.astore_n 2, 1) := by decide +kernel
theorem dX9_nursery_80 : decode cX9_nursery 80 = .ok (.aload_n 2, 1) := by decide +kernel
theorem dX9_nursery_81 : decode cX9_nursery 81 = .ok (.arraylength, 1) := by decide +kernel
theorem dX9_nursery_82 : decode cX9_nursery 82 = .ok (.istore_n 3, 1) := by decide +kernel
theorem dX9_nursery_83 : decode cX9_nursery 83 = .ok (.iconst 0, 1) := by decide +kernel
theorem dX9_nursery_84 : decode cX9_nursery 84 = .ok (.istore 4, 2) := by decide +kernel
theorem dX9_nursery_86 : decode cX9_nursery 86 = .ok (.iload 4, 2) := by decide +kernel
theorem dX9_nursery_88 : decode cX9_nursery 88 = .ok (.iload_n 3, 1) := by decide +kernel
theorem dX9_nursery_89 : decode cX9_nursery 89 = .ok (.if_icmp .ge 26, 3) := by decide +kernel
theorem dX9_nursery_92 : decode cX9_nursery 92 = .ok (.aload_n 2, 1) := by decide +kernel
theorem dX9_nursery_93 : decode cX9_nursery 93 = .ok (.iload 4, 2) := by decide +kernel
theorem dX9_nursery_95 : decode cX9_nursery 95 = .ok (.aaload, 1) := by decide +kernel
theorem dX9_nursery_96 : decode cX9_nursery 96 = .ok (.astore 5, 2) := by decide +kernel
theorem dX9_nursery_98 : decode cX9_nursery 98 = .ok (.aload 5, 2) := by decide +kernel
theorem dX9_nursery_100 : decode cX9_nursery 100 = .ok (.ifnull 9, 3) := by decide +kernel
theorem dX9_nursery_103 : decode cX9_nursery 103 = .ok (.aload 5, 2) := by decide +kernel
theorem dX9_nursery_105 : decode cX9_nursery 105 = .ok (.iconst 0, 1) := by decide +kernel
theorem dX9_nursery_106 : decode cX9_nursery 106 = .ok (.putfield 113, 3) := by decide +kernel
theorem dX9_nursery_109 : decode cX9_nursery 109 = .ok (.iinc 4 1, 3) := by decide +kernel
theorem dX9_nursery_112 : decode cX9_nursery 112 = .ok (.goto (-26), 3) := by decide +kernel
theorem dX9_nursery_115 : decode cX9_nursery 115 = .ok (.aload_n 0, 1) := by decide +kernel
theorem dX9_nursery_116 : decode cX9_nursery 116 = .ok (.getfield 19, 3) := by decide +kernel
theorem dX9_nursery_119 : decode cX9_nursery 119 = .ok (.getfield 117, 3) := by decide +kernel
theorem dX9_nursery_122 : decode cX9_nursery 122 = .ok (.ireturn, 1) := by decide +kernel
theorem dX9_fault_0 : decode cX9_fault 0 = .ok (.aload_n 0, 1) := by decide +kernel
theorem dX9_fault_1 : decode cX9_fault 1 = .ok (.getfield 12, 3) := by decide +kernel
theorem dX9_fault_4 : decode cX9_fault 4 = .ok (.getfield 120, 3) := by decide +kernel
theorem dX9_fault_7 : decode cX9_fault 7 = .ok (.ireturn, 1) := by decide +kernel
theorem dX9_told_0 : decode cX9_told 0 = .ok (.iload_n 1, 1) := by decide +kernel
theorem dX9_told_1 : decode cX9_told 1 = .ok (.tableswitch 173 0 12 #[67, 75, 83, 91, 99, 107, 115, 123, 131, 141, 149, 157, 165], 67) := by decide +kernel
theorem dX9_told_68 : decode cX9_told 68 = .ok (.aload_n 0, 1) := by decide +kernel
theorem dX9_told_69 : decode cX9_told 69 = .ok (.getfield 19, 3) := by decide +kernel
theorem dX9_told_72 : decode cX9_told 72 = .ok (.getfield 123, 3) := by decide +kernel
theorem dX9_told_75 : decode cX9_told 75 = .ok (.ireturn, 1) := by decide +kernel
theorem dX9_told_76 : decode cX9_told 76 = .ok (.aload_n 0, 1) := by decide +kernel
theorem dX9_told_77 : decode cX9_told 77 = .ok (.getfield 19, 3) := by decide +kernel
theorem dX9_told_80 : decode cX9_told 80 = .ok (.getfield 126, 3) := by decide +kernel
theorem dX9_told_83 : decode cX9_told 83 = .ok (.ireturn, 1) := by decide +kernel
theorem dX9_told_84 : decode cX9_told 84 = .ok (.aload_n 0, 1) := by decide +kernel
theorem dX9_told_85 : decode cX9_told 85 = .ok (.getfield 19, 3) := by decide +kernel
theorem dX9_told_88 : decode cX9_told 88 = .ok (.getfield 117, 3) := by decide +kernel
theorem dX9_told_91 : decode cX9_told 91 = .ok (.ireturn, 1) := by decide +kernel
theorem dX9_told_92 : decode cX9_told 92 = .ok (.aload_n 0, 1) := by decide +kernel
theorem dX9_told_93 : decode cX9_told 93 = .ok (.getfield 19, 3) := by decide +kernel
theorem dX9_told_96 : decode cX9_told 96 = .ok (.getfield 129, 3) := by decide +kernel
theorem dX9_told_99 : decode cX9_told 99 = .ok (.ireturn, 1) := by decide +kernel
theorem dX9_told_100 : decode cX9_told 100 = .ok (.aload_n 0, 1) := by decide +kernel
theorem dX9_told_101 : decode cX9_told 101 = .ok (.getfield 12, 3) := by decide +kernel
theorem dX9_told_104 : decode cX9_told 104 = .ok (.getfield 86, 3) := by decide +kernel
theorem dX9_told_107 : decode cX9_told 107 = .ok (.ireturn, 1) := by decide +kernel
theorem dX9_told_108 : decode cX9_told 108 = .ok (.aload_n 0, 1) := by decide +kernel
theorem dX9_told_109 : decode cX9_told 109 = .ok (.getfield 31, 3) := by decide +kernel
theorem dX9_told_112 : decode cX9_told 112 = .ok (.getfield 132, 3) := by decide +kernel
theorem dX9_told_115 : decode cX9_told 115 = .ok (.ireturn, 1) := by decide +kernel
theorem dX9_told_116 : decode cX9_told 116 = .ok (.aload_n 0, 1) := by decide +kernel
theorem dX9_told_117 : decode cX9_told 117 = .ok (.getfield 31, 3) := by decide +kernel
theorem dX9_told_120 : decode cX9_told 120 = .ok (.invokevirtual 135, 3) := by decide +kernel
theorem dX9_told_123 : decode cX9_told 123 = .ok (.ireturn, 1) := by decide +kernel
theorem dX9_told_124 : decode cX9_told 124 = .ok (.aload_n 0, 1) := by decide +kernel
theorem dX9_told_125 : decode cX9_told 125 = .ok (.getfield 31, 3) := by decide +kernel
theorem dX9_told_128 : decode cX9_told 128 = .ok (.invokevirtual 139, 3) := by decide +kernel
theorem dX9_told_131 : decode cX9_told 131 = .ok (.ireturn, 1) := by decide +kernel
theorem dX9_told_132 : decode cX9_told 132 = .ok (.aload_n 0, 1) := by decide +kernel
theorem dX9_told_133 : decode cX9_told 133 = .ok (.getfield 31, 3) := by decide +kernel
theorem dX9_told_136 : decode cX9_told 136 = .ok (.bipush (-2), 2) := by decide +kernel
theorem dX9_told_138 : decode cX9_told 138 = .ok (.invokevirtual 142, 3) := by decide +kernel
theorem dX9_told_141 : decode cX9_told 141 = .ok (.ireturn, 1) := by decide +kernel
theorem dX9_told_142 : decode cX9_told 142 = .ok (.aload_n 0, 1) := by decide +kernel
theorem dX9_told_143 : decode cX9_told 143 = .ok (.getfield 31, 3) := by decide +kernel
theorem dX9_told_146 : decode cX9_told 146 = .ok (.invokevirtual 146, 3) := by decide +kernel
theorem dX9_told_149 : decode cX9_told 149 = .ok (.ireturn, 1) := by decide +kernel
theorem dX9_told_150 : decode cX9_told 150 = .ok (.aload_n 0, 1) := by decide +kernel
theorem dX9_told_151 : decode cX9_told 151 = .ok (.getfield 52, 3) := by decide +kernel
theorem dX9_told_154 : decode cX9_told 154 = .ok (.getfield 149, 3) := by decide +kernel
theorem dX9_told_157 : decode cX9_told 157 = .ok (.ireturn, 1) := by decide +kernel
theorem dX9_told_158 : decode cX9_told 158 = .ok (.aload_n 0, 1) := by decide +kernel
theorem dX9_told_159 : decode cX9_told 159 = .ok (.getfield 59, 3) := by decide +kernel
theorem dX9_told_162 : decode cX9_told 162 = .ok (.getfield 110, 3) := by decide +kernel
theorem dX9_told_165 : decode cX9_told 165 = .ok (.ireturn, 1) := by decide +kernel
theorem dX9_told_166 : decode cX9_told 166 = .ok (.aload_n 0, 1) := by decide +kernel
theorem dX9_told_167 : decode cX9_told 167 = .ok (.getfield 38, 3) := by decide +kernel
theorem dX9_told_170 : decode cX9_told 170 = .ok (.getfield 150, 3) := by decide +kernel
theorem dX9_told_173 : decode cX9_told 173 = .ok (.ireturn, 1) := by decide +kernel
theorem dX9_told_174 : decode cX9_told 174 = .ok (.ldc 81, 2) := by decide +kernel
theorem dX9_told_176 : decode cX9_told 176 = .ok (.ireturn, 1) := by decide +kernel
theorem dX9_child_0 : decode cX9_child 0 = .ok (.aload_n 0, 1) := by decide +kernel
theorem dX9_child_1 : decode cX9_child 1 = .ok (.getfield 19, 3) := by decide +kernel
theorem dX9_child_4 : decode cX9_child 4 = .ok (.iload_n 1, 1) := by decide +kernel
theorem dX9_child_5 : decode cX9_child 5 = .ok (.invokevirtual 151, 3) := by decide +kernel
theorem dX9_child_8 : decode cX9_child 8 = .ok (.ifCond .ne 6, 3) := by decide +kernel
theorem dX9_child_11 : decode cX9_child 11 = .ok (.ldc 154, 2) := by decide +kernel
theorem dX9_child_13 : decode cX9_child 13 = .ok (.ireturn, 1) := by decide +kernel
theorem dX9_child_14 : decode cX9_child 14 = .ok (.iload_n 2, 1) := by decide +kernel
theorem dX9_child_15 : decode cX9_child 15 = .ok (.tableswitch 96 0 5 #[37, 47, 57, 66, 76, 86], 37) := by decide +kernel
theorem dX9_child_52 : decode cX9_child 52 = .ok (.aload_n 0, 1) := by decide +kernel
theorem dX9_child_53 : decode cX9_child 53 = .ok (.getfield 19, 3) := by decide +kernel
theorem dX9_child_56 : decode cX9_child 56 = .ok (.getfield 155, 3) := by decide +kernel
theorem dX9_child_59 : decode cX9_child 59 = .ok (.iload_n 1, 1) := by decide +kernel
theorem dX9_child_60 : decode cX9_child 60 = .ok (.iaload, 1) := by decide +kernel
theorem dX9_child_61 : decode cX9_child 61 = .ok (.ireturn, 1) := by decide +kernel
theorem dX9_child_62 : decode cX9_child 62 = .ok (.aload_n 0, 1) := by decide +kernel
theorem dX9_child_63 : decode cX9_child 63 = .ok (.getfield 19, 3) := by decide +kernel
theorem dX9_child_66 : decode cX9_child 66 = .ok (.getfield 158, 3) := by decide +kernel
theorem dX9_child_69 : decode cX9_child 69 = .ok (.iload_n 1, 1) := by decide +kernel
theorem dX9_child_70 : decode cX9_child 70 = .ok (.iaload, 1) := by decide +kernel
theorem dX9_child_71 : decode cX9_child 71 = .ok (.ireturn, 1) := by decide +kernel
theorem dX9_child_72 : decode cX9_child 72 = .ok (.aload_n 0, 1) := by decide +kernel
theorem dX9_child_73 : decode cX9_child 73 = .ok (.getfield 31, 3) := by decide +kernel
theorem dX9_child_76 : decode cX9_child 76 = .ok (.iload_n 1, 1) := by decide +kernel
theorem dX9_child_77 : decode cX9_child 77 = .ok (.invokevirtual 161, 3) := by decide +kernel
theorem dX9_child_80 : decode cX9_child 80 = .ok (.ireturn, 1) := by decide +kernel
theorem dX9_child_81 : decode cX9_child 81 = .ok (.aload_n 0, 1) := by decide +kernel
theorem dX9_child_82 : decode cX9_child 82 = .ok (.getfield 19, 3) := by decide +kernel
theorem dX9_child_85 : decode cX9_child 85 = .ok (.getfield 164, 3) := by decide +kernel
theorem dX9_child_88 : decode cX9_child 88 = .ok (.iload_n 1, 1) := by decide +kernel
theorem dX9_child_89 : decode cX9_child 89 = .ok (.iaload, 1) := by decide +kernel
theorem dX9_child_90 : decode cX9_child 90 = .ok (.ireturn, 1) := by decide +kernel
theorem dX9_child_91 : decode cX9_child 91 = .ok (.aload_n 0, 1) := by decide +kernel
theorem dX9_child_92 : decode cX9_child 92 = .ok (.getfield 31, 3) := by decide +kernel
theorem dX9_child_95 : decode cX9_child 95 = .ok (.getfield 167, 3) := by decide +kernel
theorem dX9_child_98 : decode cX9_child 98 = .ok (.iload_n 1, 1) := by decide +kernel
theorem dX9_child_99 : decode cX9_child 99 = .ok (.iaload, 1) := by decide +kernel
theorem dX9_child_100 : decode cX9_child 100 = .ok (.ireturn, 1) := by decide +kernel
theorem dX9_child_101 : decode cX9_child 101 = .ok (.aload_n 0, 1) := by decide +kernel
theorem dX9_child_102 : decode cX9_child 102 = .ok (.getfield 31, 3) := by decide +kernel
theorem dX9_child_105 : decode cX9_child 105 = .ok (.getfield 170, 3) := by decide +kernel
theorem dX9_child_108 : decode cX9_child 108 = .ok (.iload_n 1, 1) := by decide +kernel
theorem dX9_child_109 : decode cX9_child 109 = .ok (.iaload, 1) := by decide +kernel
theorem dX9_child_110 : decode cX9_child 110 = .ok (.ireturn, 1) := by decide +kernel
theorem dX9_child_111 : decode cX9_child 111 = .ok (.ldc 81, 2) := by decide +kernel
theorem dX9_child_113 : decode cX9_child 113 = .ok (.ireturn, 1) := by decide +kernel
theorem dX9_dummy_0 : decode cX9_dummy 0 = .ok (.aload_n 0, 1) := by decide +kernel
theorem dX9_dummy_1 : decode cX9_dummy 1 = .ok (.getfield 19, 3) := by decide +kernel
theorem dX9_dummy_4 : decode cX9_dummy 4 = .ok (.iload_n 1, 1) := by decide +kernel
theorem dX9_dummy_5 : decode cX9_dummy 5 = .ok (.invokevirtual 173, 3) := by decide +kernel
theorem dX9_dummy_8 : decode cX9_dummy 8 = .ok (.ifCond .ne 6, 3) := by decide +kernel
theorem dX9_dummy_11 : decode cX9_dummy 11 = .ok (.ldc 154, 2) := by decide +kernel
theorem dX9_dummy_13 : decode cX9_dummy 13 = .ok (.ireturn, 1) := by decide +kernel
theorem dX9_dummy_14 : decode cX9_dummy 14 = .ok (.iload_n 2, 1) := by decide +kernel
theorem dX9_dummy_15 : decode cX9_dummy 15 = .ok (.tableswitch 123 0 7 #[45, 55, 65, 75, 85, 94, 104, 114], 45) := by decide +kernel
theorem dX9_dummy_60 : decode cX9_dummy 60 = .ok (.aload_n 0, 1) := by decide +kernel
theorem dX9_dummy_61 : decode cX9_dummy 61 = .ok (.getfield 19, 3) := by decide +kernel
theorem dX9_dummy_64 : decode cX9_dummy 64 = .ok (.getfield 176, 3) := by decide +kernel
theorem dX9_dummy_67 : decode cX9_dummy 67 = .ok (.iload_n 1, 1) := by decide +kernel
theorem dX9_dummy_68 : decode cX9_dummy 68 = .ok (.iaload, 1) := by decide +kernel
theorem dX9_dummy_69 : decode cX9_dummy 69 = .ok (.ireturn, 1) := by decide +kernel
theorem dX9_dummy_70 : decode cX9_dummy 70 = .ok (.aload_n 0, 1) := by decide +kernel
theorem dX9_dummy_71 : decode cX9_dummy 71 = .ok (.getfield 19, 3) := by decide +kernel
theorem dX9_dummy_74 : decode cX9_dummy 74 = .ok (.getfield 179, 3) := by decide +kernel
theorem dX9_dummy_77 : decode cX9_dummy 77 = .ok (.iload_n 1, 1) := by decide +kernel
theorem dX9_dummy_78 : decode cX9_dummy 78 = .ok (.iaload, 1) := by decide +kernel
theorem dX9_dummy_79 : decode cX9_dummy 79 = .ok (.ireturn, 1) := by decide +kernel
theorem dX9_dummy_80 : decode cX9_dummy 80 = .ok (.aload_n 0, 1) := by decide +kernel
theorem dX9_dummy_81 : decode cX9_dummy 81 = .ok (.getfield 19, 3) := by decide +kernel
theorem dX9_dummy_84 : decode cX9_dummy 84 = .ok (.getfield 182, 3) := by decide +kernel
theorem dX9_dummy_87 : decode cX9_dummy 87 = .ok (.iload_n 1, 1) := by decide +kernel
theorem dX9_dummy_88 : decode cX9_dummy 88 = .ok (.iaload, 1) := by decide +kernel
theorem dX9_dummy_89 : decode cX9_dummy 89 = .ok (.ireturn, 1) := by decide +kernel
theorem dX9_dummy_90 : decode cX9_dummy 90 = .ok (.aload_n 0, 1) := by decide +kernel
theorem dX9_dummy_91 : decode cX9_dummy 91 = .ok (.getfield 19, 3) := by decide +kernel
theorem dX9_dummy_94 : decode cX9_dummy 94 = .ok (.getfield 185, 3) := by decide +kernel
theorem dX9_dummy_97 : decode cX9_dummy 97 = .ok (.iload_n 1, 1) := by decide +kernel
theorem dX9_dummy_98 : decode cX9_dummy 98 = .ok (.iaload, 1) := by decide +kernel
theorem dX9_dummy_99 : decode cX9_dummy 99 = .ok (.ireturn, 1) := by decide +kernel
theorem dX9_dummy_100 : decode cX9_dummy 100 = .ok (.aload_n 0, 1) := by decide +kernel
theorem dX9_dummy_101 : decode cX9_dummy 101 = .ok (.getfield 31, 3) := by decide +kernel
theorem dX9_dummy_104 : decode cX9_dummy 104 = .ok (.iload_n 1, 1) := by decide +kernel
theorem dX9_dummy_105 : decode cX9_dummy 105 = .ok (.invokevirtual 188, 3) := by decide +kernel
theorem dX9_dummy_108 : decode cX9_dummy 108 = .ok (.ireturn, 1) := by decide +kernel
theorem dX9_dummy_109 : decode cX9_dummy 109 = .ok (.aload_n 0, 1) := by decide +kernel
theorem dX9_dummy_110 : decode cX9_dummy 110 = .ok (.getfield 31, 3) := by decide +kernel
theorem dX9_dummy_113 : decode cX9_dummy 113 = .ok (.getfield 191, 3) := by decide +kernel
theorem dX9_dummy_116 : decode cX9_dummy 116 = .ok (.iload_n 1, 1) := by decide +kernel
theorem dX9_dummy_117 : decode cX9_dummy 117 = .ok (.iaload, 1) := by decide +kernel
theorem dX9_dummy_118 : decode cX9_dummy 118 = .ok (.ireturn, 1) := by decide +kernel
theorem dX9_dummy_119 : decode cX9_dummy 119 = .ok (.aload_n 0, 1) := by decide +kernel
theorem dX9_dummy_120 : decode cX9_dummy 120 = .ok (.getfield 31, 3) := by decide +kernel
theorem dX9_dummy_123 : decode cX9_dummy 123 = .ok (.getfield 194, 3) := by decide +kernel
theorem dX9_dummy_126 : decode cX9_dummy 126 = .ok (.iload_n 1, 1) := by decide +kernel
theorem dX9_dummy_127 : decode cX9_dummy 127 = .ok (.iaload, 1) := by decide +kernel
theorem dX9_dummy_128 : decode cX9_dummy 128 = .ok (.ireturn, 1) := by decide +kernel
theorem dX9_dummy_129 : decode cX9_dummy 129 = .ok (.aload_n 0, 1) := by decide +kernel
theorem dX9_dummy_130 : decode cX9_dummy 130 = .ok (.getfield 31, 3) := by decide +kernel
theorem dX9_dummy_133 : decode cX9_dummy 133 = .ok (.iload_n 1, 1) := by decide +kernel
theorem dX9_dummy_134 : decode cX9_dummy 134 = .ok (.invokevirtual 197, 3) := by decide +kernel
theorem dX9_dummy_137 : decode cX9_dummy 137 = .ok (.ireturn, 1) := by decide +kernel
theorem dX9_dummy_138 : decode cX9_dummy 138 = .ok (.ldc 81, 2) := by decide +kernel
theorem dX9_dummy_140 : decode cX9_dummy 140 = .ok (.ireturn, 1) := by decide +kernel
theorem dX9_hour_0 : decode cX9_hour 0 = .ok (.aload_n 0, 1) := by decide +kernel
theorem dX9_hour_1 : decode cX9_hour 1 = .ok (.iload_n 1, 1) := by decide +kernel
theorem dX9_hour_2 : decode cX9_hour 2 = .ok (.invokevirtual 200, 3) := by decide +kernel
theorem dX9_hour_5 : decode cX9_hour 5 = .ok (.istore_n 2, 1) := by decide +kernel
theorem dX9_hour_6 : decode cX9_hour 6 = .ok (.iload_n 2, 1) := by decide +kernel
theorem dX9_hour_7 : decode cX9_hour 7 = .ok (.ifCond .eq 5, 3) := by decide +kernel
theorem dX9_hour_10 : decode cX9_hour 10 = .ok (.iload_n 2, 1) := by decide +kernel
theorem dX9_hour_11 : decode cX9_hour 11 = .ok (.ireturn, 1) := by decide +kernel
theorem dX9_hour_12 : decode cX9_hour 12 = .ok (.aload_n 0, 1) := by decide +kernel
theorem dX9_hour_13 : decode cX9_hour 13 = .ok (.getfield 38, 3) := by decide +kernel
theorem dX9_hour_16 : decode cX9_hour 16 = .ok (.aload_n 0, 1) := by decide +kernel
theorem dX9_hour_17 : decode cX9_hour 17 = .ok (.getfield 31, 3) := by decide +kernel
theorem dX9_hour_20 : decode cX9_hour 20 = .ok (.invokevirtual 203, 3) := by decide +kernel
theorem dX9_hour_23 : decode cX9_hour 23 = .ok (.iconst 0, 1) := by decide +kernel
theorem dX9_hour_24 : decode cX9_hour 24 = .ok (.istore_n 3, 1) := by decide +kernel
theorem dX9_hour_25 : decode cX9_hour 25 = .ok (.iload_n 3, 1) := by decide +kernel
theorem dX9_hour_26 : decode cX9_hour 26 = .ok (.iload_n 1, 1) := by decide +kernel
theorem dX9_hour_27 : decode cX9_hour 27 = .ok (.if_icmp .ge 16, 3) := by decide +kernel
theorem dX9_hour_30 : decode cX9_hour 30 = .ok (.aload_n 0, 1) := by decide +kernel
theorem dX9_hour_31 : decode cX9_hour 31 = .ok (.getfield 31, 3) := by decide +kernel
theorem dX9_hour_34 : decode cX9_hour 34 = .ok (.invokevirtual 207, 3) := by decide +kernel
theorem dX9_hour_37 : decode cX9_hour 37 = .ok (.iinc 3 1, 3) := by decide +kernel
theorem dX9_hour_40 : decode cX9_hour 40 = .ok (.goto (-15), 3) := by decide +kernel
theorem dX9_hour_43 : decode cX9_hour 43 = .ok (.aload_n 0, 1) := by decide +kernel
theorem dX9_hour_44 : decode cX9_hour 44 = .ok (.getfield 31, 3) := by decide +kernel
theorem dX9_hour_47 : decode cX9_hour 47 = .ok (.getfield 132, 3) := by decide +kernel
theorem dX9_hour_50 : decode cX9_hour 50 = .ok (.ireturn, 1) := by decide +kernel
theorem dX9_give_0 : decode cX9_give 0 = .ok (.aload_n 0, 1) := by decide +kernel
theorem dX9_give_1 : decode cX9_give 1 = .ok (.getfield 19, 3) := by decide +kernel
theorem dX9_give_4 : decode cX9_give 4 = .ok (.iload_n 1, 1) := by decide +kernel
theorem dX9_give_5 : decode cX9_give 5 = .ok (.invokevirtual 173, 3) := by decide +kernel
theorem dX9_give_8 : decode cX9_give 8 = .ok (.ifCond .eq 14, 3) := by decide +kernel
theorem dX9_give_11 : decode cX9_give 11 = .ok (.aload_n 0, 1) := by decide +kernel
theorem dX9_give_12 : decode cX9_give 12 = .ok (.getfield 19, 3) := by decide +kernel
theorem dX9_give_15 : decode cX9_give 15 = .ok (.iload_n 2, 1) := by decide +kernel
theorem dX9_give_16 : decode cX9_give 16 = .ok (.invokevirtual 151, 3) := by decide +kernel
theorem dX9_give_19 : decode cX9_give 19 = .ok (.ifCond .ne 6, 3) := by decide +kernel
theorem dX9_give_22 : decode cX9_give 22 = .ok (.ldc 154, 2) := by decide +kernel
theorem dX9_give_24 : decode cX9_give 24 = .ok (.ireturn, 1) := by decide +kernel
theorem dX9_give_25 : decode cX9_give 25 = .ok (.aload_n 0, 1) := by decide +kernel
theorem dX9_give_26 : decode cX9_give 26 = .ok (.getfield 31, 3) := by decide +kernel
theorem dX9_give_29 : decode cX9_give 29 = .ok (.iload_n 1, 1) := by decide +kernel
theorem dX9_give_30 : decode cX9_give 30 = .ok (.iload_n 2, 1) := by decide +kernel
theorem dX9_give_31 : decode cX9_give 31 = .ok (.invokevirtual 210, 3) := by decide +kernel
theorem dX9_give_34 : decode cX9_give 34 = .ok (.ifCond .ne 6, 3) := by decide +kernel
theorem dX9_give_37 : decode cX9_give 37 = .ok (.ldc 214, 2) := by decide +kernel
theorem dX9_give_39 : decode cX9_give 39 = .ok (.ireturn, 1) := by decide +kernel
theorem dX9_give_40 : decode cX9_give 40 = .ok (.aload_n 0, 1) := by decide +kernel
theorem dX9_give_41 : decode cX9_give 41 = .ok (.getfield 38, 3) := by decide +kernel
theorem dX9_give_44 : decode cX9_give 44 = .ok (.aload_n 0, 1) := by decide +kernel
theorem dX9_give_45 : decode cX9_give 45 = .ok (.getfield 31, 3) := by decide +kernel
theorem dX9_give_48 : decode cX9_give 48 = .ok (.invokevirtual 203, 3) := by decide +kernel
theorem dX9_give_51 : decode cX9_give 51 = .ok (.aload_n 0, 1) := by decide +kernel
theorem dX9_give_52 : decode cX9_give 52 = .ok (.getfield 31, 3) := by decide +kernel
theorem dX9_give_55 : decode cX9_give 55 = .ok (.iload_n 1, 1) := by decide +kernel
theorem dX9_give_56 : decode cX9_give 56 = .ok (.iload_n 2, 1) := by decide +kernel
theorem dX9_give_57 : decode cX9_give 57 = .ok (.invokevirtual 215, 3) := by decide +kernel
theorem dX9_give_60 : decode cX9_give 60 = .ok (.aload_n 0, 1) := by decide +kernel
theorem dX9_give_61 : decode cX9_give 61 = .ok (.getfield 19, 3) := by decide +kernel
theorem dX9_give_64 : decode cX9_give 64 = .ok (.iload_n 2, 1) := by decide +kernel
theorem dX9_give_65 : decode cX9_give 65 = .ok (.iload_n 1, 1) := by decide +kernel
theorem dX9_give_66 : decode cX9_give 66 = .ok (.invokevirtual 219, 3) := by decide +kernel
theorem dX9_give_69 : decode cX9_give 69 = .ok (.ifCond .eq 7, 3) := by decide +kernel
theorem dX9_give_72 : decode cX9_give 72 = .ok (.iconst 1, 1) := by decide +kernel
theorem dX9_give_73 : decode cX9_give 73 = .ok (.goto 4, 3) := by decide +kernel
theorem dX9_give_76 : decode cX9_give 76 = .ok (.iconst 0, 1) := by decide +kernel
theorem dX9_give_77 : decode cX9_give 77 = .ok (.ireturn, 1) := by decide +kernel
theorem dX9_drop_0 : decode cX9_drop 0 = .ok (.aload_n 0, 1) := by decide +kernel
theorem dX9_drop_1 : decode cX9_drop 1 = .ok (.getfield 19, 3) := by decide +kernel
theorem dX9_drop_4 : decode cX9_drop 4 = .ok (.iload_n 1, 1) := by decide +kernel
theorem dX9_drop_5 : decode cX9_drop 5 = .ok (.invokevirtual 173, 3) := by decide +kernel
theorem dX9_drop_8 : decode cX9_drop 8 = .ok (.ifCond .ne 6, 3) := by decide +kernel
theorem dX9_drop_11 : decode cX9_drop 11 = .ok (.ldc 154, 2) := by decide +kernel
theorem dX9_drop_13 : decode cX9_drop 13 = .ok (.ireturn, 1) := by decide +kernel
theorem dX9_drop_14 : decode cX9_drop 14 = .ok (.aload_n 0, 1) := by decide +kernel
theorem dX9_drop_15 : decode cX9_drop 15 = .ok (.getfield 31, 3) := by decide +kernel
theorem dX9_drop_18 : decode cX9_drop 18 = .ok (.iload_n 1, 1) := by decide +kernel
theorem dX9_drop_19 : decode cX9_drop 19 = .ok (.invokevirtual 188, 3) := by decide +kernel
theorem dX9_drop_22 : decode cX9_drop 22 = .ok (.istore_n 2, 1) := by decide +kernel
theorem dX9_drop_23 : decode cX9_drop 23 = .ok (.iload_n 2, 1) := by decide +kernel
theorem dX9_drop_24 : decode cX9_drop 24 = .ok (.iconst (-1), 1) := by decide +kernel
theorem dX9_drop_25 : decode cX9_drop 25 = .ok (.if_icmp .ne 6, 3) := by decide +kernel
theorem dX9_drop_28 : decode cX9_drop 28 = .ok (.ldc 214, 2) := by decide +kernel
theorem dX9_drop_30 : decode cX9_drop 30 = .ok (.ireturn, 1) := by decide +kernel
theorem dX9_drop_31 : decode cX9_drop 31 = .ok (.aload_n 0, 1) := by decide +kernel
theorem dX9_drop_32 : decode cX9_drop 32 = .ok (.getfield 38, 3) := by decide +kernel
theorem dX9_drop_35 : decode cX9_drop 35 = .ok (.aload_n 0, 1) := by decide +kernel
theorem dX9_drop_36 : decode cX9_drop 36 = .ok (.getfield 31, 3) := by decide +kernel
theorem dX9_drop_39 : decode cX9_drop 39 = .ok (.invokevirtual 203, 3) := by decide +kernel
theorem dX9_drop_42 : decode cX9_drop 42 = .ok (.aload_n 0, 1) := by decide +kernel
theorem dX9_drop_43 : decode cX9_drop 43 = .ok (.getfield 31, 3) := by decide +kernel
theorem dX9_drop_46 : decode cX9_drop 46 = .ok (.getfield 222, 3) := by decide +kernel
theorem dX9_drop_49 : decode cX9_drop 49 = .ok (.iload_n 1, 1) := by decide +kernel
theorem dX9_drop_50 : decode cX9_drop 50 = .ok (.bipush (-2), 2) := by decide +kernel
theorem dX9_drop_52 : decode cX9_drop 52 = .ok (.iastore, 1) := by decide +kernel
theorem dX9_drop_53 : decode cX9_drop 53 = .ok (.iload_n 2, 1) := by decide +kernel
theorem dX9_drop_54 : decode cX9_drop 54 = .ok (.ireturn, 1) := by decide +kernel
theorem dX9_pick_0 : decode cX9_pick 0 = .ok (.aload_n 0, 1) := by decide +kernel
theorem dX9_pick_1 : decode cX9_pick 1 = .ok (.getfield 19, 3) := by decide +kernel
theorem dX9_pick_4 : decode cX9_pick 4 = .ok (.iload_n 1, 1) := by decide +kernel
theorem dX9_pick_5 : decode cX9_pick 5 = .ok (.invokevirtual 173, 3) := by decide +kernel
theorem dX9_pick_8 : decode cX9_pick 8 = .ok (.ifCond .ne 6, 3) := by decide +kernel
theorem dX9_pick_11 : decode cX9_pick 11 = .ok (.ldc 154, 2) := by decide +kernel
theorem dX9_pick_13 : decode cX9_pick 13 = .ok (.ireturn, 1) := by decide +kernel
theorem dX9_pick_14 : decode cX9_pick 14 = .ok (.aload_n 0, 1) := by decide +kernel
theorem dX9_pick_15 : decode cX9_pick 15 = .ok (.getfield 31, 3) := by decide +kernel
theorem dX9_pick_18 : decode cX9_pick 18 = .ok (.getfield 222, 3) := by decide +kernel
theorem dX9_pick_21 : decode cX9_pick 21 = .ok (.iload_n 1, 1) := by decide +kernel
theorem dX9_pick_22 : decode cX9_pick 22 = .ok (.iaload, 1) := by decide +kernel
theorem dX9_pick_23 : decode cX9_pick 23 = .ok (.bipush (-2), 2) := by decide +kernel
theorem dX9_pick_25 : decode cX9_pick 25 = .ok (.if_icmp .eq 6, 3) := by decide +kernel
theorem dX9_pick_28 : decode cX9_pick 28 = .ok (.ldc 214, 2) := by decide +kernel
theorem dX9_pick_30 : decode cX9_pick 30 = .ok (.ireturn, 1) := by decide +kernel
theorem dX9_pick_31 : decode cX9_pick 31 = .ok (.aload_n 0, 1) := by decide +kernel
theorem dX9_pick_32 : decode cX9_pick 32 = .ok (.getfield 38, 3) := by decide +kernel
theorem dX9_pick_35 : decode cX9_pick 35 = .ok (.aload_n 0, 1) := by decide +kernel
theorem dX9_pick_36 : decode cX9_pick 36 = .ok (.getfield 31, 3) := by decide +kernel
theorem dX9_pick_39 : decode cX9_pick 39 = .ok (.invokevirtual 203, 3) := by decide +kernel
theorem dX9_pick_42 : decode cX9_pick 42 = .ok (.aload_n 0, 1) := by decide +kernel
theorem dX9_pick_43 : decode cX9_pick 43 = .ok (.getfield 31, 3) := by decide +kernel
theorem dX9_pick_46 : decode cX9_pick 46 = .ok (.getfield 222, 3) := by decide +kernel
theorem dX9_pick_49 : decode cX9_pick 49 = .ok (.iload_n 1, 1) := by decide +kernel
theorem dX9_pick_50 : decode cX9_pick 50 = .ok (.iconst (-1), 1) := by decide +kernel
theorem dX9_pick_51 : decode cX9_pick 51 = .ok (.iastore, 1) := by decide +kernel
theorem dX9_pick_52 : decode cX9_pick 52 = .ok (.aload_n 0, 1) := by decide +kernel
theorem dX9_pick_53 : decode cX9_pick 53 = .ok (.getfield 31, 3) := by decide +kernel
theorem dX9_pick_56 : decode cX9_pick 56 = .ok (.bipush (-2), 2) := by decide +kernel
theorem dX9_pick_58 : decode cX9_pick 58 = .ok (.invokevirtual 142, 3) := by decide +kernel
theorem dX9_pick_61 : decode cX9_pick 61 = .ok (.ireturn, 1) := by decide +kernel
theorem dX9_boil_0 : decode cX9_boil 0 = .ok (.aload_n 0, 1) := by decide +kernel
theorem dX9_boil_1 : decode cX9_boil 1 = .ok (.getfield 31, 3) := by decide +kernel
theorem dX9_boil_4 : decode cX9_boil 4 = .ok (.iconst (-1), 1) := by decide +kernel
theorem dX9_boil_5 : decode cX9_boil 5 = .ok (.invokevirtual 142, 3) := by decide +kernel
theorem dX9_boil_8 : decode cX9_boil 8 = .ok (.istore_n 1, 1) := by decide +kernel
theorem dX9_boil_9 : decode cX9_boil 9 = .ok (.iload_n 1, 1) := by decide +kernel
theorem dX9_boil_10 : decode cX9_boil 10 = .ok (.ifCond .ne 6, 3) := by decide +kernel
theorem dX9_boil_13 : decode cX9_boil 13 = .ok (.ldc 214, 2) := by decide +kernel
theorem dX9_boil_15 : decode cX9_boil 15 = .ok (.ireturn, 1) := by decide +kernel
theorem dX9_boil_16 : decode cX9_boil 16 = .ok (.aload_n 0, 1) := by decide +kernel
theorem dX9_boil_17 : decode cX9_boil 17 = .ok (.getfield 38, 3) := by decide +kernel
theorem dX9_boil_20 : decode cX9_boil 20 = .ok (.aload_n 0, 1) := by decide +kernel
theorem dX9_boil_21 : decode cX9_boil 21 = .ok (.getfield 31, 3) := by decide +kernel
theorem dX9_boil_24 : decode cX9_boil 24 = .ok (.invokevirtual 203, 3) := by decide +kernel
theorem dX9_boil_27 : decode cX9_boil 27 = .ok (.aload_n 0, 1) := by decide +kernel
theorem dX9_boil_28 : decode cX9_boil 28 = .ok (.getfield 31, 3) := by decide +kernel
theorem dX9_boil_31 : decode cX9_boil 31 = .ok (.iload_n 1, 1) := by decide +kernel
theorem dX9_boil_32 : decode cX9_boil 32 = .ok (.invokevirtual 225, 3) := by decide +kernel
theorem dX9_boil_35 : decode cX9_boil 35 = .ok (.iload_n 1, 1) := by decide +kernel
theorem dX9_boil_36 : decode cX9_boil 36 = .ok (.ireturn, 1) := by decide +kernel
theorem dX9_cold_0 : decode cX9_cold 0 = .ok (.aload_n 0, 1) := by decide +kernel
theorem dX9_cold_1 : decode cX9_cold 1 = .ok (.getfield 19, 3) := by decide +kernel
theorem dX9_cold_4 : decode cX9_cold 4 = .ok (.iload_n 1, 1) := by decide +kernel
theorem dX9_cold_5 : decode cX9_cold 5 = .ok (.invokevirtual 151, 3) := by decide +kernel
theorem dX9_cold_8 : decode cX9_cold 8 = .ok (.ifCond .ne 6, 3) := by decide +kernel
theorem dX9_cold_11 : decode cX9_cold 11 = .ok (.ldc 154, 2) := by decide +kernel
theorem dX9_cold_13 : decode cX9_cold 13 = .ok (.ireturn, 1) := by decide +kernel
theorem dX9_cold_14 : decode cX9_cold 14 = .ok (.aload_n 0, 1) := by decide +kernel
theorem dX9_cold_15 : decode cX9_cold 15 = .ok (.getfield 38, 3) := by decide +kernel
theorem dX9_cold_18 : decode cX9_cold 18 = .ok (.aload_n 0, 1) := by decide +kernel
theorem dX9_cold_19 : decode cX9_cold 19 = .ok (.getfield 31, 3) := by decide +kernel
theorem dX9_cold_22 : decode cX9_cold 22 = .ok (.invokevirtual 203, 3) := by decide +kernel
theorem dX9_cold_25 : decode cX9_cold 25 = .ok (.aload_n 0, 1) := by decide +kernel
theorem dX9_cold_26 : decode cX9_cold 26 = .ok (.getfield 31, 3) := by decide +kernel
theorem dX9_cold_29 : decode cX9_cold 29 = .ok (.getfield 167, 3) := by decide +kernel
theorem dX9_cold_32 : decode cX9_cold 32 = .ok (.iload_n 1, 1) := by decide +kernel
theorem dX9_cold_33 : decode cX9_cold 33 = .ok (.aload_n 0, 1) := by decide +kernel
theorem dX9_cold_34 : decode cX9_cold 34 = .ok (.getfield 19, 3) := by decide +kernel
theorem dX9_cold_37 : decode cX9_cold 37 = .ok (.getfield 123, 3) := by decide +kernel
theorem dX9_cold_40 : decode cX9_cold 40 = .ok (.iastore, 1) := by decide +kernel
theorem dX9_cold_41 : decode cX9_cold 41 = .ok (.aload_n 0, 1) := by decide +kernel
theorem dX9_cold_42 : decode cX9_cold 42 = .ok (.getfield 31, 3) := by decide +kernel
theorem dX9_cold_45 : decode cX9_cold 45 = .ok (.getfield 167, 3) := by decide +kernel
theorem dX9_cold_48 : decode cX9_cold 48 = .ok (.iload_n 1, 1) := by decide +kernel
theorem dX9_cold_49 : decode cX9_cold 49 = .ok (.iaload, 1) := by decide +kernel
theorem dX9_cold_50 : decode cX9_cold 50 = .ok (.ireturn, 1) := by decide +kernel
theorem dX9_drift_0 : decode cX9_drift 0 = .ok (.aload_n 0, 1) := by decide +kernel
theorem dX9_drift_1 : decode cX9_drift 1 = .ok (.iload_n 1, 1) := by decide +kernel
theorem dX9_drift_2 : decode cX9_drift 2 = .ok (.invokevirtual 200, 3) := by decide +kernel
theorem dX9_drift_5 : decode cX9_drift 5 = .ok (.istore_n 2, 1) := by decide +kernel
theorem dX9_drift_6 : decode cX9_drift 6 = .ok (.iload_n 2, 1) := by decide +kernel
theorem dX9_drift_7 : decode cX9_drift 7 = .ok (.ifCond .eq 5, 3) := by decide +kernel
theorem dX9_drift_10 : decode cX9_drift 10 = .ok (.iload_n 2, 1) := by decide +kernel
theorem dX9_drift_11 : decode cX9_drift 11 = .ok (.ireturn, 1) := by decide +kernel
theorem dX9_drift_12 : decode cX9_drift 12 = .ok (.aload_n 0, 1) := by decide +kernel
theorem dX9_drift_13 : decode cX9_drift 13 = .ok (.getfield 38, 3) := by decide +kernel
theorem dX9_drift_16 : decode cX9_drift 16 = .ok (.aload_n 0, 1) := by decide +kernel
theorem dX9_drift_17 : decode cX9_drift 17 = .ok (.getfield 31, 3) := by decide +kernel
theorem dX9_drift_20 : decode cX9_drift 20 = .ok (.invokevirtual 203, 3) := by decide +kernel
theorem dX9_drift_23 : decode cX9_drift 23 = .ok (.iconst 0, 1) := by decide +kernel
theorem dX9_drift_24 : decode cX9_drift 24 = .ok (.istore_n 3, 1) := by decide +kernel
theorem dX9_drift_25 : decode cX9_drift 25 = .ok (.iload_n 3, 1) := by decide +kernel
theorem dX9_drift_26 : decode cX9_drift 26 = .ok (.iload_n 1, 1) := by decide +kernel
theorem dX9_drift_27 : decode cX9_drift 27 = .ok (.if_icmp .ge 40, 3) := by decide +kernel
theorem dX9_drift_30 : decode cX9_drift 30 = .ok (.aload_n 0, 1) := by decide +kernel
theorem dX9_drift_31 : decode cX9_drift 31 = .ok (.getfield 19, 3) := by decide +kernel
theorem dX9_drift_34 : decode cX9_drift 34 = .ok (.getfield 117, 3) := by decide +kernel
theorem dX9_drift_37 : decode cX9_drift 37 = .ok (.ifCond .le 17, 3) := by decide +kernel
theorem dX9_drift_40 : decode cX9_drift 40 = .ok (.aload_n 0, 1) := by decide +kernel
theorem dX9_drift_41 : decode cX9_drift 41 = .ok (.getfield 19, 3) := by decide +kernel
theorem dX9_drift_44 : decode cX9_drift 44 = .ok (.getfield 129, 3) := by decide +kernel
theorem dX9_drift_47 : decode cX9_drift 47 = .ok (.ifCond .le 7, 3) := by decide +kernel
theorem dX9_drift_50 : decode cX9_drift 50 = .ok (.aload_n 0, 1) := by decide +kernel
theorem dX9_drift_51 : decode cX9_drift 51 = .ok (.invokevirtual 229, 3) := by decide +kernel
theorem dX9_drift_54 : decode cX9_drift 54 = .ok (.aload_n 0, 1) := by decide +kernel
theorem dX9_drift_55 : decode cX9_drift 55 = .ok (.getfield 31, 3) := by decide +kernel
theorem dX9_drift_58 : decode cX9_drift 58 = .ok (.invokevirtual 207, 3) := by decide +kernel
theorem dX9_drift_61 : decode cX9_drift 61 = .ok (.iinc 3 1, 3) := by decide +kernel
theorem dX9_drift_64 : decode cX9_drift 64 = .ok (.goto (-39), 3) := by decide +kernel
theorem dX9_drift_67 : decode cX9_drift 67 = .ok (.aload_n 0, 1) := by decide +kernel
theorem dX9_drift_68 : decode cX9_drift 68 = .ok (.getfield 31, 3) := by decide +kernel
theorem dX9_drift_71 : decode cX9_drift 71 = .ok (.invokevirtual 135, 3) := by decide +kernel
theorem dX9_drift_74 : decode cX9_drift 74 = .ok (.ireturn, 1) := by decide +kernel
theorem dX9_undo_0 : decode cX9_undo 0 = .ok (.aload_n 0, 1) := by decide +kernel
theorem dX9_undo_1 : decode cX9_undo 1 = .ok (.getfield 38, 3) := by decide +kernel
theorem dX9_undo_4 : decode cX9_undo 4 = .ok (.getfield 150, 3) := by decide +kernel
theorem dX9_undo_7 : decode cX9_undo 7 = .ok (.ifCond .ne 6, 3) := by decide +kernel
theorem dX9_undo_10 : decode cX9_undo 10 = .ok (.ldc 214, 2) := by decide +kernel
theorem dX9_undo_12 : decode cX9_undo 12 = .ok (.ireturn, 1) := by decide +kernel
theorem dX9_undo_13 : decode cX9_undo 13 = .ok (.aload_n 0, 1) := by decide +kernel
theorem dX9_undo_14 : decode cX9_undo 14 = .ok (.getfield 38, 3) := by decide +kernel
theorem dX9_undo_17 : decode cX9_undo 17 = .ok (.aload_n 0, 1) := by decide +kernel
theorem dX9_undo_18 : decode cX9_undo 18 = .ok (.getfield 31, 3) := by decide +kernel
theorem dX9_undo_21 : decode cX9_undo 21 = .ok (.invokevirtual 232, 3) := by decide +kernel
theorem dX9_undo_24 : decode cX9_undo 24 = .ok (.aload_n 0, 1) := by decide +kernel
theorem dX9_undo_25 : decode cX9_undo 25 = .ok (.getfield 38, 3) := by decide +kernel
theorem dX9_undo_28 : decode cX9_undo 28 = .ok (.getfield 150, 3) := by decide +kernel
theorem dX9_undo_31 : decode cX9_undo 31 = .ok (.ireturn, 1) := by decide +kernel
theorem dX9_mostCalm_0 : decode cX9_mostCalm 0 = .ok (.iload_n 2, 1) := by decide +kernel
theorem dX9_mostCalm_1 : decode cX9_mostCalm 1 = .ok (.iconst (-1), 1) := by decide +kernel
theorem dX9_mostCalm_2 : decode cX9_mostCalm 2 = .ok (.if_icmp .eq 17, 3) := by decide +kernel
theorem dX9_mostCalm_5 : decode cX9_mostCalm 5 = .ok (.aload_n 0, 1) := by decide +kernel
theorem dX9_mostCalm_6 : decode cX9_mostCalm 6 = .ok (.getfield 19, 3) := by decide +kernel
theorem dX9_mostCalm_9 : decode cX9_mostCalm 9 = .ok (.iload_n 2, 1) := by decide +kernel
theorem dX9_mostCalm_10 : decode cX9_mostCalm 10 = .ok (.invokevirtual 151, 3) := by decide +kernel
theorem dX9_mostCalm_13 : decode cX9_mostCalm 13 = .ok (.ifCond .ne 6, 3) := by decide +kernel
theorem dX9_mostCalm_16 : decode cX9_mostCalm 16 = .ok (.ldc 154, 2) := by decide +kernel
theorem dX9_mostCalm_18 : decode cX9_mostCalm 18 = .ok (.ireturn, 1) := by decide +kernel
theorem dX9_mostCalm_19 : decode cX9_mostCalm 19 = .ok (.aload_n 0, 1) := by decide +kernel
theorem dX9_mostCalm_20 : decode cX9_mostCalm 20 = .ok (.getfield 45, 3) := by decide +kernel
theorem dX9_mostCalm_23 : decode cX9_mostCalm 23 = .ok (.aload_n 0, 1) := by decide +kernel
theorem dX9_mostCalm_24 : decode cX9_mostCalm 24 = .ok (.getfield 19, 3) := by decide +kernel
theorem dX9_mostCalm_27 : decode cX9_mostCalm 27 = .ok (.aload_n 0, 1) := by decide +kernel
theorem dX9_mostCalm_28 : decode cX9_mostCalm 28 = .ok (.getfield 31, 3) := by decide +kernel
theorem dX9_mostCalm_31 : decode cX9_mostCalm 31 = .ok (.iload_n 1, 1) := by decide +kernel
theorem dX9_mostCalm_32 : decode cX9_mostCalm 32 = .ok (.invokevirtual 235, 3) := by decide +kernel
theorem dX9_mostCalm_35 : decode cX9_mostCalm 35 = .ok (.iload_n 2, 1) := by decide +kernel
theorem dX9_mostCalm_36 : decode cX9_mostCalm 36 = .ok (.iconst (-1), 1) := by decide +kernel
theorem dX9_mostCalm_37 : decode cX9_mostCalm 37 = .ok (.if_icmp .ne 14, 3) := by decide +kernel
theorem dX9_mostCalm_40 : decode cX9_mostCalm 40 = .ok (.aload_n 0, 1) := by decide +kernel
theorem dX9_mostCalm_41 : decode cX9_mostCalm 41 = .ok (.getfield 45, 3) := by decide +kernel
theorem dX9_mostCalm_44 : decode cX9_mostCalm 44 = .ok (.iconst 0, 1) := by decide +kernel
theorem dX9_mostCalm_45 : decode cX9_mostCalm 45 = .ok (.invokevirtual 239, 3) := by decide +kernel
theorem dX9_mostCalm_48 : decode cX9_mostCalm 48 = .ok (.goto 11, 3) := by decide +kernel
theorem dX9_mostCalm_51 : decode cX9_mostCalm 51 = .ok (.aload_n 0, 1) := by decide +kernel
theorem dX9_mostCalm_52 : decode cX9_mostCalm 52 = .ok (.getfield 45, 3) := by decide +kernel
theorem dX9_mostCalm_55 : decode cX9_mostCalm 55 = .ok (.iload_n 2, 1) := by decide +kernel
theorem dX9_mostCalm_56 : decode cX9_mostCalm 56 = .ok (.invokevirtual 242, 3) := by decide +kernel
theorem dX9_mostCalm_59 : decode cX9_mostCalm 59 = .ok (.ireturn, 1) := by decide +kernel
theorem dX9_trades_0 : decode cX9_trades 0 = .ok (.iconst 0, 1) := by decide +kernel
theorem dX9_trades_1 : decode cX9_trades 1 = .ok (.istore_n 2, 1) := by decide +kernel
theorem dX9_trades_2 : decode cX9_trades 2 = .ok (.iconst 0, 1) := by decide +kernel
theorem dX9_trades_3 : decode cX9_trades 3 = .ok (.istore_n 3, 1) := by decide +kernel
theorem dX9_trades_4 : decode cX9_trades 4 = .ok (.iload_n 3, 1) := by decide +kernel
theorem dX9_trades_5 : decode cX9_trades 5 = .ok (.aload_n 0, 1) := by decide +kernel
theorem dX9_trades_6 : decode cX9_trades 6 = .ok (.getfield 19, 3) := by decide +kernel
theorem dX9_trades_9 : decode cX9_trades 9 = .ok (.getfield 117, 3) := by decide +kernel
theorem dX9_trades_12 : decode cX9_trades 12 = .ok (.if_icmp .ge 64, 3) := by decide +kernel
theorem dX9_trades_15 : decode cX9_trades 15 = .ok (.iload_n 3, 1) := by decide +kernel
theorem dX9_trades_16 : decode cX9_trades 16 = .ok (.iconst 1, 1) := by decide +kernel
theorem dX9_trades_17 : decode cX9_trades 17 = .ok (.iadd, 1) := by decide +kernel
theorem dX9_trades_18 : decode cX9_trades 18 = .ok (.istore 4, 2) := by decide +kernel
theorem dX9_trades_20 : decode cX9_trades 20 = .ok (.iload 4, 2) := by decide +kernel
theorem dX9_trades_22 : decode cX9_trades 22 = .ok (.aload_n 0, 1) := by decide +kernel
theorem dX9_trades_23 : decode cX9_trades 23 = .ok (.getfield 19, 3) := by decide +kernel
theorem dX9_trades_26 : decode cX9_trades 26 = .ok (.getfield 117, 3) := by decide +kernel
theorem dX9_trades_29 : decode cX9_trades 29 = .ok (.if_icmp .ge 41, 3) := by decide +kernel
theorem dX9_trades_32 : decode cX9_trades 32 = .ok (.aload_n 0, 1) := by decide +kernel
theorem dX9_trades_33 : decode cX9_trades 33 = .ok (.getfield 31, 3) := by decide +kernel
theorem dX9_trades_36 : decode cX9_trades 36 = .ok (.iload_n 3, 1) := by decide +kernel
theorem dX9_trades_37 : decode cX9_trades 37 = .ok (.iload 4, 2) := by decide +kernel
theorem dX9_trades_39 : decode cX9_trades 39 = .ok (.invokevirtual 245, 3) := by decide +kernel
theorem dX9_trades_42 : decode cX9_trades 42 = .ok (.ifCond .ne 6, 3) := by decide +kernel
theorem dX9_trades_45 : decode cX9_trades 45 = .ok (.goto 19, 3) := by decide +kernel
theorem dX9_trades_48 : decode cX9_trades 48 = .ok (.iload_n 2, 1) := by decide +kernel
theorem dX9_trades_49 : decode cX9_trades 49 = .ok (.iload_n 1, 1) := by decide +kernel
theorem dX9_trades_50 : decode cX9_trades 50 = .ok (.if_icmp .ne 11, 3) := by decide +kernel
theorem dX9_trades_53 : decode cX9_trades 53 = .ok (.bipush 10, 2) := by decide +kernel
theorem dX9_trades_55 : decode cX9_trades 55 = .ok (.iload_n 3, 1) := by decide +kernel
theorem dX9_trades_56 : decode cX9_trades 56 = .ok (.imul, 1) := by decide +kernel
theorem dX9_trades_57 : decode cX9_trades 57 = .ok (.iload 4, 2) := by decide +kernel
theorem dX9_trades_59 : decode cX9_trades 59 = .ok (.iadd, 1) := by decide +kernel
theorem dX9_trades_60 : decode cX9_trades 60 = .ok (.ireturn, 1) := by decide +kernel
theorem dX9_trades_61 : decode cX9_trades 61 = .ok (.iinc 2 1, 3) := by decide +kernel
theorem dX9_trades_64 : decode cX9_trades 64 = .ok (.iinc 4 1, 3) := by decide +kernel
theorem dX9_trades_67 : decode cX9_trades 67 = .ok (.goto (-47), 3) := by decide +kernel
theorem dX9_trades_70 : decode cX9_trades 70 = .ok (.iinc 3 1, 3) := by decide +kernel
theorem dX9_trades_73 : decode cX9_trades 73 = .ok (.goto (-69), 3) := by decide +kernel
theorem dX9_trades_76 : decode cX9_trades 76 = .ok (.iload_n 1, 1) := by decide +kernel
theorem dX9_trades_77 : decode cX9_trades 77 = .ok (.iconst (-1), 1) := by decide +kernel
theorem dX9_trades_78 : decode cX9_trades 78 = .ok (.if_icmp .ne 7, 3) := by decide +kernel
theorem dX9_trades_81 : decode cX9_trades 81 = .ok (.iload_n 2, 1) := by decide +kernel
theorem dX9_trades_82 : decode cX9_trades 82 = .ok (.goto 4, 3) := by decide +kernel
theorem dX9_trades_85 : decode cX9_trades 85 = .ok (.iconst (-1), 1) := by decide +kernel
theorem dX9_trades_86 : decode cX9_trades 86 = .ok (.ireturn, 1) := by decide +kernel
theorem dX9_wants_0 : decode cX9_wants 0 = .ok (.aload_n 0, 1) := by decide +kernel
theorem dX9_wants_1 : decode cX9_wants 1 = .ok (.getfield 19, 3) := by decide +kernel
theorem dX9_wants_4 : decode cX9_wants 4 = .ok (.iload_n 1, 1) := by decide +kernel
theorem dX9_wants_5 : decode cX9_wants 5 = .ok (.invokevirtual 151, 3) := by decide +kernel
theorem dX9_wants_8 : decode cX9_wants 8 = .ok (.ifCond .ne 6, 3) := by decide +kernel
theorem dX9_wants_11 : decode cX9_wants 11 = .ok (.ldc 154, 2) := by decide +kernel
theorem dX9_wants_13 : decode cX9_wants 13 = .ok (.ireturn, 1) := by decide +kernel
theorem dX9_wants_14 : decode cX9_wants 14 = .ok (.iconst 0, 1) := by decide +kernel
theorem dX9_wants_15 : decode cX9_wants 15 = .ok (.istore_n 2, 1) := by decide +kernel
theorem dX9_wants_16 : decode cX9_wants 16 = .ok (.iconst 0, 1) := by decide +kernel
theorem dX9_wants_17 : decode cX9_wants 17 = .ok (.istore_n 3, 1) := by decide +kernel
theorem dX9_wants_18 : decode cX9_wants 18 = .ok (.iload_n 3, 1) := by decide +kernel
theorem dX9_wants_19 : decode cX9_wants 19 = .ok (.aload_n 0, 1) := by decide +kernel
theorem dX9_wants_20 : decode cX9_wants 20 = .ok (.getfield 19, 3) := by decide +kernel
theorem dX9_wants_23 : decode cX9_wants 23 = .ok (.getfield 129, 3) := by decide +kernel
theorem dX9_wants_26 : decode cX9_wants 26 = .ok (.if_icmp .ge 24, 3) := by decide +kernel
theorem dX9_wants_29 : decode cX9_wants 29 = .ok (.aload_n 0, 1) := by decide +kernel
theorem dX9_wants_30 : decode cX9_wants 30 = .ok (.getfield 19, 3) := by decide +kernel
theorem dX9_wants_33 : decode cX9_wants 33 = .ok (.iload_n 1, 1) := by decide +kernel
theorem dX9_wants_34 : decode cX9_wants 34 = .ok (.iload_n 3, 1) := by decide +kernel
theorem dX9_wants_35 : decode cX9_wants 35 = .ok (.invokevirtual 219, 3) := by decide +kernel
theorem dX9_wants_38 : decode cX9_wants 38 = .ok (.ifCond .eq 6, 3) := by decide +kernel
theorem dX9_wants_41 : decode cX9_wants 41 = .ok (.iinc 2 1, 3) := by decide +kernel
theorem dX9_wants_44 : decode cX9_wants 44 = .ok (.iinc 3 1, 3) := by decide +kernel
theorem dX9_wants_47 : decode cX9_wants 47 = .ok (.goto (-29), 3) := by decide +kernel
theorem dX9_wants_50 : decode cX9_wants 50 = .ok (.iload_n 2, 1) := by decide +kernel
theorem dX9_wants_51 : decode cX9_wants 51 = .ok (.ireturn, 1) := by decide +kernel
theorem dX9_wanted_0 : decode cX9_wanted 0 = .ok (.aload_n 0, 1) := by decide +kernel
theorem dX9_wanted_1 : decode cX9_wanted 1 = .ok (.getfield 19, 3) := by decide +kernel
theorem dX9_wanted_4 : decode cX9_wanted 4 = .ok (.iload_n 1, 1) := by decide +kernel
theorem dX9_wanted_5 : decode cX9_wanted 5 = .ok (.invokevirtual 173, 3) := by decide +kernel
theorem dX9_wanted_8 : decode cX9_wanted 8 = .ok (.ifCond .ne 6, 3) := by decide +kernel
theorem dX9_wanted_11 : decode cX9_wanted 11 = .ok (.ldc 154, 2) := by decide +kernel
theorem dX9_wanted_13 : decode cX9_wanted 13 = .ok (.ireturn, 1) := by decide +kernel
theorem dX9_wanted_14 : decode cX9_wanted 14 = .ok (.iconst 0, 1) := by decide +kernel
theorem dX9_wanted_15 : decode cX9_wanted 15 = .ok (.istore_n 2, 1) := by decide +kernel
theorem dX9_wanted_16 : decode cX9_wanted 16 = .ok (.iconst 0, 1) := by decide +kernel
theorem dX9_wanted_17 : decode cX9_wanted 17 = .ok (.istore_n 3, 1) := by decide +kernel
theorem dX9_wanted_18 : decode cX9_wanted 18 = .ok (.iload_n 3, 1) := by decide +kernel
theorem dX9_wanted_19 : decode cX9_wanted 19 = .ok (.aload_n 0, 1) := by decide +kernel
theorem dX9_wanted_20 : decode cX9_wanted 20 = .ok (.getfield 19, 3) := by decide +kernel
theorem dX9_wanted_23 : decode cX9_wanted 23 = .ok (.getfield 117, 3) := by decide +kernel
theorem dX9_wanted_26 : decode cX9_wanted 26 = .ok (.if_icmp .ge 24, 3) := by decide +kernel
theorem dX9_wanted_29 : decode cX9_wanted 29 = .ok (.aload_n 0, 1) := by decide +kernel
theorem dX9_wanted_30 : decode cX9_wanted 30 = .ok (.getfield 19, 3) := by decide +kernel
theorem dX9_wanted_33 : decode cX9_wanted 33 = .ok (.iload_n 3, 1) := by decide +kernel
theorem dX9_wanted_34 : decode cX9_wanted 34 = .ok (.iload_n 1, 1) := by decide +kernel
theorem dX9_wanted_35 : decode cX9_wanted 35 = .ok (.invokevirtual 219, 3) := by decide +kernel
theorem dX9_wanted_38 : decode cX9_wanted 38 = .ok (.ifCond .eq 6, 3) := by decide +kernel
theorem dX9_wanted_41 : decode cX9_wanted 41 = .ok (.iinc 2 1, 3) := by decide +kernel
theorem dX9_wanted_44 : decode cX9_wanted 44 = .ok (.iinc 3 1, 3) := by decide +kernel
theorem dX9_wanted_47 : decode cX9_wanted 47 = .ok (.goto (-29), 3) := by decide +kernel
theorem dX9_wanted_50 : decode cX9_wanted 50 = .ok (.iload_n 2, 1) := by decide +kernel
theorem dX9_wanted_51 : decode cX9_wanted 51 = .ok (.ireturn, 1) := by decide +kernel
theorem dX9_lost_0 : decode cX9_lost 0 = .ok (.iload_n 1, 1) := by decide +kernel
theorem dX9_lost_1 : decode cX9_lost 1 = .ok (.iconst 1, 1) := by decide +kernel
theorem dX9_lost_2 : decode cX9_lost 2 = .ok (.if_icmp .lt 29, 3) := by decide +kernel
theorem dX9_lost_5 : decode cX9_lost 5 = .ok (.iload_n 1, 1) := by decide +kernel
theorem dX9_lost_6 : decode cX9_lost 6 = .ok (.bipush 20, 2) := by decide +kernel
theorem dX9_lost_8 : decode cX9_lost 8 = .ok (.if_icmp .gt 23, 3) := by decide +kernel
theorem dX9_lost_11 : decode cX9_lost 11 = .ok (.iload_n 2, 1) := by decide +kernel
theorem dX9_lost_12 : decode cX9_lost 12 = .ok (.ifCond .lt 19, 3) := by decide +kernel
theorem dX9_lost_15 : decode cX9_lost 15 = .ok (.iload_n 2, 1) := by decide +kernel
theorem dX9_lost_16 : decode cX9_lost 16 = .ok (.bipush 100, 2) := by decide +kernel
theorem dX9_lost_18 : decode cX9_lost 18 = .ok (.if_icmp .gt 13, 3) := by decide +kernel
theorem dX9_lost_21 : decode cX9_lost 21 = .ok (.iload_n 3, 1) := by decide +kernel
theorem dX9_lost_22 : decode cX9_lost 22 = .ok (.ifCond .lt 9, 3) := by decide +kernel
theorem dX9_lost_25 : decode cX9_lost 25 = .ok (.iload_n 3, 1) := by decide +kernel
theorem dX9_lost_26 : decode cX9_lost 26 = .ok (.bipush 60, 2) := by decide +kernel
theorem dX9_lost_28 : decode cX9_lost 28 = .ok (.if_icmp .le 6, 3) := by decide +kernel
theorem dX9_lost_31 : decode cX9_lost 31 = .ok (.ldc 81, 2) := by decide +kernel
theorem dX9_lost_33 : decode cX9_lost 33 = .ok (.ireturn, 1) := by decide +kernel
theorem dX9_lost_34 : decode cX9_lost 34 = .ok (.aload_n 0, 1) := by decide +kernel
theorem dX9_lost_35 : decode cX9_lost 35 = .ok (.getfield 31, 3) := by decide +kernel
theorem dX9_lost_38 : decode cX9_lost 38 = .ok (.bipush (-2), 2) := by decide +kernel
theorem dX9_lost_40 : decode cX9_lost 40 = .ok (.invokevirtual 142, 3) := by decide +kernel
theorem dX9_lost_43 : decode cX9_lost 43 = .ok (.ifCond .ne 6, 3) := by decide +kernel
theorem dX9_lost_46 : decode cX9_lost 46 = .ok (.ldc 214, 2) := by decide +kernel
theorem dX9_lost_48 : decode cX9_lost 48 = .ok (.ireturn, 1) := by decide +kernel
theorem dX9_lost_49 : decode cX9_lost 49 = .ok (.iconst 0, 1) := by decide +kernel
theorem dX9_lost_50 : decode cX9_lost 50 = .ok (.istore 4, 2) := by decide +kernel
theorem dX9_lost_52 : decode cX9_lost 52 = .ok (.iload 4, 2) := by decide +kernel
theorem dX9_lost_54 : decode cX9_lost 54 = .ok (.iload_n 1, 1) := by decide +kernel
theorem dX9_lost_55 : decode cX9_lost 55 = .ok (.if_icmp .ge 20, 3) := by decide +kernel
theorem dX9_lost_58 : decode cX9_lost 58 = .ok (.aload_n 0, 1) := by decide +kernel
theorem dX9_lost_59 : decode cX9_lost 59 = .ok (.getfield 77, 3) := by decide +kernel
theorem dX9_lost_62 : decode cX9_lost 62 = .ok (.iload 4, 2) := by decide +kernel
theorem dX9_lost_64 : decode cX9_lost 64 = .ok (.ldc 248, 2) := by decide +kernel
theorem dX9_lost_66 : decode cX9_lost 66 = .ok (.iload_n 1, 1) := by decide +kernel
theorem dX9_lost_67 : decode cX9_lost 67 = .ok (.idiv, 1) := by decide +kernel
theorem dX9_lost_68 : decode cX9_lost 68 = .ok (.iastore, 1) := by decide +kernel
theorem dX9_lost_69 : decode cX9_lost 69 = .ok (.iinc 4 1, 3) := by decide +kernel
theorem dX9_lost_72 : decode cX9_lost 72 = .ok (.goto (-20), 3) := by decide +kernel
theorem dX9_lost_75 : decode cX9_lost 75 = .ok (.iconst 0, 1) := by decide +kernel
theorem dX9_lost_76 : decode cX9_lost 76 = .ok (.istore 4, 2) := by decide +kernel
theorem dX9_lost_78 : decode cX9_lost 78 = .ok (.iconst 0, 1) := by decide +kernel
theorem dX9_lost_79 : decode cX9_lost 79 = .ok (.istore 5, 2) := by decide +kernel
theorem dX9_lost_81 : decode cX9_lost 81 = .ok (.iload 5, 2) := by decide +kernel
theorem dX9_lost_83 : decode cX9_lost 83 = .ok (.iload_n 3, 1) := by decide +kernel
theorem dX9_lost_84 : decode cX9_lost 84 = .ok (.if_icmp .ge 47, 3) := by decide +kernel
theorem dX9_lost_87 : decode cX9_lost 87 = .ok (.iload 5, 2) := by decide +kernel
theorem dX9_lost_89 : decode cX9_lost 89 = .ok (.iload_n 1, 1) := by decide +kernel
theorem dX9_lost_90 : decode cX9_lost 90 = .ok (.irem, 1) := by decide +kernel
theorem dX9_lost_91 : decode cX9_lost 91 = .ok (.istore 6, 2) := by decide +kernel
theorem dX9_lost_93 : decode cX9_lost 93 = .ok (.aload_n 0, 1) := by decide +kernel
theorem dX9_lost_94 : decode cX9_lost 94 = .ok (.getfield 77, 3) := by decide +kernel
theorem dX9_lost_97 : decode cX9_lost 97 = .ok (.iload 6, 2) := by decide +kernel
theorem dX9_lost_99 : decode cX9_lost 99 = .ok (.iaload, 1) := by decide +kernel
theorem dX9_lost_100 : decode cX9_lost 100 = .ok (.iload_n 2, 1) := by decide +kernel
theorem dX9_lost_101 : decode cX9_lost 101 = .ok (.invokestatic 249, 3) := by decide +kernel
theorem dX9_lost_104 : decode cX9_lost 104 = .ok (.istore 7, 2) := by decide +kernel
theorem dX9_lost_106 : decode cX9_lost 106 = .ok (.aload_n 0, 1) := by decide +kernel
theorem dX9_lost_107 : decode cX9_lost 107 = .ok (.getfield 77, 3) := by decide +kernel
theorem dX9_lost_110 : decode cX9_lost 110 = .ok (.iload 6, 2) := by decide +kernel
theorem dX9_lost_112 : decode cX9_lost 112 = .ok (.dup2, 1) := by decide +kernel
theorem dX9_lost_113 : decode cX9_lost 113 = .ok (.iaload, 1) := by decide +kernel
theorem dX9_lost_114 : decode cX9_lost 114 = .ok (.iload 7, 2) := by decide +kernel
theorem dX9_lost_116 : decode cX9_lost 116 = .ok (.isub, 1) := by decide +kernel
theorem dX9_lost_117 : decode cX9_lost 117 = .ok (.iastore, 1) := by decide +kernel
theorem dX9_lost_118 : decode cX9_lost 118 = .ok (.iload 4, 2) := by decide +kernel
theorem dX9_lost_120 : decode cX9_lost 120 = .ok (.iload 7, 2) := by decide +kernel
theorem dX9_lost_122 : decode cX9_lost 122 = .ok (.iadd, 1) := by decide +kernel
theorem dX9_lost_123 : decode cX9_lost 123 = .ok (.istore 4, 2) := by decide +kernel
theorem dX9_lost_125 : decode cX9_lost 125 = .ok (.iinc 5 1, 3) := by decide +kernel
theorem dX9_lost_128 : decode cX9_lost 128 = .ok (.goto (-47), 3) := by decide +kernel
theorem dX9_lost_131 : decode cX9_lost 131 = .ok (.iload 4, 2) := by decide +kernel
theorem dX9_lost_133 : decode cX9_lost 133 = .ok (.ireturn, 1) := by decide +kernel
theorem dX9_spares_0 : decode cX9_spares 0 = .ok (.aload_n 0, 1) := by decide +kernel
theorem dX9_spares_1 : decode cX9_spares 1 = .ok (.getfield 19, 3) := by decide +kernel
theorem dX9_spares_4 : decode cX9_spares 4 = .ok (.iload_n 1, 1) := by decide +kernel
theorem dX9_spares_5 : decode cX9_spares 5 = .ok (.invokevirtual 173, 3) := by decide +kernel
theorem dX9_spares_8 : decode cX9_spares 8 = .ok (.ifCond .ne 6, 3) := by decide +kernel
theorem dX9_spares_11 : decode cX9_spares 11 = .ok (.ldc 154, 2) := by decide +kernel
theorem dX9_spares_13 : decode cX9_spares 13 = .ok (.ireturn, 1) := by decide +kernel
theorem dX9_spares_14 : decode cX9_spares 14 = .ok (.aload_n 0, 1) := by decide +kernel
theorem dX9_spares_15 : decode cX9_spares 15 = .ok (.getfield 45, 3) := by decide +kernel
theorem dX9_spares_18 : decode cX9_spares 18 = .ok (.aload_n 0, 1) := by decide +kernel
theorem dX9_spares_19 : decode cX9_spares 19 = .ok (.getfield 19, 3) := by decide +kernel
theorem dX9_spares_22 : decode cX9_spares 22 = .ok (.aload_n 0, 1) := by decide +kernel
theorem dX9_spares_23 : decode cX9_spares 23 = .ok (.getfield 31, 3) := by decide +kernel
theorem dX9_spares_26 : decode cX9_spares 26 = .ok (.iconst 0, 1) := by decide +kernel
theorem dX9_spares_27 : decode cX9_spares 27 = .ok (.invokevirtual 235, 3) := by decide +kernel
theorem dX9_spares_30 : decode cX9_spares 30 = .ok (.aload_n 0, 1) := by decide +kernel
theorem dX9_spares_31 : decode cX9_spares 31 = .ok (.getfield 45, 3) := by decide +kernel
theorem dX9_spares_34 : decode cX9_spares 34 = .ok (.iconst 0, 1) := by decide +kernel
theorem dX9_spares_35 : decode cX9_spares 35 = .ok (.invokevirtual 239, 3) := by decide +kernel
theorem dX9_spares_38 : decode cX9_spares 38 = .ok (.aload_n 0, 1) := by decide +kernel
theorem dX9_spares_39 : decode cX9_spares 39 = .ok (.getfield 45, 3) := by decide +kernel
theorem dX9_spares_42 : decode cX9_spares 42 = .ok (.iconst 1, 1) := by decide +kernel
theorem dX9_spares_43 : decode cX9_spares 43 = .ok (.iload_n 1, 1) := by decide +kernel
theorem dX9_spares_44 : decode cX9_spares 44 = .ok (.ishl, 1) := by decide +kernel
theorem dX9_spares_45 : decode cX9_spares 45 = .ok (.invokevirtual 239, 3) := by decide +kernel
theorem dX9_spares_48 : decode cX9_spares 48 = .ok (.isub, 1) := by decide +kernel
theorem dX9_spares_49 : decode cX9_spares 49 = .ok (.ireturn, 1) := by decide +kernel
theorem dX9_off_0 : decode cX9_off 0 = .ok (.aload_n 0, 1) := by decide +kernel
theorem dX9_off_1 : decode cX9_off 1 = .ok (.getfield 19, 3) := by decide +kernel
theorem dX9_off_4 : decode cX9_off 4 = .ok (.iload_n 1, 1) := by decide +kernel
theorem dX9_off_5 : decode cX9_off 5 = .ok (.invokevirtual 151, 3) := by decide +kernel
theorem dX9_off_8 : decode cX9_off 8 = .ok (.ifCond .ne 6, 3) := by decide +kernel
theorem dX9_off_11 : decode cX9_off 11 = .ok (.ldc 154, 2) := by decide +kernel
theorem dX9_off_13 : decode cX9_off 13 = .ok (.ireturn, 1) := by decide +kernel
theorem dX9_off_14 : decode cX9_off 14 = .ok (.bipush 100, 2) := by decide +kernel
theorem dX9_off_16 : decode cX9_off 16 = .ok (.aload_n 0, 1) := by decide +kernel
theorem dX9_off_17 : decode cX9_off 17 = .ok (.getfield 19, 3) := by decide +kernel
theorem dX9_off_20 : decode cX9_off 20 = .ok (.getfield 158, 3) := by decide +kernel
theorem dX9_off_23 : decode cX9_off 23 = .ok (.iload_n 1, 1) := by decide +kernel
theorem dX9_off_24 : decode cX9_off 24 = .ok (.iaload, 1) := by decide +kernel
theorem dX9_off_25 : decode cX9_off 25 = .ok (.isub, 1) := by decide +kernel
theorem dX9_off_26 : decode cX9_off 26 = .ok (.istore_n 2, 1) := by decide +kernel
theorem dX9_off_27 : decode cX9_off 27 = .ok (.aload_n 0, 1) := by decide +kernel
theorem dX9_off_28 : decode cX9_off 28 = .ok (.getfield 19, 3) := by decide +kernel
theorem dX9_off_31 : decode cX9_off 31 = .ok (.getfield 155, 3) := by decide +kernel
theorem dX9_off_34 : decode cX9_off 34 = .ok (.iload_n 1, 1) := by decide +kernel
theorem dX9_off_35 : decode cX9_off 35 = .ok (.iaload, 1) := by decide +kernel
theorem dX9_off_36 : decode cX9_off 36 = .ok (.iconst 3, 1) := by decide +kernel
theorem dX9_off_37 : decode cX9_off 37 = .ok (.if_icmp .ne 9, 3) := by decide +kernel
theorem dX9_off_40 : decode cX9_off 40 = .ok (.iconst 2, 1) := by decide +kernel
theorem dX9_off_41 : decode cX9_off 41 = .ok (.iload_n 2, 1) := by decide +kernel
theorem dX9_off_42 : decode cX9_off 42 = .ok (.imul, 1) := by decide +kernel
theorem dX9_off_43 : decode cX9_off 43 = .ok (.goto 4, 3) := by decide +kernel
theorem dX9_off_46 : decode cX9_off 46 = .ok (.iload_n 2, 1) := by decide +kernel
theorem dX9_off_47 : decode cX9_off 47 = .ok (.ireturn, 1) := by decide +kernel
theorem dX9_quiet_0 : decode cX9_quiet 0 = .ok (.iload_n 1, 1) := by decide +kernel
theorem dX9_quiet_1 : decode cX9_quiet 1 = .ok (.ifCond .lt 9, 3) := by decide +kernel
theorem dX9_quiet_4 : decode cX9_quiet 4 = .ok (.iload_n 1, 1) := by decide +kernel
theorem dX9_quiet_5 : decode cX9_quiet 5 = .ok (.bipush 60, 2) := by decide +kernel
theorem dX9_quiet_7 : decode cX9_quiet 7 = .ok (.if_icmp .le 6, 3) := by decide +kernel
theorem dX9_quiet_10 : decode cX9_quiet 10 = .ok (.ldc 81, 2) := by decide +kernel
theorem dX9_quiet_12 : decode cX9_quiet 12 = .ok (.ireturn, 1) := by decide +kernel
theorem dX9_quiet_13 : decode cX9_quiet 13 = .ok (.ldc 248, 2) := by decide +kernel
theorem dX9_quiet_15 : decode cX9_quiet 15 = .ok (.istore_n 2, 1) := by decide +kernel
theorem dX9_quiet_16 : decode cX9_quiet 16 = .ok (.iconst 0, 1) := by decide +kernel
theorem dX9_quiet_17 : decode cX9_quiet 17 = .ok (.istore_n 3, 1) := by decide +kernel
theorem dX9_quiet_18 : decode cX9_quiet 18 = .ok (.iload_n 3, 1) := by decide +kernel
theorem dX9_quiet_19 : decode cX9_quiet 19 = .ok (.iload_n 1, 1) := by decide +kernel
theorem dX9_quiet_20 : decode cX9_quiet 20 = .ok (.if_icmp .ge 24, 3) := by decide +kernel
theorem dX9_quiet_23 : decode cX9_quiet 23 = .ok (.iload_n 2, 1) := by decide +kernel
theorem dX9_quiet_24 : decode cX9_quiet 24 = .ok (.bipush 100, 2) := by decide +kernel
theorem dX9_quiet_26 : decode cX9_quiet 26 = .ok (.aload_n 0, 1) := by decide +kernel
theorem dX9_quiet_27 : decode cX9_quiet 27 = .ok (.getfield 19, 3) := by decide +kernel
theorem dX9_quiet_30 : decode cX9_quiet 30 = .ok (.getfield 126, 3) := by decide +kernel
theorem dX9_quiet_33 : decode cX9_quiet 33 = .ok (.isub, 1) := by decide +kernel
theorem dX9_quiet_34 : decode cX9_quiet 34 = .ok (.invokestatic 249, 3) := by decide +kernel
theorem dX9_quiet_37 : decode cX9_quiet 37 = .ok (.istore_n 2, 1) := by decide +kernel
theorem dX9_quiet_38 : decode cX9_quiet 38 = .ok (.iinc 3 1, 3) := by decide +kernel
theorem dX9_quiet_41 : decode cX9_quiet 41 = .ok (.goto (-23), 3) := by decide +kernel
theorem dX9_quiet_44 : decode cX9_quiet 44 = .ok (.iload_n 2, 1) := by decide +kernel
theorem dX9_quiet_45 : decode cX9_quiet 45 = .ok (.ireturn, 1) := by decide +kernel
theorem dX9_trial_0 : decode cX9_trial 0 = .ok (.aload_n 0, 1) := by decide +kernel
theorem dX9_trial_1 : decode cX9_trial 1 = .ok (.getfield 19, 3) := by decide +kernel
theorem dX9_trial_4 : decode cX9_trial 4 = .ok (.iload_n 1, 1) := by decide +kernel
theorem dX9_trial_5 : decode cX9_trial 5 = .ok (.invokevirtual 151, 3) := by decide +kernel
theorem dX9_trial_8 : decode cX9_trial 8 = .ok (.ifCond .eq 14, 3) := by decide +kernel
theorem dX9_trial_11 : decode cX9_trial 11 = .ok (.aload_n 0, 1) := by decide +kernel
theorem dX9_trial_12 : decode cX9_trial 12 = .ok (.getfield 19, 3) := by decide +kernel
theorem dX9_trial_15 : decode cX9_trial 15 = .ok (.iload_n 2, 1) := by decide +kernel
theorem dX9_trial_16 : decode cX9_trial 16 = .ok (.invokevirtual 173, 3) := by decide +kernel
theorem dX9_trial_19 : decode cX9_trial 19 = .ok (.ifCond .ne 6, 3) := by decide +kernel
theorem dX9_trial_22 : decode cX9_trial 22 = .ok (.ldc 154, 2) := by decide +kernel
theorem dX9_trial_24 : decode cX9_trial 24 = .ok (.ireturn, 1) := by decide +kernel
theorem dX9_trial_25 : decode cX9_trial 25 = .ok (.aload_n 0, 1) := by decide +kernel
theorem dX9_trial_26 : decode cX9_trial 26 = .ok (.getfield 52, 3) := by decide +kernel
theorem dX9_trial_29 : decode cX9_trial 29 = .ok (.iload_n 1, 1) := by decide +kernel
theorem dX9_trial_30 : decode cX9_trial 30 = .ok (.iload_n 2, 1) := by decide +kernel
theorem dX9_trial_31 : decode cX9_trial 31 = .ok (.iload_n 3, 1) := by decide +kernel
theorem dX9_trial_32 : decode cX9_trial 32 = .ok (.invokevirtual 253, 3) := by decide +kernel
theorem dX9_trial_35 : decode cX9_trial 35 = .ok (.ifCond .eq 13, 3) := by decide +kernel
theorem dX9_trial_38 : decode cX9_trial 38 = .ok (.aload_n 0, 1) := by decide +kernel
theorem dX9_trial_39 : decode cX9_trial 39 = .ok (.getfield 52, 3) := by decide +kernel
theorem dX9_trial_42 : decode cX9_trial 42 = .ok (.getfield 149, 3) := by decide +kernel
theorem dX9_trial_45 : decode cX9_trial 45 = .ok (.goto 5, 3) := by decide +kernel
theorem dX9_trial_48 : decode cX9_trial 48 = .ok (.ldc 90, 2) := by decide +kernel
theorem dX9_trial_50 : decode cX9_trial 50 = .ok (.ireturn, 1) := by decide +kernel
theorem dX9_whose_0 : decode cX9_whose 0 = .ok (.iload_n 1, 1) := by decide +kernel
theorem dX9_whose_1 : decode cX9_whose 1 = .ok (.iconst (-1), 1) := by decide +kernel
theorem dX9_whose_2 : decode cX9_whose 2 = .ok (.if_icmp .eq 17, 3) := by decide +kernel
theorem dX9_whose_5 : decode cX9_whose 5 = .ok (.aload_n 0, 1) := by decide +kernel
theorem dX9_whose_6 : decode cX9_whose 6 = .ok (.getfield 19, 3) := by decide +kernel
theorem dX9_whose_9 : decode cX9_whose 9 = .ok (.iload_n 1, 1) := by decide +kernel
theorem dX9_whose_10 : decode cX9_whose 10 = .ok (.invokevirtual 151, 3) := by decide +kernel
theorem dX9_whose_13 : decode cX9_whose 13 = .ok (.ifCond .ne 6, 3) := by decide +kernel
theorem dX9_whose_16 : decode cX9_whose 16 = .ok (.ldc 154, 2) := by decide +kernel
theorem dX9_whose_18 : decode cX9_whose 18 = .ok (.ireturn, 1) := by decide +kernel
theorem dX9_whose_19 : decode cX9_whose 19 = .ok (.aload_n 0, 1) := by decide +kernel
