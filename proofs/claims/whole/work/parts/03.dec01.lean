theorem dX6_readNumber_25 : decode cX6_readNumber 25 = .ok (.aload_n 0, 1) := by decide +kernel
theorem dX6_readNumber_26 : decode cX6_readNumber 26 = .ok (.getfield 27, 3) := by decide +kernel
theorem dX6_readNumber_29 : decode cX6_readNumber 29 = .ok (.invokevirtual 47, 3) := by decide +kernel
theorem dX6_readNumber_32 : decode cX6_readNumber 32 = .ok (.iconst 0, 1) := by decide +kernel
theorem dX6_readNumber_33 : decode cX6_readNumber 33 = .ok (.ireturn, 1) := by decide +kernel
theorem dX6_readNumber_34 : decode cX6_readNumber 34 = .ok (.aload_n 0, 1) := by decide +kernel
theorem dX6_readNumber_35 : decode cX6_readNumber 35 = .ok (.aload_n 0, 1) := by decide +kernel
theorem dX6_readNumber_36 : decode cX6_readNumber 36 = .ok (.getfield 27, 3) := by decide +kernel
theorem dX6_readNumber_39 : decode cX6_readNumber 39 = .ok (.putfield 95, 3) := by decide +kernel
theorem dX6_readNumber_42 : decode cX6_readNumber 42 = .ok (.iconst 0, 1) := by decide +kernel
theorem dX6_readNumber_43 : decode cX6_readNumber 43 = .ok (.istore_n 3, 1) := by decide +kernel
theorem dX6_readNumber_44 : decode cX6_readNumber 44 = .ok (.iconst 0, 1) := by decide +kernel
theorem dX6_readNumber_45 : decode cX6_readNumber 45 = .ok (.istore 4, 2) := by decide +kernel
theorem dX6_readNumber_47 : decode cX6_readNumber 47 = .ok (.iconst 0, 1) := by decide +kernel
theorem dX6_readNumber_48 : decode cX6_readNumber 48 = .ok (.istore 5, 2) := by decide +kernel
theorem dX6_readNumber_50 : decode cX6_readNumber 50 = .ok (.iload 5, 2) := by decide +kernel
theorem dX6_readNumber_52 : decode cX6_readNumber 52 = .ok (.sipush 240, 3) := by decide +kernel
theorem dX6_readNumber_55 : decode cX6_readNumber 55 = .ok (.if_icmp .ge 51, 3) := by decide +kernel
theorem dX6_readNumber_58 : decode cX6_readNumber 58 = .ok (.aload_n 0, 1) := by decide +kernel
theorem dX6_readNumber_59 : decode cX6_readNumber 59 = .ok (.invokevirtual 43, 3) := by decide +kernel
theorem dX6_readNumber_62 : decode cX6_readNumber 62 = .ok (.invokestatic 101, 3) := by decide +kernel
theorem dX6_readNumber_65 : decode cX6_readNumber 65 = .ok (.ifCond .eq 41, 3) := by decide +kernel
theorem dX6_readNumber_68 : decode cX6_readNumber 68 = .ok (.iinc 4 1, 3) := by decide +kernel
theorem dX6_readNumber_71 : decode cX6_readNumber 71 = .ok (.iload 4, 2) := by decide +kernel
theorem dX6_readNumber_73 : decode cX6_readNumber 73 = .ok (.iconst 3, 1) := by decide +kernel
theorem dX6_readNumber_74 : decode cX6_readNumber 74 = .ok (.if_icmp .gt 16, 3) := by decide +kernel
theorem dX6_readNumber_77 : decode cX6_readNumber 77 = .ok (.bipush 10, 2) := by decide +kernel
theorem dX6_readNumber_79 : decode cX6_readNumber 79 = .ok (.iload_n 3, 1) := by decide +kernel
theorem dX6_readNumber_80 : decode cX6_readNumber 80 = .ok (.imul, 1) := by decide +kernel
theorem dX6_readNumber_81 : decode cX6_readNumber 81 = .ok (.aload_n 0, 1) := by decide +kernel
theorem dX6_readNumber_82 : decode cX6_readNumber 82 = .ok (.invokevirtual 43, 3) := by decide +kernel
theorem dX6_readNumber_85 : decode cX6_readNumber 85 = .ok (.iadd, 1) := by decide +kernel
theorem dX6_readNumber_86 : decode cX6_readNumber 86 = .ok (.bipush 48, 2) := by decide +kernel
theorem dX6_readNumber_88 : decode cX6_readNumber 88 = .ok (.isub, 1) := by decide +kernel
theorem dX6_readNumber_89 : decode cX6_readNumber 89 = .ok (.istore_n 3, 1) := by decide +kernel
theorem dX6_readNumber_90 : decode cX6_readNumber 90 = .ok (.aload_n 0, 1) := by decide +kernel
theorem dX6_readNumber_91 : decode cX6_readNumber 91 = .ok (.dup, 1) := by decide +kernel
theorem dX6_readNumber_92 : decode cX6_readNumber 92 = .ok (.getfield 27, 3) := by decide +kernel
theorem dX6_readNumber_95 : decode cX6_readNumber 95 = .ok (.iconst 1, 1) := by decide +kernel
theorem dX6_readNumber_96 : decode cX6_readNumber 96 = .ok (.iadd, 1) := by decide +kernel
theorem dX6_readNumber_97 : decode cX6_readNumber 97 = .ok (.putfield 27, 3) := by decide +kernel
theorem dX6_readNumber_100 : decode cX6_readNumber 100 = .ok (.iinc 5 1, 3) := by decide +kernel
theorem dX6_readNumber_103 : decode cX6_readNumber 103 = .ok (.goto (-53), 3) := by decide +kernel
theorem dX6_readNumber_106 : decode cX6_readNumber 106 = .ok (.iload 4, 2) := by decide +kernel
theorem dX6_readNumber_108 : decode cX6_readNumber 108 = .ok (.iconst 3, 1) := by decide +kernel
theorem dX6_readNumber_109 : decode cX6_readNumber 109 = .ok (.if_icmp .gt 13, 3) := by decide +kernel
theorem dX6_readNumber_112 : decode cX6_readNumber 112 = .ok (.iload_n 3, 1) := by decide +kernel
theorem dX6_readNumber_113 : decode cX6_readNumber 113 = .ok (.iload_n 1, 1) := by decide +kernel
theorem dX6_readNumber_114 : decode cX6_readNumber 114 = .ok (.if_icmp .lt 8, 3) := by decide +kernel
theorem dX6_readNumber_117 : decode cX6_readNumber 117 = .ok (.iload_n 3, 1) := by decide +kernel
theorem dX6_readNumber_118 : decode cX6_readNumber 118 = .ok (.iload_n 2, 1) := by decide +kernel
theorem dX6_readNumber_119 : decode cX6_readNumber 119 = .ok (.if_icmp .le 12, 3) := by decide +kernel
theorem dX6_readNumber_122 : decode cX6_readNumber 122 = .ok (.aload_n 0, 1) := by decide +kernel
theorem dX6_readNumber_123 : decode cX6_readNumber 123 = .ok (.iconst 2, 1) := by decide +kernel
theorem dX6_readNumber_124 : decode cX6_readNumber 124 = .ok (.aload_n 0, 1) := by decide +kernel
theorem dX6_readNumber_125 : decode cX6_readNumber 125 = .ok (.getfield 95, 3) := by decide +kernel
theorem dX6_readNumber_128 : decode cX6_readNumber 128 = .ok (.invokevirtual 47, 3) := by decide +kernel
theorem dX6_readNumber_131 : decode cX6_readNumber 131 = .ok (.iload_n 3, 1) := by decide +kernel
theorem dX6_readNumber_132 : decode cX6_readNumber 132 = .ok (.ireturn, 1) := by decide +kernel
theorem dX6_readSemicolon_0 : decode cX6_readSemicolon 0 = .ok (.aload_n 0, 1) := by decide +kernel
theorem dX6_readSemicolon_1 : decode cX6_readSemicolon 1 = .ok (.getfield 30, 3) := by decide +kernel
theorem dX6_readSemicolon_4 : decode cX6_readSemicolon 4 = .ok (.ifCond .eq 4, 3) := by decide +kernel
theorem dX6_readSemicolon_7 : decode cX6_readSemicolon 7 = .ok (.return_, 1) := by decide +kernel
theorem dX6_readSemicolon_8 : decode cX6_readSemicolon 8 = .ok (.aload_n 0, 1) := by decide +kernel
theorem dX6_readSemicolon_9 : decode cX6_readSemicolon 9 = .ok (.invokevirtual 33, 3) := by decide +kernel
theorem dX6_readSemicolon_12 : decode cX6_readSemicolon 12 = .ok (.aload_n 0, 1) := by decide +kernel
theorem dX6_readSemicolon_13 : decode cX6_readSemicolon 13 = .ok (.invokevirtual 43, 3) := by decide +kernel
theorem dX6_readSemicolon_16 : decode cX6_readSemicolon 16 = .ok (.bipush 59, 2) := by decide +kernel
theorem dX6_readSemicolon_18 : decode cX6_readSemicolon 18 = .ok (.if_icmp .eq 13, 3) := by decide +kernel
theorem dX6_readSemicolon_21 : decode cX6_readSemicolon 21 = .ok (.aload_n 0, 1) := by decide +kernel
theorem dX6_readSemicolon_22 : decode cX6_readSemicolon 22 = .ok (.iconst 1, 1) := by decide +kernel
theorem dX6_readSemicolon_23 : decode cX6_readSemicolon 23 = .ok (.aload_n 0, 1) := by decide +kernel
theorem dX6_readSemicolon_24 : decode cX6_readSemicolon 24 = .ok (.getfield 27, 3) := by decide +kernel
theorem dX6_readSemicolon_27 : decode cX6_readSemicolon 27 = .ok (.invokevirtual 47, 3) := by decide +kernel
theorem dX6_readSemicolon_30 : decode cX6_readSemicolon 30 = .ok (.return_, 1) := by decide +kernel
theorem dX6_readSemicolon_31 : decode cX6_readSemicolon 31 = .ok (.aload_n 0, 1) := by decide +kernel
theorem dX6_readSemicolon_32 : decode cX6_readSemicolon 32 = .ok (.dup, 1) := by decide +kernel
theorem dX6_readSemicolon_33 : decode cX6_readSemicolon 33 = .ok (.getfield 27, 3) := by decide +kernel
theorem dX6_readSemicolon_36 : decode cX6_readSemicolon 36 = .ok (.iconst 1, 1) := by decide +kernel
theorem dX6_readSemicolon_37 : decode cX6_readSemicolon 37 = .ok (.iadd, 1) := by decide +kernel
theorem dX6_readSemicolon_38 : decode cX6_readSemicolon 38 = .ok (.putfield 27, 3) := by decide +kernel
theorem dX6_readSemicolon_41 : decode cX6_readSemicolon 41 = .ok (.return_, 1) := by decide +kernel
theorem dX6_skipBlanks_0 : decode cX6_skipBlanks 0 = .ok (.aload_n 0, 1) := by decide +kernel
theorem dX6_skipBlanks_1 : decode cX6_skipBlanks 1 = .ok (.getfield 27, 3) := by decide +kernel
theorem dX6_skipBlanks_4 : decode cX6_skipBlanks 4 = .ok (.ifCond .lt 51, 3) := by decide +kernel
theorem dX6_skipBlanks_7 : decode cX6_skipBlanks 7 = .ok (.aload_n 0, 1) := by decide +kernel
theorem dX6_skipBlanks_8 : decode cX6_skipBlanks 8 = .ok (.getfield 27, 3) := by decide +kernel
theorem dX6_skipBlanks_11 : decode cX6_skipBlanks 11 = .ok (.aload_n 0, 1) := by decide +kernel
theorem dX6_skipBlanks_12 : decode cX6_skipBlanks 12 = .ok (.getfield 19, 3) := by decide +kernel
theorem dX6_skipBlanks_15 : decode cX6_skipBlanks 15 = .ok (.if_icmp .ge 40, 3) := by decide +kernel
theorem dX6_skipBlanks_18 : decode cX6_skipBlanks 18 = .ok (.aload_n 0, 1) := by decide +kernel
theorem dX6_skipBlanks_19 : decode cX6_skipBlanks 19 = .ok (.getfield 27, 3) := by decide +kernel
theorem dX6_skipBlanks_22 : decode cX6_skipBlanks 22 = .ok (.sipush 240, 3) := by decide +kernel
theorem dX6_skipBlanks_25 : decode cX6_skipBlanks 25 = .ok (.if_icmp .ge 30, 3) := by decide +kernel
theorem dX6_skipBlanks_28 : decode cX6_skipBlanks 28 = .ok (.aload_n 0, 1) := by decide +kernel
theorem dX6_skipBlanks_29 : decode cX6_skipBlanks 29 = .ok (.getfield 9, 3) := by decide +kernel
theorem dX6_skipBlanks_32 : decode cX6_skipBlanks 32 = .ok (.aload_n 0, 1) := by decide +kernel
theorem dX6_skipBlanks_33 : decode cX6_skipBlanks 33 = .ok (.getfield 27, 3) := by decide +kernel
theorem dX6_skipBlanks_36 : decode cX6_skipBlanks 36 = .ok (.iaload, 1) := by decide +kernel
theorem dX6_skipBlanks_37 : decode cX6_skipBlanks 37 = .ok (.bipush 32, 2) := by decide +kernel
theorem dX6_skipBlanks_39 : decode cX6_skipBlanks 39 = .ok (.if_icmp .ne 16, 3) := by decide +kernel
theorem dX6_skipBlanks_42 : decode cX6_skipBlanks 42 = .ok (.aload_n 0, 1) := by decide +kernel
theorem dX6_skipBlanks_43 : decode cX6_skipBlanks 43 = .ok (.dup, 1) := by decide +kernel
theorem dX6_skipBlanks_44 : decode cX6_skipBlanks 44 = .ok (.getfield 27, 3) := by decide +kernel
theorem dX6_skipBlanks_47 : decode cX6_skipBlanks 47 = .ok (.iconst 1, 1) := by decide +kernel
theorem dX6_skipBlanks_48 : decode cX6_skipBlanks 48 = .ok (.iadd, 1) := by decide +kernel
theorem dX6_skipBlanks_49 : decode cX6_skipBlanks 49 = .ok (.putfield 27, 3) := by decide +kernel
theorem dX6_skipBlanks_52 : decode cX6_skipBlanks 52 = .ok (.goto (-52), 3) := by decide +kernel
theorem dX6_skipBlanks_55 : decode cX6_skipBlanks 55 = .ok (.return_, 1) := by decide +kernel
theorem dX6_letterHere_0 : decode cX6_letterHere 0 = .ok (.aload_n 0, 1) := by decide +kernel
theorem dX6_letterHere_1 : decode cX6_letterHere 1 = .ok (.getfield 27, 3) := by decide +kernel
theorem dX6_letterHere_4 : decode cX6_letterHere 4 = .ok (.ifCond .lt 36, 3) := by decide +kernel
theorem dX6_letterHere_7 : decode cX6_letterHere 7 = .ok (.aload_n 0, 1) := by decide +kernel
theorem dX6_letterHere_8 : decode cX6_letterHere 8 = .ok (.getfield 27, 3) := by decide +kernel
theorem dX6_letterHere_11 : decode cX6_letterHere 11 = .ok (.aload_n 0, 1) := by decide +kernel
theorem dX6_letterHere_12 : decode cX6_letterHere 12 = .ok (.getfield 19, 3) := by decide +kernel
theorem dX6_letterHere_15 : decode cX6_letterHere 15 = .ok (.if_icmp .ge 25, 3) := by decide +kernel
theorem dX6_letterHere_18 : decode cX6_letterHere 18 = .ok (.aload_n 0, 1) := by decide +kernel
theorem dX6_letterHere_19 : decode cX6_letterHere 19 = .ok (.getfield 27, 3) := by decide +kernel
theorem dX6_letterHere_22 : decode cX6_letterHere 22 = .ok (.sipush 240, 3) := by decide +kernel
theorem dX6_letterHere_25 : decode cX6_letterHere 25 = .ok (.if_icmp .ge 15, 3) := by decide +kernel
theorem dX6_letterHere_28 : decode cX6_letterHere 28 = .ok (.aload_n 0, 1) := by decide +kernel
theorem dX6_letterHere_29 : decode cX6_letterHere 29 = .ok (.getfield 9, 3) := by decide +kernel
theorem dX6_letterHere_32 : decode cX6_letterHere 32 = .ok (.aload_n 0, 1) := by decide +kernel
theorem dX6_letterHere_33 : decode cX6_letterHere 33 = .ok (.getfield 27, 3) := by decide +kernel
theorem dX6_letterHere_36 : decode cX6_letterHere 36 = .ok (.iaload, 1) := by decide +kernel
theorem dX6_letterHere_37 : decode cX6_letterHere 37 = .ok (.goto 4, 3) := by decide +kernel
theorem dX6_letterHere_40 : decode cX6_letterHere 40 = .ok (.iconst (-1), 1) := by decide +kernel
theorem dX6_letterHere_41 : decode cX6_letterHere 41 = .ok (.ireturn, 1) := by decide +kernel
theorem dX6_isFigure_0 : decode cX6_isFigure 0 = .ok (.iload_n 0, 1) := by decide +kernel
theorem dX6_isFigure_1 : decode cX6_isFigure 1 = .ok (.bipush 48, 2) := by decide +kernel
theorem dX6_isFigure_3 : decode cX6_isFigure 3 = .ok (.if_icmp .lt 13, 3) := by decide +kernel
theorem dX6_isFigure_6 : decode cX6_isFigure 6 = .ok (.iload_n 0, 1) := by decide +kernel
theorem dX6_isFigure_7 : decode cX6_isFigure 7 = .ok (.bipush 57, 2) := by decide +kernel
theorem dX6_isFigure_9 : decode cX6_isFigure 9 = .ok (.if_icmp .gt 7, 3) := by decide +kernel
theorem dX6_isFigure_12 : decode cX6_isFigure 12 = .ok (.iconst 1, 1) := by decide +kernel
theorem dX6_isFigure_13 : decode cX6_isFigure 13 = .ok (.goto 4, 3) := by decide +kernel
theorem dX6_isFigure_16 : decode cX6_isFigure 16 = .ok (.iconst 0, 1) := by decide +kernel
theorem dX6_isFigure_17 : decode cX6_isFigure 17 = .ok (.ireturn, 1) := by decide +kernel
theorem dX6_fail_0 : decode cX6_fail 0 = .ok (.aload_n 0, 1) := by decide +kernel
theorem dX6_fail_1 : decode cX6_fail 1 = .ok (.getfield 30, 3) := by decide +kernel
theorem dX6_fail_4 : decode cX6_fail 4 = .ok (.ifCond .ne 13, 3) := by decide +kernel
theorem dX6_fail_7 : decode cX6_fail 7 = .ok (.aload_n 0, 1) := by decide +kernel
theorem dX6_fail_8 : decode cX6_fail 8 = .ok (.iload_n 1, 1) := by decide +kernel
theorem dX6_fail_9 : decode cX6_fail 9 = .ok (.putfield 30, 3) := by decide +kernel
theorem dX6_fail_12 : decode cX6_fail 12 = .ok (.aload_n 0, 1) := by decide +kernel
theorem dX6_fail_13 : decode cX6_fail 13 = .ok (.iload_n 2, 1) := by decide +kernel
theorem dX6_fail_14 : decode cX6_fail 14 = .ok (.putfield 15, 3) := by decide +kernel
theorem dX6_fail_17 : decode cX6_fail 17 = .ok (.return_, 1) := by decide +kernel
theorem dX7_init_0 : decode cX7_init 0 = .ok (.aload_n 0, 1) := by decide +kernel
theorem dX7_init_1 : decode cX7_init 1 = .ok (.invokespecial 3, 3) := by decide +kernel
theorem dX7_init_4 : decode cX7_init 4 = .ok (.aload_n 0, 1) := by decide +kernel
theorem dX7_init_5 : decode cX7_init 5 = .ok (.bipush 8, 2) := by decide +kernel
theorem dX7_init_7 : decode cX7_init 7 = .ok (.newarray .int, 2) := by decide +kernel
theorem dX7_init_9 : decode cX7_init 9 = .ok (.putfield 9, 3) := by decide +kernel
theorem dX7_init_12 : decode cX7_init 12 = .ok (.aload_n 0, 1) := by decide +kernel
theorem dX7_init_13 : decode cX7_init 13 = .ok (.bipush 8, 2) := by decide +kernel
theorem dX7_init_15 : decode cX7_init 15 = .ok (.newarray .int, 2) := by decide +kernel
theorem dX7_init_17 : decode cX7_init 17 = .ok (.putfield 15, 3) := by decide +kernel
theorem dX7_init_20 : decode cX7_init 20 = .ok (.aload_n 0, 1) := by decide +kernel
theorem dX7_init_21 : decode cX7_init 21 = .ok (.bipush 8, 2) := by decide +kernel
theorem dX7_init_23 : decode cX7_init 23 = .ok (.newarray .boolean, 2) := by decide +kernel
theorem dX7_init_25 : decode cX7_init 25 = .ok (.putfield 18, 3) := by decide +kernel
theorem dX7_init_28 : decode cX7_init 28 = .ok (.aload_n 0, 1) := by decide +kernel
theorem dX7_init_29 : decode cX7_init 29 = .ok (.bipush 6, 2) := by decide +kernel
theorem dX7_init_31 : decode cX7_init 31 = .ok (.newarray .int, 2) := by decide +kernel
theorem dX7_init_33 : decode cX7_init 33 = .ok (.putfield 22, 3) := by decide +kernel
theorem dX7_init_36 : decode cX7_init 36 = .ok (.aload_n 0, 1) := by decide +kernel
theorem dX7_init_37 : decode cX7_init 37 = .ok (.bipush 64, 2) := by decide +kernel
theorem dX7_init_39 : decode cX7_init 39 = .ok (.newarray .int, 2) := by decide +kernel
theorem dX7_init_41 : decode cX7_init 41 = .ok (.putfield 25, 3) := by decide +kernel
theorem dX7_init_44 : decode cX7_init 44 = .ok (.aload_n 0, 1) := by decide +kernel
theorem dX7_init_45 : decode cX7_init 45 = .ok (.bipush 64, 2) := by decide +kernel
theorem dX7_init_47 : decode cX7_init 47 = .ok (.newarray .int, 2) := by decide +kernel
theorem dX7_init_49 : decode cX7_init 49 = .ok (.putfield 28, 3) := by decide +kernel
theorem dX7_init_52 : decode cX7_init 52 = .ok (.aload_n 0, 1) := by decide +kernel
theorem dX7_init_53 : decode cX7_init 53 = .ok (.bipush 6, 2) := by decide +kernel
theorem dX7_init_55 : decode cX7_init 55 = .ok (.bipush 6, 2) := by decide +kernel
theorem dX7_init_57 : decode cX7_init 57 = .ok (.multianewarray 31 2, 4) := by decide +kernel
theorem dX7_init_61 : decode cX7_init 61 = .ok (.putfield 33, 3) := by decide +kernel
theorem dX7_init_64 : decode cX7_init 64 = .ok (.aload_n 0, 1) := by decide +kernel
theorem dX7_init_65 : decode cX7_init 65 = .ok (.aload_n 1, 1) := by decide +kernel
theorem dX7_init_66 : decode cX7_init 66 = .ok (.putfield 36, 3) := by decide +kernel
theorem dX7_init_69 : decode cX7_init 69 = .ok (.return_, 1) := by decide +kernel
theorem dX7_clear_0 : decode cX7_clear 0 = .ok (.aload_n 0, 1) := by decide +kernel
theorem dX7_clear_1 : decode cX7_clear 1 = .ok (.iconst 0, 1) := by decide +kernel
theorem dX7_clear_2 : decode cX7_clear 2 = .ok (.putfield 40, 3) := by decide +kernel
theorem dX7_clear_5 : decode cX7_clear 5 = .ok (.return_, 1) := by decide +kernel
theorem dX7_append_0 : decode cX7_append 0 = .ok (.aload_n 0, 1) := by decide +kernel
theorem dX7_append_1 : decode cX7_append 1 = .ok (.getfield 40, 3) := by decide +kernel
theorem dX7_append_4 : decode cX7_append 4 = .ok (.bipush 8, 2) := by decide +kernel
theorem dX7_append_6 : decode cX7_append 6 = .ok (.if_icmp .lt 5, 3) := by decide +kernel
theorem dX7_append_9 : decode cX7_append 9 = .ok (.iconst 0, 1) := by decide +kernel
theorem dX7_append_10 : decode cX7_append 10 = .ok (.ireturn, 1) := by decide +kernel
theorem dX7_append_11 : decode cX7_append 11 = .ok (.aload_n 0, 1) := by decide +kernel
theorem dX7_append_12 : decode cX7_append 12 = .ok (.getfield 9, 3) := by decide +kernel
theorem dX7_append_15 : decode cX7_append 15 = .ok (.aload_n 0, 1) := by decide +kernel
theorem dX7_append_16 : decode cX7_append 16 = .ok (.getfield 40, 3) := by decide +kernel
theorem dX7_append_19 : decode cX7_append 19 = .ok (.iload_n 1, 1) := by decide +kernel
theorem dX7_append_20 : decode cX7_append 20 = .ok (.iastore, 1) := by decide +kernel
theorem dX7_append_21 : decode cX7_append 21 = .ok (.aload_n 0, 1) := by decide +kernel
theorem dX7_append_22 : decode cX7_append 22 = .ok (.getfield 15, 3) := by decide +kernel
theorem dX7_append_25 : decode cX7_append 25 = .ok (.aload_n 0, 1) := by decide +kernel
theorem dX7_append_26 : decode cX7_append 26 = .ok (.getfield 40, 3) := by decide +kernel
theorem dX7_append_29 : decode cX7_append 29 = .ok (.iload_n 2, 1) := by decide +kernel
theorem dX7_append_30 : decode cX7_append 30 = .ok (.iastore, 1) := by decide +kernel
theorem dX7_append_31 : decode cX7_append 31 = .ok (.aload_n 0, 1) := by decide +kernel
theorem dX7_append_32 : decode cX7_append 32 = .ok (.getfield 18, 3) := by decide +kernel
theorem dX7_append_35 : decode cX7_append 35 = .ok (.aload_n 0, 1) := by decide +kernel
theorem dX7_append_36 : decode cX7_append 36 = .ok (.getfield 40, 3) := by decide +kernel
theorem dX7_append_39 : decode cX7_append 39 = .ok (.iload_n 3, 1) := by decide +kernel
theorem dX7_append_40 : decode cX7_append 40 = .ok (.bastore, 1) := by decide +kernel
theorem dX7_append_41 : decode cX7_append 41 = .ok (.aload_n 0, 1) := by decide +kernel
theorem dX7_append_42 : decode cX7_append 42 = .ok (.dup, 1) := by decide +kernel
theorem dX7_append_43 : decode cX7_append 43 = .ok (.getfield 40, 3) := by decide +kernel
theorem dX7_append_46 : decode cX7_append 46 = .ok (.iconst 1, 1) := by decide +kernel
theorem dX7_append_47 : decode cX7_append 47 = .ok (.iadd, 1) := by decide +kernel
theorem dX7_append_48 : decode cX7_append 48 = .ok (.putfield 40, 3) := by decide +kernel
theorem dX7_append_51 : decode cX7_append 51 = .ok (.iconst 1, 1) := by decide +kernel
theorem dX7_append_52 : decode cX7_append 52 = .ok (.ireturn, 1) := by decide +kernel
theorem dX7_solve_0 : decode cX7_solve 0 = .ok (.iconst 0, 1) := by decide +kernel
theorem dX7_solve_1 : decode cX7_solve 1 = .ok (.istore_n 1, 1) := by decide +kernel
theorem dX7_solve_2 : decode cX7_solve 2 = .ok (.iload_n 1, 1) := by decide +kernel
theorem dX7_solve_3 : decode cX7_solve 3 = .ok (.aload_n 0, 1) := by decide +kernel
theorem dX7_solve_4 : decode cX7_solve 4 = .ok (.getfield 36, 3) := by decide +kernel
theorem dX7_solve_7 : decode cX7_solve 7 = .ok (.getfield 44, 3) := by decide +kernel
theorem dX7_solve_10 : decode cX7_solve 10 = .ok (.if_icmp .ge 65, 3) := by decide +kernel
theorem dX7_solve_13 : decode cX7_solve 13 = .ok (.aload_n 0, 1) := by decide +kernel
theorem dX7_solve_14 : decode cX7_solve 14 = .ok (.getfield 22, 3) := by decide +kernel
theorem dX7_solve_17 : decode cX7_solve 17 = .ok (.iload_n 1, 1) := by decide +kernel
theorem dX7_solve_18 : decode cX7_solve 18 = .ok (.iconst 0, 1) := by decide +kernel
theorem dX7_solve_19 : decode cX7_solve 19 = .ok (.iastore, 1) := by decide +kernel
theorem dX7_solve_20 : decode cX7_solve 20 = .ok (.iconst 0, 1) := by decide +kernel
theorem dX7_solve_21 : decode cX7_solve 21 = .ok (.istore_n 2, 1) := by decide +kernel
theorem dX7_solve_22 : decode cX7_solve 22 = .ok (.iload_n 2, 1) := by decide +kernel
theorem dX7_solve_23 : decode cX7_solve 23 = .ok (.aload_n 0, 1) := by decide +kernel
theorem dX7_solve_24 : decode cX7_solve 24 = .ok (.getfield 36, 3) := by decide +kernel
theorem dX7_solve_27 : decode cX7_solve 27 = .ok (.getfield 49, 3) := by decide +kernel
theorem dX7_solve_30 : decode cX7_solve 30 = .ok (.if_icmp .ge 39, 3) := by decide +kernel
theorem dX7_solve_33 : decode cX7_solve 33 = .ok (.aload_n 0, 1) := by decide +kernel
theorem dX7_solve_34 : decode cX7_solve 34 = .ok (.getfield 33, 3) := by decide +kernel
theorem dX7_solve_37 : decode cX7_solve 37 = .ok (.iload_n 1, 1) := by decide +kernel
theorem dX7_solve_38 : decode cX7_solve 38 = .ok (.aaload, 1) := by decide +kernel
theorem dX7_solve_39 : decode cX7_solve 39 = .ok (.iload_n 2, 1) := by decide +kernel
theorem dX7_solve_40 : decode cX7_solve 40 = .ok (.iconst 0, 1) := by decide +kernel
theorem dX7_solve_41 : decode cX7_solve 41 = .ok (.iastore, 1) := by decide +kernel
theorem dX7_solve_42 : decode cX7_solve 42 = .ok (.aload_n 0, 1) := by decide +kernel
theorem dX7_solve_43 : decode cX7_solve 43 = .ok (.iload_n 1, 1) := by decide +kernel
theorem dX7_solve_44 : decode cX7_solve 44 = .ok (.iload_n 2, 1) := by decide +kernel
theorem dX7_solve_45 : decode cX7_solve 45 = .ok (.invokevirtual 52, 3) := by decide +kernel
theorem dX7_solve_48 : decode cX7_solve 48 = .ok (.ifCond .eq 15, 3) := by decide +kernel
theorem dX7_solve_51 : decode cX7_solve 51 = .ok (.aload_n 0, 1) := by decide +kernel
theorem dX7_solve_52 : decode cX7_solve 52 = .ok (.getfield 22, 3) := by decide +kernel
theorem dX7_solve_55 : decode cX7_solve 55 = .ok (.iload_n 1, 1) := by decide +kernel
theorem dX7_solve_56 : decode cX7_solve 56 = .ok (.dup2, 1) := by decide +kernel
theorem dX7_solve_57 : decode cX7_solve 57 = .ok (.iaload, 1) := by decide +kernel
theorem dX7_solve_58 : decode cX7_solve 58 = .ok (.iconst 1, 1) := by decide +kernel
theorem dX7_solve_59 : decode cX7_solve 59 = .ok (.iload_n 2, 1) := by decide +kernel
theorem dX7_solve_60 : decode cX7_solve 60 = .ok (.ishl, 1) := by decide +kernel
theorem dX7_solve_61 : decode cX7_solve 61 = .ok (.ior, 1) := by decide +kernel
theorem dX7_solve_62 : decode cX7_solve 62 = .ok (.iastore, 1) := by decide +kernel
theorem dX7_solve_63 : decode cX7_solve 63 = .ok (.iinc 2 1, 3) := by decide +kernel
theorem dX7_solve_66 : decode cX7_solve 66 = .ok (.goto (-44), 3) := by decide +kernel
theorem dX7_solve_69 : decode cX7_solve 69 = .ok (.iinc 1 1, 3) := by decide +kernel
theorem dX7_solve_72 : decode cX7_solve 72 = .ok (.goto (-70), 3) := by decide +kernel
theorem dX7_solve_75 : decode cX7_solve 75 = .ok (.aload_n 0, 1) := by decide +kernel
theorem dX7_solve_76 : decode cX7_solve 76 = .ok (.invokevirtual 56, 3) := by decide +kernel
theorem dX7_solve_79 : decode cX7_solve 79 = .ok (.return_, 1) := by decide +kernel
theorem dX7_fits_0 : decode cX7_fits 0 = .ok (.iconst 0, 1) := by decide +kernel
theorem dX7_fits_1 : decode cX7_fits 1 = .ok (.istore_n 3, 1) := by decide +kernel
theorem dX7_fits_2 : decode cX7_fits 2 = .ok (.iload_n 3, 1) := by decide +kernel
theorem dX7_fits_3 : decode cX7_fits 3 = .ok (.aload_n 0, 1) := by decide +kernel
theorem dX7_fits_4 : decode cX7_fits 4 = .ok (.getfield 40, 3) := by decide +kernel
theorem dX7_fits_7 : decode cX7_fits 7 = .ok (.if_icmp .ge 45, 3) := by decide +kernel
theorem dX7_fits_10 : decode cX7_fits 10 = .ok (.aload_n 0, 1) := by decide +kernel
theorem dX7_fits_11 : decode cX7_fits 11 = .ok (.getfield 9, 3) := by decide +kernel
theorem dX7_fits_14 : decode cX7_fits 14 = .ok (.iload_n 3, 1) := by decide +kernel
theorem dX7_fits_15 : decode cX7_fits 15 = .ok (.iaload, 1) := by decide +kernel
theorem dX7_fits_16 : decode cX7_fits 16 = .ok (.iload_n 1, 1) := by decide +kernel
theorem dX7_fits_17 : decode cX7_fits 17 = .ok (.if_icmp .ne 29, 3) := by decide +kernel
theorem dX7_fits_20 : decode cX7_fits 20 = .ok (.aload_n 0, 1) := by decide +kernel
theorem dX7_fits_21 : decode cX7_fits 21 = .ok (.getfield 36, 3) := by decide +kernel
theorem dX7_fits_24 : decode cX7_fits 24 = .ok (.iload_n 1, 1) := by decide +kernel
theorem dX7_fits_25 : decode cX7_fits 25 = .ok (.iload_n 2, 1) := by decide +kernel
theorem dX7_fits_26 : decode cX7_fits 26 = .ok (.aload_n 0, 1) := by decide +kernel
theorem dX7_fits_27 : decode cX7_fits 27 = .ok (.getfield 15, 3) := by decide +kernel
theorem dX7_fits_30 : decode cX7_fits 30 = .ok (.iload_n 3, 1) := by decide +kernel
theorem dX7_fits_31 : decode cX7_fits 31 = .ok (.iaload, 1) := by decide +kernel
theorem dX7_fits_32 : decode cX7_fits 32 = .ok (.invokevirtual 59, 3) := by decide +kernel
theorem dX7_fits_35 : decode cX7_fits 35 = .ok (.aload_n 0, 1) := by decide +kernel
theorem dX7_fits_36 : decode cX7_fits 36 = .ok (.getfield 18, 3) := by decide +kernel
theorem dX7_fits_39 : decode cX7_fits 39 = .ok (.iload_n 3, 1) := by decide +kernel
theorem dX7_fits_40 : decode cX7_fits 40 = .ok (.baload, 1) := by decide +kernel
theorem dX7_fits_41 : decode cX7_fits 41 = .ok (.if_icmp .eq 5, 3) := by decide +kernel
theorem dX7_fits_44 : decode cX7_fits 44 = .ok (.iconst 0, 1) := by decide +kernel
theorem dX7_fits_45 : decode cX7_fits 45 = .ok (.ireturn, 1) := by decide +kernel
theorem dX7_fits_46 : decode cX7_fits 46 = .ok (.iinc 3 1, 3) := by decide +kernel
theorem dX7_fits_49 : decode cX7_fits 49 = .ok (.goto (-47), 3) := by decide +kernel
theorem dX7_fits_52 : decode cX7_fits 52 = .ok (.iconst 1, 1) := by decide +kernel
theorem dX7_fits_53 : decode cX7_fits 53 = .ok (.ireturn, 1) := by decide +kernel
theorem dX7_countWays_0 : decode cX7_countWays 0 = .ok (.iconst 1, 1) := by decide +kernel
theorem dX7_countWays_1 : decode cX7_countWays 1 = .ok (.aload_n 0, 1) := by decide +kernel
theorem dX7_countWays_2 : decode cX7_countWays 2 = .ok (.getfield 36, 3) := by decide +kernel
theorem dX7_countWays_5 : decode cX7_countWays 5 = .ok (.getfield 49, 3) := by decide +kernel
theorem dX7_countWays_8 : decode cX7_countWays 8 = .ok (.ishl, 1) := by decide +kernel
theorem dX7_countWays_9 : decode cX7_countWays 9 = .ok (.istore_n 1, 1) := by decide +kernel
theorem dX7_countWays_10 : decode cX7_countWays 10 = .ok (.iconst 0, 1) := by decide +kernel
theorem dX7_countWays_11 : decode cX7_countWays 11 = .ok (.istore_n 2, 1) := by decide +kernel
theorem dX7_countWays_12 : decode cX7_countWays 12 = .ok (.iload_n 2, 1) := by decide +kernel
theorem dX7_countWays_13 : decode cX7_countWays 13 = .ok (.iload_n 1, 1) := by decide +kernel
theorem dX7_countWays_14 : decode cX7_countWays 14 = .ok (.if_icmp .ge 40, 3) := by decide +kernel
theorem dX7_countWays_17 : decode cX7_countWays 17 = .ok (.iload_n 2, 1) := by decide +kernel
theorem dX7_countWays_18 : decode cX7_countWays 18 = .ok (.bipush 64, 2) := by decide +kernel
theorem dX7_countWays_20 : decode cX7_countWays 20 = .ok (.if_icmp .ge 34, 3) := by decide +kernel
theorem dX7_countWays_23 : decode cX7_countWays 23 = .ok (.aload_n 0, 1) := by decide +kernel
theorem dX7_countWays_24 : decode cX7_countWays 24 = .ok (.getfield 25, 3) := by decide +kernel
theorem dX7_countWays_27 : decode cX7_countWays 27 = .ok (.iload_n 2, 1) := by decide +kernel
theorem dX7_countWays_28 : decode cX7_countWays 28 = .ok (.iload_n 2, 1) := by decide +kernel
theorem dX7_countWays_29 : decode cX7_countWays 29 = .ok (.ifCond .ne 7, 3) := by decide +kernel
theorem dX7_countWays_32 : decode cX7_countWays 32 = .ok (.iconst 1, 1) := by decide +kernel
theorem dX7_countWays_33 : decode cX7_countWays 33 = .ok (.goto 14, 3) := by decide +kernel
theorem dX7_countWays_36 : decode cX7_countWays 36 = .ok (.aload_n 0, 1) := by decide +kernel
theorem dX7_countWays_37 : decode cX7_countWays 37 = .ok (.iload_n 2, 1) := by decide +kernel
theorem dX7_countWays_38 : decode cX7_countWays 38 = .ok (.iload_n 2, 1) := by decide +kernel
theorem dX7_countWays_39 : decode cX7_countWays 39 = .ok (.invokestatic 63, 3) := by decide +kernel
theorem dX7_countWays_42 : decode cX7_countWays 42 = .ok (.iconst 1, 1) := by decide +kernel
theorem dX7_countWays_43 : decode cX7_countWays 43 = .ok (.isub, 1) := by decide +kernel
theorem dX7_countWays_44 : decode cX7_countWays 44 = .ok (.invokevirtual 69, 3) := by decide +kernel
theorem dX7_countWays_47 : decode cX7_countWays 47 = .ok (.iastore, 1) := by decide +kernel
theorem dX7_countWays_48 : decode cX7_countWays 48 = .ok (.iinc 2 1, 3) := by decide +kernel
theorem dX7_countWays_51 : decode cX7_countWays 51 = .ok (.goto (-39), 3) := by decide +kernel
theorem dX7_countWays_54 : decode cX7_countWays 54 = .ok (.iload_n 1, 1) := by decide +kernel
theorem dX7_countWays_55 : decode cX7_countWays 55 = .ok (.bipush 64, 2) := by decide +kernel
theorem dX7_countWays_57 : decode cX7_countWays 57 = .ok (.invokestatic 73, 3) := by decide +kernel
theorem dX7_countWays_60 : decode cX7_countWays 60 = .ok (.iconst 1, 1) := by decide +kernel
theorem dX7_countWays_61 : decode cX7_countWays 61 = .ok (.isub, 1) := by decide +kernel
theorem dX7_countWays_62 : decode cX7_countWays 62 = .ok (.istore_n 2, 1) := by decide +kernel
theorem dX7_countWays_63 : decode cX7_countWays 63 = .ok (.iload_n 2, 1) := by decide +kernel
theorem dX7_countWays_64 : decode cX7_countWays 64 = .ok (.ifCond .lt 24, 3) := by decide +kernel
theorem dX7_countWays_67 : decode cX7_countWays 67 = .ok (.aload_n 0, 1) := by decide +kernel
theorem dX7_countWays_68 : decode cX7_countWays 68 = .ok (.getfield 28, 3) := by decide +kernel
theorem dX7_countWays_71 : decode cX7_countWays 71 = .ok (.iload_n 2, 1) := by decide +kernel
theorem dX7_countWays_72 : decode cX7_countWays 72 = .ok (.aload_n 0, 1) := by decide +kernel
theorem dX7_countWays_73 : decode cX7_countWays 73 = .ok (.iload_n 2, 1) := by decide +kernel
theorem dX7_countWays_74 : decode cX7_countWays 74 = .ok (.iload_n 2, 1) := by decide +kernel
theorem dX7_countWays_75 : decode cX7_countWays 75 = .ok (.invokestatic 63, 3) := by decide +kernel
theorem dX7_countWays_78 : decode cX7_countWays 78 = .ok (.invokevirtual 78, 3) := by decide +kernel
theorem dX7_countWays_81 : decode cX7_countWays 81 = .ok (.iastore, 1) := by decide +kernel
theorem dX7_countWays_82 : decode cX7_countWays 82 = .ok (.iinc 2 (-1), 3) := by decide +kernel
theorem dX7_countWays_85 : decode cX7_countWays 85 = .ok (.goto (-22), 3) := by decide +kernel
theorem dX7_countWays_88 : decode cX7_countWays 88 = .ok (.aload_n 0, 1) := by decide +kernel
theorem dX7_countWays_89 : decode cX7_countWays 89 = .ok (.aload_n 0, 1) := by decide +kernel
theorem dX7_countWays_90 : decode cX7_countWays 90 = .ok (.getfield 28, 3) := by decide +kernel
theorem dX7_countWays_93 : decode cX7_countWays 93 = .ok (.iconst 0, 1) := by decide +kernel
theorem dX7_countWays_94 : decode cX7_countWays 94 = .ok (.iaload, 1) := by decide +kernel
theorem dX7_countWays_95 : decode cX7_countWays 95 = .ok (.putfield 81, 3) := by decide +kernel
theorem dX7_countWays_98 : decode cX7_countWays 98 = .ok (.return_, 1) := by decide +kernel
theorem dX7_sumAhead_0 : decode cX7_sumAhead 0 = .ok (.iconst 0, 1) := by decide +kernel
theorem dX7_sumAhead_1 : decode cX7_sumAhead 1 = .ok (.istore_n 3, 1) := by decide +kernel
theorem dX7_sumAhead_2 : decode cX7_sumAhead 2 = .ok (.iconst 0, 1) := by decide +kernel
theorem dX7_sumAhead_3 : decode cX7_sumAhead 3 = .ok (.istore 4, 2) := by decide +kernel
theorem dX7_sumAhead_5 : decode cX7_sumAhead 5 = .ok (.iload 4, 2) := by decide +kernel
theorem dX7_sumAhead_7 : decode cX7_sumAhead 7 = .ok (.aload_n 0, 1) := by decide +kernel
theorem dX7_sumAhead_8 : decode cX7_sumAhead 8 = .ok (.getfield 36, 3) := by decide +kernel
theorem dX7_sumAhead_11 : decode cX7_sumAhead 11 = .ok (.getfield 49, 3) := by decide +kernel
theorem dX7_sumAhead_14 : decode cX7_sumAhead 14 = .ok (.if_icmp .ge 52, 3) := by decide +kernel
theorem dX7_sumAhead_17 : decode cX7_sumAhead 17 = .ok (.aload_n 0, 1) := by decide +kernel
theorem dX7_sumAhead_18 : decode cX7_sumAhead 18 = .ok (.getfield 36, 3) := by decide +kernel
theorem dX7_sumAhead_21 : decode cX7_sumAhead 21 = .ok (.iload_n 2, 1) := by decide +kernel
theorem dX7_sumAhead_22 : decode cX7_sumAhead 22 = .ok (.invokevirtual 84, 3) := by decide +kernel
theorem dX7_sumAhead_25 : decode cX7_sumAhead 25 = .ok (.ifCond .eq 41, 3) := by decide +kernel
theorem dX7_sumAhead_28 : decode cX7_sumAhead 28 = .ok (.aload_n 0, 1) := by decide +kernel
theorem dX7_sumAhead_29 : decode cX7_sumAhead 29 = .ok (.getfield 22, 3) := by decide +kernel
theorem dX7_sumAhead_32 : decode cX7_sumAhead 32 = .ok (.iload_n 2, 1) := by decide +kernel
theorem dX7_sumAhead_33 : decode cX7_sumAhead 33 = .ok (.iaload, 1) := by decide +kernel
theorem dX7_sumAhead_34 : decode cX7_sumAhead 34 = .ok (.iload_n 1, 1) := by decide +kernel
theorem dX7_sumAhead_35 : decode cX7_sumAhead 35 = .ok (.iand, 1) := by decide +kernel
theorem dX7_sumAhead_36 : decode cX7_sumAhead 36 = .ok (.iload 4, 2) := by decide +kernel
theorem dX7_sumAhead_38 : decode cX7_sumAhead 38 = .ok (.invokestatic 88, 3) := by decide +kernel
theorem dX7_sumAhead_41 : decode cX7_sumAhead 41 = .ok (.ifCond .eq 19, 3) := by decide +kernel
theorem dX7_sumAhead_44 : decode cX7_sumAhead 44 = .ok (.iload_n 3, 1) := by decide +kernel
theorem dX7_sumAhead_45 : decode cX7_sumAhead 45 = .ok (.aload_n 0, 1) := by decide +kernel
theorem dX7_sumAhead_46 : decode cX7_sumAhead 46 = .ok (.getfield 25, 3) := by decide +kernel
theorem dX7_sumAhead_49 : decode cX7_sumAhead 49 = .ok (.iload_n 1, 1) := by decide +kernel
theorem dX7_sumAhead_50 : decode cX7_sumAhead 50 = .ok (.iconst 1, 1) := by decide +kernel
theorem dX7_sumAhead_51 : decode cX7_sumAhead 51 = .ok (.iload 4, 2) := by decide +kernel
theorem dX7_sumAhead_53 : decode cX7_sumAhead 53 = .ok (.ishl, 1) := by decide +kernel
theorem dX7_sumAhead_54 : decode cX7_sumAhead 54 = .ok (.iconst (-1), 1) := by decide +kernel
theorem dX7_sumAhead_55 : decode cX7_sumAhead 55 = .ok (.ixor, 1) := by decide +kernel
theorem dX7_sumAhead_56 : decode cX7_sumAhead 56 = .ok (.iand, 1) := by decide +kernel
theorem dX7_sumAhead_57 : decode cX7_sumAhead 57 = .ok (.iaload, 1) := by decide +kernel
theorem dX7_sumAhead_58 : decode cX7_sumAhead 58 = .ok (.iadd, 1) := by decide +kernel
theorem dX7_sumAhead_59 : decode cX7_sumAhead 59 = .ok (.istore_n 3, 1) := by decide +kernel
theorem dX7_sumAhead_60 : decode cX7_sumAhead 60 = .ok (.iinc 4 1, 3) := by decide +kernel
theorem dX7_sumAhead_63 : decode cX7_sumAhead 63 = .ok (.goto (-58), 3) := by decide +kernel
theorem dX7_sumAhead_66 : decode cX7_sumAhead 66 = .ok (.iload_n 3, 1) := by decide +kernel
theorem dX7_sumAhead_67 : decode cX7_sumAhead 67 = .ok (.ireturn, 1) := by decide +kernel
theorem dX7_sumBehind_0 : decode cX7_sumBehind 0 = .ok (.aload_n 0, 1) := by decide +kernel
theorem dX7_sumBehind_1 : decode cX7_sumBehind 1 = .ok (.getfield 36, 3) := by decide +kernel
theorem dX7_sumBehind_4 : decode cX7_sumBehind 4 = .ok (.iload_n 2, 1) := by decide +kernel
theorem dX7_sumBehind_5 : decode cX7_sumBehind 5 = .ok (.invokevirtual 84, 3) := by decide +kernel
theorem dX7_sumBehind_8 : decode cX7_sumBehind 8 = .ok (.ifCond .ne 5, 3) := by decide +kernel
theorem dX7_sumBehind_11 : decode cX7_sumBehind 11 = .ok (.iconst 1, 1) := by decide +kernel
theorem dX7_sumBehind_12 : decode cX7_sumBehind 12 = .ok (.ireturn, 1) := by decide +kernel
theorem dX7_sumBehind_13 : decode cX7_sumBehind 13 = .ok (.iconst 0, 1) := by decide +kernel
theorem dX7_sumBehind_14 : decode cX7_sumBehind 14 = .ok (.istore_n 3, 1) := by decide +kernel
theorem dX7_sumBehind_15 : decode cX7_sumBehind 15 = .ok (.iconst 0, 1) := by decide +kernel
theorem dX7_sumBehind_16 : decode cX7_sumBehind 16 = .ok (.istore 4, 2) := by decide +kernel
theorem dX7_sumBehind_18 : decode cX7_sumBehind 18 = .ok (.iload 4, 2) := by decide +kernel
theorem dX7_sumBehind_20 : decode cX7_sumBehind 20 = .ok (.aload_n 0, 1) := by decide +kernel
theorem dX7_sumBehind_21 : decode cX7_sumBehind 21 = .ok (.getfield 36, 3) := by decide +kernel
theorem dX7_sumBehind_24 : decode cX7_sumBehind 24 = .ok (.getfield 49, 3) := by decide +kernel
theorem dX7_sumBehind_27 : decode cX7_sumBehind 27 = .ok (.if_icmp .ge 66, 3) := by decide +kernel
theorem dX7_sumBehind_30 : decode cX7_sumBehind 30 = .ok (.aload_n 0, 1) := by decide +kernel
theorem dX7_sumBehind_31 : decode cX7_sumBehind 31 = .ok (.getfield 22, 3) := by decide +kernel
theorem dX7_sumBehind_34 : decode cX7_sumBehind 34 = .ok (.iload_n 2, 1) := by decide +kernel
theorem dX7_sumBehind_35 : decode cX7_sumBehind 35 = .ok (.iaload, 1) := by decide +kernel
theorem dX7_sumBehind_36 : decode cX7_sumBehind 36 = .ok (.iload_n 1, 1) := by decide +kernel
theorem dX7_sumBehind_37 : decode cX7_sumBehind 37 = .ok (.iconst (-1), 1) := by decide +kernel
theorem dX7_sumBehind_38 : decode cX7_sumBehind 38 = .ok (.ixor, 1) := by decide +kernel
theorem dX7_sumBehind_39 : decode cX7_sumBehind 39 = .ok (.iand, 1) := by decide +kernel
theorem dX7_sumBehind_40 : decode cX7_sumBehind 40 = .ok (.iload 4, 2) := by decide +kernel
theorem dX7_sumBehind_42 : decode cX7_sumBehind 42 = .ok (.invokestatic 88, 3) := by decide +kernel
theorem dX7_sumBehind_45 : decode cX7_sumBehind 45 = .ok (.ifCond .eq 42, 3) := by decide +kernel
theorem dX7_sumBehind_48 : decode cX7_sumBehind 48 = .ok (.aload_n 0, 1) := by decide +kernel
theorem dX7_sumBehind_49 : decode cX7_sumBehind 49 = .ok (.getfield 28, 3) := by decide +kernel
theorem dX7_sumBehind_52 : decode cX7_sumBehind 52 = .ok (.iload_n 1, 1) := by decide +kernel
theorem dX7_sumBehind_53 : decode cX7_sumBehind 53 = .ok (.iconst 1, 1) := by decide +kernel
theorem dX7_sumBehind_54 : decode cX7_sumBehind 54 = .ok (.iload 4, 2) := by decide +kernel
theorem dX7_sumBehind_56 : decode cX7_sumBehind 56 = .ok (.ishl, 1) := by decide +kernel
theorem dX7_sumBehind_57 : decode cX7_sumBehind 57 = .ok (.ior, 1) := by decide +kernel
theorem dX7_sumBehind_58 : decode cX7_sumBehind 58 = .ok (.iaload, 1) := by decide +kernel
theorem dX7_sumBehind_59 : decode cX7_sumBehind 59 = .ok (.istore 5, 2) := by decide +kernel
theorem dX7_sumBehind_61 : decode cX7_sumBehind 61 = .ok (.aload_n 0, 1) := by decide +kernel
theorem dX7_sumBehind_62 : decode cX7_sumBehind 62 = .ok (.getfield 33, 3) := by decide +kernel
theorem dX7_sumBehind_65 : decode cX7_sumBehind 65 = .ok (.iload_n 2, 1) := by decide +kernel
theorem dX7_sumBehind_66 : decode cX7_sumBehind 66 = .ok (.aaload, 1) := by decide +kernel
theorem dX7_sumBehind_67 : decode cX7_sumBehind 67 = .ok (.iload 4, 2) := by decide +kernel
theorem dX7_sumBehind_69 : decode cX7_sumBehind 69 = .ok (.dup2, 1) := by decide +kernel
theorem dX7_sumBehind_70 : decode cX7_sumBehind 70 = .ok (.iaload, 1) := by decide +kernel
theorem dX7_sumBehind_71 : decode cX7_sumBehind 71 = .ok (.aload_n 0, 1) := by decide +kernel
theorem dX7_sumBehind_72 : decode cX7_sumBehind 72 = .ok (.getfield 25, 3) := by decide +kernel
theorem dX7_sumBehind_75 : decode cX7_sumBehind 75 = .ok (.iload_n 1, 1) := by decide +kernel
theorem dX7_sumBehind_76 : decode cX7_sumBehind 76 = .ok (.iaload, 1) := by decide +kernel
theorem dX7_sumBehind_77 : decode cX7_sumBehind 77 = .ok (.iload 5, 2) := by decide +kernel
theorem dX7_sumBehind_79 : decode cX7_sumBehind 79 = .ok (.imul, 1) := by decide +kernel
theorem dX7_sumBehind_80 : decode cX7_sumBehind 80 = .ok (.iadd, 1) := by decide +kernel
theorem dX7_sumBehind_81 : decode cX7_sumBehind 81 = .ok (.iastore, 1) := by decide +kernel
theorem dX7_sumBehind_82 : decode cX7_sumBehind 82 = .ok (.iload_n 3, 1) := by decide +kernel
theorem dX7_sumBehind_83 : decode cX7_sumBehind 83 = .ok (.iload 5, 2) := by decide +kernel
theorem dX7_sumBehind_85 : decode cX7_sumBehind 85 = .ok (.iadd, 1) := by decide +kernel
theorem dX7_sumBehind_86 : decode cX7_sumBehind 86 = .ok (.istore_n 3, 1) := by decide +kernel
theorem dX7_sumBehind_87 : decode cX7_sumBehind 87 = .ok (.iinc 4 1, 3) := by decide +kernel
theorem dX7_sumBehind_90 : decode cX7_sumBehind 90 = .ok (.goto (-72), 3) := by decide +kernel
theorem dX7_sumBehind_93 : decode cX7_sumBehind 93 = .ok (.iload_n 3, 1) := by decide +kernel
theorem dX7_sumBehind_94 : decode cX7_sumBehind 94 = .ok (.ireturn, 1) := by decide +kernel
theorem dX7_sureDummyOf_0 : decode cX7_sureDummyOf 0 = .ok (.aload_n 0, 1) := by decide +kernel
theorem dX7_sureDummyOf_1 : decode cX7_sureDummyOf 1 = .ok (.getfield 81, 3) := by decide +kernel
theorem dX7_sureDummyOf_4 : decode cX7_sureDummyOf 4 = .ok (.ifCond .eq 14, 3) := by decide +kernel
theorem dX7_sureDummyOf_7 : decode cX7_sureDummyOf 7 = .ok (.aload_n 0, 1) := by decide +kernel
theorem dX7_sureDummyOf_8 : decode cX7_sureDummyOf 8 = .ok (.getfield 36, 3) := by decide +kernel
theorem dX7_sureDummyOf_11 : decode cX7_sureDummyOf 11 = .ok (.iload_n 1, 1) := by decide +kernel
theorem dX7_sureDummyOf_12 : decode cX7_sureDummyOf 12 = .ok (.invokevirtual 84, 3) := by decide +kernel
theorem dX7_sureDummyOf_15 : decode cX7_sureDummyOf 15 = .ok (.ifCond .ne 5, 3) := by decide +kernel
theorem dX7_sureDummyOf_18 : decode cX7_sureDummyOf 18 = .ok (.iconst (-1), 1) := by decide +kernel
theorem dX7_sureDummyOf_19 : decode cX7_sureDummyOf 19 = .ok (.ireturn, 1) := by decide +kernel
theorem dX7_sureDummyOf_20 : decode cX7_sureDummyOf 20 = .ok (.iconst 0, 1) := by decide +kernel
theorem dX7_sureDummyOf_21 : decode cX7_sureDummyOf 21 = .ok (.istore_n 2, 1) := by decide +kernel
theorem dX7_sureDummyOf_22 : decode cX7_sureDummyOf 22 = .ok (.iload_n 2, 1) := by decide +kernel
theorem dX7_sureDummyOf_23 : decode cX7_sureDummyOf 23 = .ok (.aload_n 0, 1) := by decide +kernel
theorem dX7_sureDummyOf_24 : decode cX7_sureDummyOf 24 = .ok (.getfield 36, 3) := by decide +kernel
theorem dX7_sureDummyOf_27 : decode cX7_sureDummyOf 27 = .ok (.getfield 49, 3) := by decide +kernel
theorem dX7_sureDummyOf_30 : decode cX7_sureDummyOf 30 = .ok (.if_icmp .ge 26, 3) := by decide +kernel
theorem dX7_sureDummyOf_33 : decode cX7_sureDummyOf 33 = .ok (.aload_n 0, 1) := by decide +kernel
theorem dX7_sureDummyOf_34 : decode cX7_sureDummyOf 34 = .ok (.getfield 33, 3) := by decide +kernel
theorem dX7_sureDummyOf_37 : decode cX7_sureDummyOf 37 = .ok (.iload_n 1, 1) := by decide +kernel
theorem dX7_sureDummyOf_38 : decode cX7_sureDummyOf 38 = .ok (.aaload, 1) := by decide +kernel
theorem dX7_sureDummyOf_39 : decode cX7_sureDummyOf 39 = .ok (.iload_n 2, 1) := by decide +kernel
theorem dX7_sureDummyOf_40 : decode cX7_sureDummyOf 40 = .ok (.iaload, 1) := by decide +kernel
theorem dX7_sureDummyOf_41 : decode cX7_sureDummyOf 41 = .ok (.aload_n 0, 1) := by decide +kernel
theorem dX7_sureDummyOf_42 : decode cX7_sureDummyOf 42 = .ok (.getfield 81, 3) := by decide +kernel
theorem dX7_sureDummyOf_45 : decode cX7_sureDummyOf 45 = .ok (.if_icmp .ne 5, 3) := by decide +kernel
theorem dX7_sureDummyOf_48 : decode cX7_sureDummyOf 48 = .ok (.iload_n 2, 1) := by decide +kernel
theorem dX7_sureDummyOf_49 : decode cX7_sureDummyOf 49 = .ok (.ireturn, 1) := by decide +kernel
theorem dX7_sureDummyOf_50 : decode cX7_sureDummyOf 50 = .ok (.iinc 2 1, 3) := by decide +kernel
theorem dX7_sureDummyOf_53 : decode cX7_sureDummyOf 53 = .ok (.goto (-31), 3) := by decide +kernel
theorem dX7_sureDummyOf_56 : decode cX7_sureDummyOf 56 = .ok (.iconst (-1), 1) := by decide +kernel
theorem dX7_sureDummyOf_57 : decode cX7_sureDummyOf 57 = .ok (.ireturn, 1) := by decide +kernel
theorem dX7_bestQuestion_0 : decode cX7_bestQuestion 0 = .ok (.iconst (-1), 1) := by decide +kernel
theorem dX7_bestQuestion_1 : decode cX7_bestQuestion 1 = .ok (.istore_n 1, 1) := by decide +kernel
theorem dX7_bestQuestion_2 : decode cX7_bestQuestion 2 = .ok (.aload_n 0, 1) := by decide +kernel
theorem dX7_bestQuestion_3 : decode cX7_bestQuestion 3 = .ok (.getfield 81, 3) := by decide +kernel
theorem dX7_bestQuestion_6 : decode cX7_bestQuestion 6 = .ok (.istore_n 2, 1) := by decide +kernel
theorem dX7_bestQuestion_7 : decode cX7_bestQuestion 7 = .ok (.iconst 0, 1) := by decide +kernel
theorem dX7_bestQuestion_8 : decode cX7_bestQuestion 8 = .ok (.istore_n 3, 1) := by decide +kernel
theorem dX7_bestQuestion_9 : decode cX7_bestQuestion 9 = .ok (.iload_n 3, 1) := by decide +kernel
theorem dX7_bestQuestion_10 : decode cX7_bestQuestion 10 = .ok (.aload_n 0, 1) := by decide +kernel
theorem dX7_bestQuestion_11 : decode cX7_bestQuestion 11 = .ok (.getfield 36, 3) := by decide +kernel
theorem dX7_bestQuestion_14 : decode cX7_bestQuestion 14 = .ok (.getfield 44, 3) := by decide +kernel
theorem dX7_bestQuestion_17 : decode cX7_bestQuestion 17 = .ok (.if_icmp .ge 70, 3) := by decide +kernel
theorem dX7_bestQuestion_20 : decode cX7_bestQuestion 20 = .ok (.iconst 0, 1) := by decide +kernel
theorem dX7_bestQuestion_21 : decode cX7_bestQuestion 21 = .ok (.istore 4, 2) := by decide +kernel
theorem dX7_bestQuestion_23 : decode cX7_bestQuestion 23 = .ok (.iload 4, 2) := by decide +kernel
theorem dX7_bestQuestion_25 : decode cX7_bestQuestion 25 = .ok (.aload_n 0, 1) := by decide +kernel
theorem dX7_bestQuestion_26 : decode cX7_bestQuestion 26 = .ok (.getfield 36, 3) := by decide +kernel
theorem dX7_bestQuestion_29 : decode cX7_bestQuestion 29 = .ok (.getfield 49, 3) := by decide +kernel
theorem dX7_bestQuestion_32 : decode cX7_bestQuestion 32 = .ok (.if_icmp .ge 49, 3) := by decide +kernel
theorem dX7_bestQuestion_35 : decode cX7_bestQuestion 35 = .ok (.aload_n 0, 1) := by decide +kernel
theorem dX7_bestQuestion_36 : decode cX7_bestQuestion 36 = .ok (.iload_n 3, 1) := by decide +kernel
theorem dX7_bestQuestion_37 : decode cX7_bestQuestion 37 = .ok (.iload 4, 2) := by decide +kernel
theorem dX7_bestQuestion_39 : decode cX7_bestQuestion 39 = .ok (.invokevirtual 91, 3) := by decide +kernel
theorem dX7_bestQuestion_42 : decode cX7_bestQuestion 42 = .ok (.istore 5, 2) := by decide +kernel
theorem dX7_bestQuestion_44 : decode cX7_bestQuestion 44 = .ok (.iload 5, 2) := by decide +kernel
theorem dX7_bestQuestion_46 : decode cX7_bestQuestion 46 = .ok (.aload_n 0, 1) := by decide +kernel
theorem dX7_bestQuestion_47 : decode cX7_bestQuestion 47 = .ok (.getfield 81, 3) := by decide +kernel
theorem dX7_bestQuestion_50 : decode cX7_bestQuestion 50 = .ok (.iload 5, 2) := by decide +kernel
theorem dX7_bestQuestion_52 : decode cX7_bestQuestion 52 = .ok (.isub, 1) := by decide +kernel
theorem dX7_bestQuestion_53 : decode cX7_bestQuestion 53 = .ok (.invokestatic 94, 3) := by decide +kernel
theorem dX7_bestQuestion_56 : decode cX7_bestQuestion 56 = .ok (.istore 6, 2) := by decide +kernel
theorem dX7_bestQuestion_58 : decode cX7_bestQuestion 58 = .ok (.iload 6, 2) := by decide +kernel
theorem dX7_bestQuestion_60 : decode cX7_bestQuestion 60 = .ok (.iload_n 2, 1) := by decide +kernel
theorem dX7_bestQuestion_61 : decode cX7_bestQuestion 61 = .ok (.if_icmp .ge 14, 3) := by decide +kernel
theorem dX7_bestQuestion_64 : decode cX7_bestQuestion 64 = .ok (.iload 6, 2) := by decide +kernel
theorem dX7_bestQuestion_66 : decode cX7_bestQuestion 66 = .ok (.istore_n 2, 1) := by decide +kernel
theorem dX7_bestQuestion_67 : decode cX7_bestQuestion 67 = .ok (.bipush 10, 2) := by decide +kernel
theorem dX7_bestQuestion_69 : decode cX7_bestQuestion 69 = .ok (.iload_n 3, 1) := by decide +kernel
theorem dX7_bestQuestion_70 : decode cX7_bestQuestion 70 = .ok (.imul, 1) := by decide +kernel
theorem dX7_bestQuestion_71 : decode cX7_bestQuestion 71 = .ok (.iload 4, 2) := by decide +kernel
theorem dX7_bestQuestion_73 : decode cX7_bestQuestion 73 = .ok (.iadd, 1) := by decide +kernel
theorem dX7_bestQuestion_74 : decode cX7_bestQuestion 74 = .ok (.istore_n 1, 1) := by decide +kernel
theorem dX7_bestQuestion_75 : decode cX7_bestQuestion 75 = .ok (.iinc 4 1, 3) := by decide +kernel
theorem dX7_bestQuestion_78 : decode cX7_bestQuestion 78 = .ok (.goto (-55), 3) := by decide +kernel
theorem dX7_bestQuestion_81 : decode cX7_bestQuestion 81 = .ok (.iinc 3 1, 3) := by decide +kernel
theorem dX7_bestQuestion_84 : decode cX7_bestQuestion 84 = .ok (.goto (-75), 3) := by decide +kernel
theorem dX7_bestQuestion_87 : decode cX7_bestQuestion 87 = .ok (.iload_n 1, 1) := by decide +kernel
theorem dX7_bestQuestion_88 : decode cX7_bestQuestion 88 = .ok (.ireturn, 1) := by decide +kernel
theorem dX7_waysToTake_0 : decode cX7_waysToTake 0 = .ok (.iconst 0, 1) := by decide +kernel
theorem dX7_waysToTake_1 : decode cX7_waysToTake 1 = .ok (.istore_n 3, 1) := by decide +kernel
theorem dX7_waysToTake_2 : decode cX7_waysToTake 2 = .ok (.iconst 0, 1) := by decide +kernel
theorem dX7_waysToTake_3 : decode cX7_waysToTake 3 = .ok (.istore 4, 2) := by decide +kernel
theorem dX7_waysToTake_5 : decode cX7_waysToTake 5 = .ok (.iload 4, 2) := by decide +kernel
theorem dX7_waysToTake_7 : decode cX7_waysToTake 7 = .ok (.aload_n 0, 1) := by decide +kernel
theorem dX7_waysToTake_8 : decode cX7_waysToTake 8 = .ok (.getfield 36, 3) := by decide +kernel
theorem dX7_waysToTake_11 : decode cX7_waysToTake 11 = .ok (.getfield 49, 3) := by decide +kernel
theorem dX7_waysToTake_14 : decode cX7_waysToTake 14 = .ok (.if_icmp .ge 35, 3) := by decide +kernel
theorem dX7_waysToTake_17 : decode cX7_waysToTake 17 = .ok (.aload_n 0, 1) := by decide +kernel
theorem dX7_waysToTake_18 : decode cX7_waysToTake 18 = .ok (.getfield 36, 3) := by decide +kernel
theorem dX7_waysToTake_21 : decode cX7_waysToTake 21 = .ok (.iload_n 1, 1) := by decide +kernel
theorem dX7_waysToTake_22 : decode cX7_waysToTake 22 = .ok (.iload 4, 2) := by decide +kernel
theorem dX7_waysToTake_24 : decode cX7_waysToTake 24 = .ok (.iload_n 2, 1) := by decide +kernel
theorem dX7_waysToTake_25 : decode cX7_waysToTake 25 = .ok (.invokevirtual 59, 3) := by decide +kernel
theorem dX7_waysToTake_28 : decode cX7_waysToTake 28 = .ok (.ifCond .eq 15, 3) := by decide +kernel
theorem dX7_waysToTake_31 : decode cX7_waysToTake 31 = .ok (.iload_n 3, 1) := by decide +kernel
theorem dX7_waysToTake_32 : decode cX7_waysToTake 32 = .ok (.aload_n 0, 1) := by decide +kernel
theorem dX7_waysToTake_33 : decode cX7_waysToTake 33 = .ok (.getfield 33, 3) := by decide +kernel
theorem dX7_waysToTake_36 : decode cX7_waysToTake 36 = .ok (.iload_n 1, 1) := by decide +kernel
theorem dX7_waysToTake_37 : decode cX7_waysToTake 37 = .ok (.aaload, 1) := by decide +kernel
theorem dX7_waysToTake_38 : decode cX7_waysToTake 38 = .ok (.iload 4, 2) := by decide +kernel
theorem dX7_waysToTake_40 : decode cX7_waysToTake 40 = .ok (.iaload, 1) := by decide +kernel
theorem dX7_waysToTake_41 : decode cX7_waysToTake 41 = .ok (.iadd, 1) := by decide +kernel
theorem dX7_waysToTake_42 : decode cX7_waysToTake 42 = .ok (.istore_n 3, 1) := by decide +kernel
theorem dX7_waysToTake_43 : decode cX7_waysToTake 43 = .ok (.iinc 4 1, 3) := by decide +kernel
theorem dX7_waysToTake_46 : decode cX7_waysToTake 46 = .ok (.goto (-41), 3) := by decide +kernel
theorem dX7_waysToTake_49 : decode cX7_waysToTake 49 = .ok (.iload_n 3, 1) := by decide +kernel
theorem dX7_waysToTake_50 : decode cX7_waysToTake 50 = .ok (.ireturn, 1) := by decide +kernel
theorem dX8_init_0 : decode cX8_init 0 = .ok (.aload_n 0, 1) := by decide +kernel
theorem dX8_init_1 : decode cX8_init 1 = .ok (.invokespecial 3, 3) := by decide +kernel
theorem dX8_init_4 : decode cX8_init 4 = .ok (.aload_n 0, 1) := by decide +kernel
theorem dX8_init_5 : decode cX8_init 5 = .ok (.bipush 6, 2) := by decide +kernel
theorem dX8_init_7 : decode cX8_init 7 = .ok (.newarray .int, 2) := by decide +kernel
theorem dX8_init_9 : decode cX8_init 9 = .ok (.putfield 9, 3) := by decide +kernel
theorem dX8_init_12 : decode cX8_init 12 = .ok (.aload_n 0, 1) := by decide +kernel
theorem dX8_init_13 : decode cX8_init 13 = .ok (.bipush 6, 2) := by decide +kernel
theorem dX8_init_15 : decode cX8_init 15 = .ok (.newarray .int, 2) := by decide +kernel
theorem dX8_init_17 : decode cX8_init 17 = .ok (.putfield 15, 3) := by decide +kernel
theorem dX8_init_20 : decode cX8_init 20 = .ok (.aload_n 0, 1) := by decide +kernel
theorem dX8_init_21 : decode cX8_init 21 = .ok (.bipush 6, 2) := by decide +kernel
theorem dX8_init_23 : decode cX8_init 23 = .ok (.newarray .int, 2) := by decide +kernel
theorem dX8_init_25 : decode cX8_init 25 = .ok (.putfield 18, 3) := by decide +kernel
theorem dX8_init_28 : decode cX8_init 28 = .ok (.aload_n 0, 1) := by decide +kernel
theorem dX8_init_29 : decode cX8_init 29 = .ok (.bipush 6, 2) := by decide +kernel
theorem dX8_init_31 : decode cX8_init 31 = .ok (.newarray .int, 2) := by decide +kernel
theorem dX8_init_33 : decode cX8_init 33 = .ok (.putfield 21, 3) := by decide +kernel
theorem dX8_init_36 : decode cX8_init 36 = .ok (.aload_n 0, 1) := by decide +kernel
theorem dX8_init_37 : decode cX8_init 37 = .ok (.bipush 6, 2) := by decide +kernel
theorem dX8_init_39 : decode cX8_init 39 = .ok (.newarray .int, 2) := by decide +kernel
theorem dX8_init_41 : decode cX8_init 41 = .ok (.putfield 24, 3) := by decide +kernel
theorem dX8_init_44 : decode cX8_init 44 = .ok (.aload_n 0, 1) := by decide +kernel
theorem dX8_init_45 : decode cX8_init 45 = .ok (.aload_n 1, 1) := by decide +kernel
theorem dX8_init_46 : decode cX8_init 46 = .ok (.putfield 27, 3) := by decide +kernel
theorem dX8_init_49 : decode cX8_init 49 = .ok (.return_, 1) := by decide +kernel
theorem dX8_reset_0 : decode cX8_reset 0 = .ok (.aload_n 0, 1) := by decide +kernel
theorem dX8_reset_1 : decode cX8_reset 1 = .ok (.iconst 0, 1) := by decide +kernel
theorem dX8_reset_2 : decode cX8_reset 2 = .ok (.putfield 31, 3) := by decide +kernel
theorem dX8_reset_5 : decode cX8_reset 5 = .ok (.iconst 0, 1) := by decide +kernel
theorem dX8_reset_6 : decode cX8_reset 6 = .ok (.istore_n 1, 1) := by decide +kernel
theorem dX8_reset_7 : decode cX8_reset 7 = .ok (.iload_n 1, 1) := by decide +kernel
theorem dX8_reset_8 : decode cX8_reset 8 = .ok (.bipush 6, 2) := by decide +kernel
theorem dX8_reset_10 : decode cX8_reset 10 = .ok (.if_icmp .ge 44, 3) := by decide +kernel
theorem dX8_reset_13 : decode cX8_reset 13 = .ok (.aload_n 0, 1) := by decide +kernel
theorem dX8_reset_14 : decode cX8_reset 14 = .ok (.getfield 9, 3) := by decide +kernel
theorem dX8_reset_17 : decode cX8_reset 17 = .ok (.iload_n 1, 1) := by decide +kernel
theorem dX8_reset_18 : decode cX8_reset 18 = .ok (.iconst (-1), 1) := by decide +kernel
theorem dX8_reset_19 : decode cX8_reset 19 = .ok (.iastore, 1) := by decide +kernel
theorem dX8_reset_20 : decode cX8_reset 20 = .ok (.aload_n 0, 1) := by decide +kernel
theorem dX8_reset_21 : decode cX8_reset 21 = .ok (.getfield 15, 3) := by decide +kernel
theorem dX8_reset_24 : decode cX8_reset 24 = .ok (.iload_n 1, 1) := by decide +kernel
theorem dX8_reset_25 : decode cX8_reset 25 = .ok (.iconst 0, 1) := by decide +kernel
theorem dX8_reset_26 : decode cX8_reset 26 = .ok (.iastore, 1) := by decide +kernel
theorem dX8_reset_27 : decode cX8_reset 27 = .ok (.aload_n 0, 1) := by decide +kernel
theorem dX8_reset_28 : decode cX8_reset 28 = .ok (.getfield 18, 3) := by decide +kernel
theorem dX8_reset_31 : decode cX8_reset 31 = .ok (.iload_n 1, 1) := by decide +kernel
theorem dX8_reset_32 : decode cX8_reset 32 = .ok (.iconst 0, 1) := by decide +kernel
theorem dX8_reset_33 : decode cX8_reset 33 = .ok (.iastore, 1) := by decide +kernel
theorem dX8_reset_34 : decode cX8_reset 34 = .ok (.aload_n 0, 1) := by decide +kernel
theorem dX8_reset_35 : decode cX8_reset 35 = .ok (.getfield 21, 3) := by decide +kernel
theorem dX8_reset_38 : decode cX8_reset 38 = .ok (.iload_n 1, 1) := by decide +kernel
theorem dX8_reset_39 : decode cX8_reset 39 = .ok (.iconst 0, 1) := by decide +kernel
theorem dX8_reset_40 : decode cX8_reset 40 = .ok (.iastore, 1) := by decide +kernel
theorem dX8_reset_41 : decode cX8_reset 41 = .ok (.aload_n 0, 1) := by decide +kernel
theorem dX8_reset_42 : decode cX8_reset 42 = .ok (.getfield 24, 3) := by decide +kernel
theorem dX8_reset_45 : decode cX8_reset 45 = .ok (.iload_n 1, 1) := by decide +kernel
theorem dX8_reset_46 : decode cX8_reset 46 = .ok (.iconst 0, 1) := by decide +kernel
theorem dX8_reset_47 : decode cX8_reset 47 = .ok (.iastore, 1) := by decide +kernel
theorem dX8_reset_48 : decode cX8_reset 48 = .ok (.iinc 1 1, 3) := by decide +kernel
theorem dX8_reset_51 : decode cX8_reset 51 = .ok (.goto (-44), 3) := by decide +kernel
theorem dX8_reset_54 : decode cX8_reset 54 = .ok (.return_, 1) := by decide +kernel
theorem dX8_saveTo_0 : decode cX8_saveTo 0 = .ok (.iload_n 2, 1) := by decide +kernel
theorem dX8_saveTo_1 : decode cX8_saveTo 1 = .ok (.ifCond .lt 12, 3) := by decide +kernel
theorem dX8_saveTo_4 : decode cX8_saveTo 4 = .ok (.iload_n 2, 1) := by decide +kernel
theorem dX8_saveTo_5 : decode cX8_saveTo 5 = .ok (.aload_n 1, 1) := by decide +kernel
theorem dX8_saveTo_6 : decode cX8_saveTo 6 = .ok (.arraylength, 1) := by decide +kernel
theorem dX8_saveTo_7 : decode cX8_saveTo 7 = .ok (.bipush 31, 2) := by decide +kernel
theorem dX8_saveTo_9 : decode cX8_saveTo 9 = .ok (.isub, 1) := by decide +kernel
theorem dX8_saveTo_10 : decode cX8_saveTo 10 = .ok (.if_icmp .le 4, 3) := by decide +kernel
theorem dX8_saveTo_13 : decode cX8_saveTo 13 = .ok (.return_, 1) := by decide +kernel
theorem dX8_saveTo_14 : decode cX8_saveTo 14 = .ok (.aload_n 1, 1) := by decide +kernel
theorem dX8_saveTo_15 : decode cX8_saveTo 15 = .ok (.iload_n 2, 1) := by decide +kernel
theorem dX8_saveTo_16 : decode cX8_saveTo 16 = .ok (.aload_n 0, 1) := by decide +kernel
theorem dX8_saveTo_17 : decode cX8_saveTo 17 = .ok (.getfield 31, 3) := by decide +kernel
theorem dX8_saveTo_20 : decode cX8_saveTo 20 = .ok (.iastore, 1) := by decide +kernel
theorem dX8_saveTo_21 : decode cX8_saveTo 21 = .ok (.aload_n 0, 1) := by decide +kernel
theorem dX8_saveTo_22 : decode cX8_saveTo 22 = .ok (.getfield 9, 3) := by decide +kernel
theorem dX8_saveTo_25 : decode cX8_saveTo 25 = .ok (.iconst 0, 1) := by decide +kernel
theorem dX8_saveTo_26 : decode cX8_saveTo 26 = .ok (.aload_n 1, 1) := by decide +kernel
theorem dX8_saveTo_27 : decode cX8_saveTo 27 = .ok (.iload_n 2, 1) := by decide +kernel
theorem dX8_saveTo_28 : decode cX8_saveTo 28 = .ok (.iconst 1, 1) := by decide +kernel
theorem dX8_saveTo_29 : decode cX8_saveTo 29 = .ok (.iadd, 1) := by decide +kernel
theorem dX8_saveTo_30 : decode cX8_saveTo 30 = .ok (.bipush 6, 2) := by decide +kernel
theorem dX8_saveTo_32 : decode cX8_saveTo 32 = .ok (.invokestatic 35, 3) := by decide +kernel
theorem dX8_saveTo_35 : decode cX8_saveTo 35 = .ok (.aload_n 0, 1) := by decide +kernel
theorem dX8_saveTo_36 : decode cX8_saveTo 36 = .ok (.getfield 15, 3) := by decide +kernel
theorem dX8_saveTo_39 : decode cX8_saveTo 39 = .ok (.iconst 0, 1) := by decide +kernel
theorem dX8_saveTo_40 : decode cX8_saveTo 40 = .ok (.aload_n 1, 1) := by decide +kernel
theorem dX8_saveTo_41 : decode cX8_saveTo 41 = .ok (.iload_n 2, 1) := by decide +kernel
theorem dX8_saveTo_42 : decode cX8_saveTo 42 = .ok (.iconst 1, 1) := by decide +kernel
theorem dX8_saveTo_43 : decode cX8_saveTo 43 = .ok (.iadd, 1) := by decide +kernel
theorem dX8_saveTo_44 : decode cX8_saveTo 44 = .ok (.bipush 6, 2) := by decide +kernel
theorem dX8_saveTo_46 : decode cX8_saveTo 46 = .ok (.iadd, 1) := by decide +kernel
theorem dX8_saveTo_47 : decode cX8_saveTo 47 = .ok (.bipush 6, 2) := by decide +kernel
theorem dX8_saveTo_49 : decode cX8_saveTo 49 = .ok (.invokestatic 35, 3) := by decide +kernel
theorem dX8_saveTo_52 : decode cX8_saveTo 52 = .ok (.aload_n 0, 1) := by decide +kernel
theorem dX8_saveTo_53 : decode cX8_saveTo 53 = .ok (.getfield 18, 3) := by decide +kernel
theorem dX8_saveTo_56 : decode cX8_saveTo 56 = .ok (.iconst 0, 1) := by decide +kernel
theorem dX8_saveTo_57 : decode cX8_saveTo 57 = .ok (.aload_n 1, 1) := by decide +kernel
theorem dX8_saveTo_58 : decode cX8_saveTo 58 = .ok (.iload_n 2, 1) := by decide +kernel
theorem dX8_saveTo_59 : decode cX8_saveTo 59 = .ok (.iconst 1, 1) := by decide +kernel
theorem dX8_saveTo_60 : decode cX8_saveTo 60 = .ok (.iadd, 1) := by decide +kernel
theorem dX8_saveTo_61 : decode cX8_saveTo 61 = .ok (.bipush 12, 2) := by decide +kernel
theorem dX8_saveTo_63 : decode cX8_saveTo 63 = .ok (.iadd, 1) := by decide +kernel
theorem dX8_saveTo_64 : decode cX8_saveTo 64 = .ok (.bipush 6, 2) := by decide +kernel
theorem dX8_saveTo_66 : decode cX8_saveTo 66 = .ok (.invokestatic 35, 3) := by decide +kernel
theorem dX8_saveTo_69 : decode cX8_saveTo 69 = .ok (.aload_n 0, 1) := by decide +kernel
theorem dX8_saveTo_70 : decode cX8_saveTo 70 = .ok (.getfield 21, 3) := by decide +kernel
theorem dX8_saveTo_73 : decode cX8_saveTo 73 = .ok (.iconst 0, 1) := by decide +kernel
theorem dX8_saveTo_74 : decode cX8_saveTo 74 = .ok (.aload_n 1, 1) := by decide +kernel
theorem dX8_saveTo_75 : decode cX8_saveTo 75 = .ok (.iload_n 2, 1) := by decide +kernel
theorem dX8_saveTo_76 : decode cX8_saveTo 76 = .ok (.iconst 1, 1) := by decide +kernel
theorem dX8_saveTo_77 : decode cX8_saveTo 77 = .ok (.iadd, 1) := by decide +kernel
theorem dX8_saveTo_78 : decode cX8_saveTo 78 = .ok (.bipush 18, 2) := by decide +kernel
theorem dX8_saveTo_80 : decode cX8_saveTo 80 = .ok (.iadd, 1) := by decide +kernel
theorem dX8_saveTo_81 : decode cX8_saveTo 81 = .ok (.bipush 6, 2) := by decide +kernel
theorem dX8_saveTo_83 : decode cX8_saveTo 83 = .ok (.invokestatic 35, 3) := by decide +kernel
theorem dX8_saveTo_86 : decode cX8_saveTo 86 = .ok (.aload_n 0, 1) := by decide +kernel
theorem dX8_saveTo_87 : decode cX8_saveTo 87 = .ok (.getfield 24, 3) := by decide +kernel
theorem dX8_saveTo_90 : decode cX8_saveTo 90 = .ok (.iconst 0, 1) := by decide +kernel
theorem dX8_saveTo_91 : decode cX8_saveTo 91 = .ok (.aload_n 1, 1) := by decide +kernel
theorem dX8_saveTo_92 : decode cX8_saveTo 92 = .ok (.iload_n 2, 1) := by decide +kernel
theorem dX8_saveTo_93 : decode cX8_saveTo 93 = .ok (.iconst 1, 1) := by decide +kernel
theorem dX8_saveTo_94 : decode cX8_saveTo 94 = .ok (.iadd, 1) := by decide +kernel
theorem dX8_saveTo_95 : decode cX8_saveTo 95 = .ok (.bipush 24, 2) := by decide +kernel
theorem dX8_saveTo_97 : decode cX8_saveTo 97 = .ok (.iadd, 1) := by decide +kernel
theorem dX8_saveTo_98 : decode cX8_saveTo 98 = .ok (.bipush 6, 2) := by decide +kernel
theorem dX8_saveTo_100 : decode cX8_saveTo 100 = .ok (.invokestatic 35, 3) := by decide +kernel
theorem dX8_saveTo_103 : decode cX8_saveTo 103 = .ok (.return_, 1) := by decide +kernel
theorem dX8_loadFrom_0 : decode cX8_loadFrom 0 = .ok (.iload_n 2, 1) := by decide +kernel
theorem dX8_loadFrom_1 : decode cX8_loadFrom 1 = .ok (.ifCond .lt 12, 3) := by decide +kernel
theorem dX8_loadFrom_4 : decode cX8_loadFrom 4 = .ok (.iload_n 2, 1) := by decide +kernel
theorem dX8_loadFrom_5 : decode cX8_loadFrom 5 = .ok (.aload_n 1, 1) := by decide +kernel
theorem dX8_loadFrom_6 : decode cX8_loadFrom 6 = .ok (.arraylength, 1) := by decide +kernel
theorem dX8_loadFrom_7 : decode cX8_loadFrom 7 = .ok (.bipush 31, 2) := by decide +kernel
theorem dX8_loadFrom_9 : decode cX8_loadFrom 9 = .ok (.isub, 1) := by decide +kernel
theorem dX8_loadFrom_10 : decode cX8_loadFrom 10 = .ok (.if_icmp .le 4, 3) := by decide +kernel
theorem dX8_loadFrom_13 : decode cX8_loadFrom 13 = .ok (.return_, 1) := by decide +kernel
theorem dX8_loadFrom_14 : decode cX8_loadFrom 14 = .ok (.aload_n 0, 1) := by decide +kernel
theorem dX8_loadFrom_15 : decode cX8_loadFrom 15 = .ok (.aload_n 1, 1) := by decide +kernel
theorem dX8_loadFrom_16 : decode cX8_loadFrom 16 = .ok (.iload_n 2, 1) := by decide +kernel
theorem dX8_loadFrom_17 : decode cX8_loadFrom 17 = .ok (.iaload, 1) := by decide +kernel
theorem dX8_loadFrom_18 : decode cX8_loadFrom 18 = .ok (.putfield 31, 3) := by decide +kernel
theorem dX8_loadFrom_21 : decode cX8_loadFrom 21 = .ok (.aload_n 1, 1) := by decide +kernel
theorem dX8_loadFrom_22 : decode cX8_loadFrom 22 = .ok (.iload_n 2, 1) := by decide +kernel
theorem dX8_loadFrom_23 : decode cX8_loadFrom 23 = .ok (.iconst 1, 1) := by decide +kernel
theorem dX8_loadFrom_24 : decode cX8_loadFrom 24 = .ok (.iadd, 1) := by decide +kernel
theorem dX8_loadFrom_25 : decode cX8_loadFrom 25 = .ok (.aload_n 0, 1) := by decide +kernel
theorem dX8_loadFrom_26 : decode cX8_loadFrom 26 = .ok (.getfield 9, 3) := by decide +kernel
theorem dX8_loadFrom_29 : decode cX8_loadFrom 29 = .ok (.iconst 0, 1) := by decide +kernel
theorem dX8_loadFrom_30 : decode cX8_loadFrom 30 = .ok (.bipush 6, 2) := by decide +kernel
theorem dX8_loadFrom_32 : decode cX8_loadFrom 32 = .ok (.invokestatic 35, 3) := by decide +kernel
theorem dX8_loadFrom_35 : decode cX8_loadFrom 35 = .ok (.aload_n 1, 1) := by decide +kernel
theorem dX8_loadFrom_36 : decode cX8_loadFrom 36 = .ok (.iload_n 2, 1) := by decide +kernel
theorem dX8_loadFrom_37 : decode cX8_loadFrom 37 = .ok (.iconst 1, 1) := by decide +kernel
theorem dX8_loadFrom_38 : decode cX8_loadFrom 38 = .ok (.iadd, 1) := by decide +kernel
theorem dX8_loadFrom_39 : decode cX8_loadFrom 39 = .ok (.bipush 6, 2) := by decide +kernel
theorem dX8_loadFrom_41 : decode cX8_loadFrom 41 = .ok (.iadd, 1) := by decide +kernel
theorem dX8_loadFrom_42 : decode cX8_loadFrom 42 = .ok (.aload_n 0, 1) := by decide +kernel
theorem dX8_loadFrom_43 : decode cX8_loadFrom 43 = .ok (.getfield 15, 3) := by decide +kernel
theorem dX8_loadFrom_46 : decode cX8_loadFrom 46 = .ok (.iconst 0, 1) := by decide +kernel
theorem dX8_loadFrom_47 : decode cX8_loadFrom 47 = .ok (.bipush 6, 2) := by decide +kernel
theorem dX8_loadFrom_49 : decode cX8_loadFrom 49 = .ok (.invokestatic 35, 3) := by decide +kernel
theorem dX8_loadFrom_52 : decode cX8_loadFrom 52 = .ok (.aload_n 1, 1) := by decide +kernel
theorem dX8_loadFrom_53 : decode cX8_loadFrom 53 = .ok (.iload_n 2, 1) := by decide +kernel
theorem dX8_loadFrom_54 : decode cX8_loadFrom 54 = .ok (.iconst 1, 1) := by decide +kernel
theorem dX8_loadFrom_55 : decode cX8_loadFrom 55 = .ok (.iadd, 1) := by decide +kernel
theorem dX8_loadFrom_56 : decode cX8_loadFrom 56 = .ok (.bipush 12, 2) := by decide +kernel
theorem dX8_loadFrom_58 : decode cX8_loadFrom 58 = .ok (.iadd, 1) := by decide +kernel
theorem dX8_loadFrom_59 : decode cX8_loadFrom 59 = .ok (.aload_n 0, 1) := by decide +kernel
theorem dX8_loadFrom_60 : decode cX8_loadFrom 60 = .ok (.getfield 18, 3) := by decide +kernel
theorem dX8_loadFrom_63 : decode cX8_loadFrom 63 = .ok (.iconst 0, 1) := by decide +kernel
theorem dX8_loadFrom_64 : decode cX8_loadFrom 64 = .ok (.bipush 6, 2) := by decide +kernel
theorem dX8_loadFrom_66 : decode cX8_loadFrom 66 = .ok (.invokestatic 35, 3) := by decide +kernel
theorem dX8_loadFrom_69 : decode cX8_loadFrom 69 = .ok (.aload_n 1, 1) := by decide +kernel
theorem dX8_loadFrom_70 : decode cX8_loadFrom 70 = .ok (.iload_n 2, 1) := by decide +kernel
theorem dX8_loadFrom_71 : decode cX8_loadFrom 71 = .ok (.iconst 1, 1) := by decide +kernel
theorem dX8_loadFrom_72 : decode cX8_loadFrom 72 = .ok (.iadd, 1) := by decide +kernel
theorem dX8_loadFrom_73 : decode cX8_loadFrom 73 = .ok (.bipush 18, 2) := by decide +kernel
theorem dX8_loadFrom_75 : decode cX8_loadFrom 75 = .ok (.iadd, 1) := by decide +kernel
theorem dX8_loadFrom_76 : decode cX8_loadFrom 76 = .ok (.aload_n 0, 1) := by decide +kernel
theorem dX8_loadFrom_77 : decode cX8_loadFrom 77 = .ok (.getfield 21, 3) := by decide +kernel
theorem dX8_loadFrom_80 : decode cX8_loadFrom 80 = .ok (.iconst 0, 1) := by decide +kernel
theorem dX8_loadFrom_81 : decode cX8_loadFrom 81 = .ok (.bipush 6, 2) := by decide +kernel
theorem dX8_loadFrom_83 : decode cX8_loadFrom 83 = .ok (.invokestatic 35, 3) := by decide +kernel
theorem dX8_loadFrom_86 : decode cX8_loadFrom 86 = .ok (.aload_n 1, 1) := by decide +kernel
theorem dX8_loadFrom_87 : decode cX8_loadFrom 87 = .ok (.iload_n 2, 1) := by decide +kernel
theorem dX8_loadFrom_88 : decode cX8_loadFrom 88 = .ok (.iconst 1, 1) := by decide +kernel
theorem dX8_loadFrom_89 : decode cX8_loadFrom 89 = .ok (.iadd, 1) := by decide +kernel
theorem dX8_loadFrom_90 : decode cX8_loadFrom 90 = .ok (.bipush 24, 2) := by decide +kernel
theorem dX8_loadFrom_92 : decode cX8_loadFrom 92 = .ok (.iadd, 1) := by decide +kernel
theorem dX8_loadFrom_93 : decode cX8_loadFrom 93 = .ok (.aload_n 0, 1) := by decide +kernel
theorem dX8_loadFrom_94 : decode cX8_loadFrom 94 = .ok (.getfield 24, 3) := by decide +kernel
theorem dX8_loadFrom_97 : decode cX8_loadFrom 97 = .ok (.iconst 0, 1) := by decide +kernel
theorem dX8_loadFrom_98 : decode cX8_loadFrom 98 = .ok (.bipush 6, 2) := by decide +kernel
theorem dX8_loadFrom_100 : decode cX8_loadFrom 100 = .ok (.invokestatic 35, 3) := by decide +kernel
theorem dX8_loadFrom_103 : decode cX8_loadFrom 103 = .ok (.return_, 1) := by decide +kernel
theorem dX8_holderOf_0 : decode cX8_holderOf 0 = .ok (.aload_n 0, 1) := by decide +kernel
theorem dX8_holderOf_1 : decode cX8_holderOf 1 = .ok (.getfield 27, 3) := by decide +kernel
theorem dX8_holderOf_4 : decode cX8_holderOf 4 = .ok (.iload_n 1, 1) := by decide +kernel
theorem dX8_holderOf_5 : decode cX8_holderOf 5 = .ok (.invokevirtual 41, 3) := by decide +kernel
theorem dX8_holderOf_8 : decode cX8_holderOf 8 = .ok (.ifCond .eq 21, 3) := by decide +kernel
theorem dX8_holderOf_11 : decode cX8_holderOf 11 = .ok (.aload_n 0, 1) := by decide +kernel
theorem dX8_holderOf_12 : decode cX8_holderOf 12 = .ok (.getfield 9, 3) := by decide +kernel
theorem dX8_holderOf_15 : decode cX8_holderOf 15 = .ok (.iload_n 1, 1) := by decide +kernel
theorem dX8_holderOf_16 : decode cX8_holderOf 16 = .ok (.iaload, 1) := by decide +kernel
theorem dX8_holderOf_17 : decode cX8_holderOf 17 = .ok (.ifCond .lt 12, 3) := by decide +kernel
theorem dX8_holderOf_20 : decode cX8_holderOf 20 = .ok (.aload_n 0, 1) := by decide +kernel
theorem dX8_holderOf_21 : decode cX8_holderOf 21 = .ok (.getfield 9, 3) := by decide +kernel
theorem dX8_holderOf_24 : decode cX8_holderOf 24 = .ok (.iload_n 1, 1) := by decide +kernel
theorem dX8_holderOf_25 : decode cX8_holderOf 25 = .ok (.iaload, 1) := by decide +kernel
theorem dX8_holderOf_26 : decode cX8_holderOf 26 = .ok (.goto 4, 3) := by decide +kernel
theorem dX8_holderOf_29 : decode cX8_holderOf 29 = .ok (.iconst (-1), 1) := by decide +kernel
theorem dX8_holderOf_30 : decode cX8_holderOf 30 = .ok (.ireturn, 1) := by decide +kernel
theorem dX8_kindOfPlace_0 : decode cX8_kindOfPlace 0 = .ok (.aload_n 0, 1) := by decide +kernel
theorem dX8_kindOfPlace_1 : decode cX8_kindOfPlace 1 = .ok (.iload_n 1, 1) := by decide +kernel
theorem dX8_kindOfPlace_2 : decode cX8_kindOfPlace 2 = .ok (.invokevirtual 47, 3) := by decide +kernel
theorem dX8_kindOfPlace_5 : decode cX8_kindOfPlace 5 = .ok (.iconst (-1), 1) := by decide +kernel
theorem dX8_kindOfPlace_6 : decode cX8_kindOfPlace 6 = .ok (.if_icmp .eq 5, 3) := by decide +kernel
theorem dX8_kindOfPlace_9 : decode cX8_kindOfPlace 9 = .ok (.iconst 2, 1) := by decide +kernel
theorem dX8_kindOfPlace_10 : decode cX8_kindOfPlace 10 = .ok (.ireturn, 1) := by decide +kernel
theorem dX8_kindOfPlace_11 : decode cX8_kindOfPlace 11 = .ok (.aload_n 0, 1) := by decide +kernel
theorem dX8_kindOfPlace_12 : decode cX8_kindOfPlace 12 = .ok (.getfield 27, 3) := by decide +kernel
theorem dX8_kindOfPlace_15 : decode cX8_kindOfPlace 15 = .ok (.iload_n 1, 1) := by decide +kernel
theorem dX8_kindOfPlace_16 : decode cX8_kindOfPlace 16 = .ok (.invokevirtual 41, 3) := by decide +kernel
theorem dX8_kindOfPlace_19 : decode cX8_kindOfPlace 19 = .ok (.ifCond .eq 18, 3) := by decide +kernel
theorem dX8_kindOfPlace_22 : decode cX8_kindOfPlace 22 = .ok (.aload_n 0, 1) := by decide +kernel
theorem dX8_kindOfPlace_23 : decode cX8_kindOfPlace 23 = .ok (.getfield 9, 3) := by decide +kernel
theorem dX8_kindOfPlace_26 : decode cX8_kindOfPlace 26 = .ok (.iload_n 1, 1) := by decide +kernel
theorem dX8_kindOfPlace_27 : decode cX8_kindOfPlace 27 = .ok (.iaload, 1) := by decide +kernel
theorem dX8_kindOfPlace_28 : decode cX8_kindOfPlace 28 = .ok (.bipush (-2), 2) := by decide +kernel
theorem dX8_kindOfPlace_30 : decode cX8_kindOfPlace 30 = .ok (.if_icmp .ne 7, 3) := by decide +kernel
theorem dX8_kindOfPlace_33 : decode cX8_kindOfPlace 33 = .ok (.iconst 1, 1) := by decide +kernel
theorem dX8_kindOfPlace_34 : decode cX8_kindOfPlace 34 = .ok (.goto 4, 3) := by decide +kernel
theorem dX8_kindOfPlace_37 : decode cX8_kindOfPlace 37 = .ok (.iconst 0, 1) := by decide +kernel
theorem dX8_kindOfPlace_38 : decode cX8_kindOfPlace 38 = .ok (.ireturn, 1) := by decide +kernel
theorem dX8_dummyOf_0 : decode cX8_dummyOf 0 = .ok (.iconst 0, 1) := by decide +kernel
theorem dX8_dummyOf_1 : decode cX8_dummyOf 1 = .ok (.istore_n 2, 1) := by decide +kernel
theorem dX8_dummyOf_2 : decode cX8_dummyOf 2 = .ok (.iload_n 2, 1) := by decide +kernel
theorem dX8_dummyOf_3 : decode cX8_dummyOf 3 = .ok (.aload_n 0, 1) := by decide +kernel
theorem dX8_dummyOf_4 : decode cX8_dummyOf 4 = .ok (.getfield 27, 3) := by decide +kernel
theorem dX8_dummyOf_7 : decode cX8_dummyOf 7 = .ok (.getfield 51, 3) := by decide +kernel
theorem dX8_dummyOf_10 : decode cX8_dummyOf 10 = .ok (.if_icmp .ge 21, 3) := by decide +kernel
theorem dX8_dummyOf_13 : decode cX8_dummyOf 13 = .ok (.aload_n 0, 1) := by decide +kernel
theorem dX8_dummyOf_14 : decode cX8_dummyOf 14 = .ok (.getfield 9, 3) := by decide +kernel
theorem dX8_dummyOf_17 : decode cX8_dummyOf 17 = .ok (.iload_n 2, 1) := by decide +kernel
theorem dX8_dummyOf_18 : decode cX8_dummyOf 18 = .ok (.iaload, 1) := by decide +kernel
theorem dX8_dummyOf_19 : decode cX8_dummyOf 19 = .ok (.iload_n 1, 1) := by decide +kernel
theorem dX8_dummyOf_20 : decode cX8_dummyOf 20 = .ok (.if_icmp .ne 5, 3) := by decide +kernel
theorem dX8_dummyOf_23 : decode cX8_dummyOf 23 = .ok (.iload_n 2, 1) := by decide +kernel
theorem dX8_dummyOf_24 : decode cX8_dummyOf 24 = .ok (.ireturn, 1) := by decide +kernel
theorem dX8_dummyOf_25 : decode cX8_dummyOf 25 = .ok (.iinc 2 1, 3) := by decide +kernel
theorem dX8_dummyOf_28 : decode cX8_dummyOf 28 = .ok (.goto (-26), 3) := by decide +kernel
theorem dX8_dummyOf_31 : decode cX8_dummyOf 31 = .ok (.iconst (-1), 1) := by decide +kernel
theorem dX8_dummyOf_32 : decode cX8_dummyOf 32 = .ok (.ireturn, 1) := by decide +kernel
theorem dX8_setAt_0 : decode cX8_setAt 0 = .ok (.iconst 0, 1) := by decide +kernel
theorem dX8_setAt_1 : decode cX8_setAt 1 = .ok (.istore_n 2, 1) := by decide +kernel
theorem dX8_setAt_2 : decode cX8_setAt 2 = .ok (.iconst 0, 1) := by decide +kernel
theorem dX8_setAt_3 : decode cX8_setAt 3 = .ok (.istore_n 3, 1) := by decide +kernel
theorem dX8_setAt_4 : decode cX8_setAt 4 = .ok (.iload_n 3, 1) := by decide +kernel
theorem dX8_setAt_5 : decode cX8_setAt 5 = .ok (.aload_n 0, 1) := by decide +kernel
theorem dX8_setAt_6 : decode cX8_setAt 6 = .ok (.getfield 27, 3) := by decide +kernel
theorem dX8_setAt_9 : decode cX8_setAt 9 = .ok (.getfield 51, 3) := by decide +kernel
theorem dX8_setAt_12 : decode cX8_setAt 12 = .ok (.if_icmp .ge 25, 3) := by decide +kernel
theorem dX8_setAt_15 : decode cX8_setAt 15 = .ok (.aload_n 0, 1) := by decide +kernel
theorem dX8_setAt_16 : decode cX8_setAt 16 = .ok (.getfield 9, 3) := by decide +kernel
theorem dX8_setAt_19 : decode cX8_setAt 19 = .ok (.iload_n 3, 1) := by decide +kernel
theorem dX8_setAt_20 : decode cX8_setAt 20 = .ok (.iaload, 1) := by decide +kernel
theorem dX8_setAt_21 : decode cX8_setAt 21 = .ok (.iload_n 1, 1) := by decide +kernel
theorem dX8_setAt_22 : decode cX8_setAt 22 = .ok (.if_icmp .ne 9, 3) := by decide +kernel
theorem dX8_setAt_25 : decode cX8_setAt 25 = .ok (.iload_n 2, 1) := by decide +kernel
theorem dX8_setAt_26 : decode cX8_setAt 26 = .ok (.iconst 1, 1) := by decide +kernel
theorem dX8_setAt_27 : decode cX8_setAt 27 = .ok (.iload_n 3, 1) := by decide +kernel
theorem dX8_setAt_28 : decode cX8_setAt 28 = .ok (.ishl, 1) := by decide +kernel
theorem dX8_setAt_29 : decode cX8_setAt 29 = .ok (.ior, 1) := by decide +kernel
theorem dX8_setAt_30 : decode cX8_setAt 30 = .ok (.istore_n 2, 1) := by decide +kernel
theorem dX8_setAt_31 : decode cX8_setAt 31 = .ok (.iinc 3 1, 3) := by decide +kernel
theorem dX8_setAt_34 : decode cX8_setAt 34 = .ok (.goto (-30), 3) := by decide +kernel
theorem dX8_setAt_37 : decode cX8_setAt 37 = .ok (.iload_n 2, 1) := by decide +kernel
theorem dX8_setAt_38 : decode cX8_setAt 38 = .ok (.ireturn, 1) := by decide +kernel
theorem dX8_readableSet_0 : decode cX8_readableSet 0 = .ok (.iconst 0, 1) := by decide +kernel
theorem dX8_readableSet_1 : decode cX8_readableSet 1 = .ok (.istore_n 1, 1) := by decide +kernel
theorem dX8_readableSet_2 : decode cX8_readableSet 2 = .ok (.iconst 0, 1) := by decide +kernel
theorem dX8_readableSet_3 : decode cX8_readableSet 3 = .ok (.istore_n 2, 1) := by decide +kernel
theorem dX8_readableSet_4 : decode cX8_readableSet 4 = .ok (.iload_n 2, 1) := by decide +kernel
theorem dX8_readableSet_5 : decode cX8_readableSet 5 = .ok (.aload_n 0, 1) := by decide +kernel
theorem dX8_readableSet_6 : decode cX8_readableSet 6 = .ok (.getfield 27, 3) := by decide +kernel
theorem dX8_readableSet_9 : decode cX8_readableSet 9 = .ok (.getfield 51, 3) := by decide +kernel
theorem dX8_readableSet_12 : decode cX8_readableSet 12 = .ok (.if_icmp .ge 33, 3) := by decide +kernel
theorem dX8_readableSet_15 : decode cX8_readableSet 15 = .ok (.aload_n 0, 1) := by decide +kernel
theorem dX8_readableSet_16 : decode cX8_readableSet 16 = .ok (.getfield 15, 3) := by decide +kernel
theorem dX8_readableSet_19 : decode cX8_readableSet 19 = .ok (.iload_n 2, 1) := by decide +kernel
theorem dX8_readableSet_20 : decode cX8_readableSet 20 = .ok (.iaload, 1) := by decide +kernel
theorem dX8_readableSet_21 : decode cX8_readableSet 21 = .ok (.aload_n 0, 1) := by decide +kernel
theorem dX8_readableSet_22 : decode cX8_readableSet 22 = .ok (.getfield 27, 3) := by decide +kernel
theorem dX8_readableSet_25 : decode cX8_readableSet 25 = .ok (.getfield 54, 3) := by decide +kernel
theorem dX8_readableSet_28 : decode cX8_readableSet 28 = .ok (.iload_n 2, 1) := by decide +kernel
theorem dX8_readableSet_29 : decode cX8_readableSet 29 = .ok (.iaload, 1) := by decide +kernel
theorem dX8_readableSet_30 : decode cX8_readableSet 30 = .ok (.if_icmp .ge 9, 3) := by decide +kernel
theorem dX8_readableSet_33 : decode cX8_readableSet 33 = .ok (.iload_n 1, 1) := by decide +kernel
theorem dX8_readableSet_34 : decode cX8_readableSet 34 = .ok (.iconst 1, 1) := by decide +kernel
theorem dX8_readableSet_35 : decode cX8_readableSet 35 = .ok (.iload_n 2, 1) := by decide +kernel
theorem dX8_readableSet_36 : decode cX8_readableSet 36 = .ok (.ishl, 1) := by decide +kernel
theorem dX8_readableSet_37 : decode cX8_readableSet 37 = .ok (.ior, 1) := by decide +kernel
theorem dX8_readableSet_38 : decode cX8_readableSet 38 = .ok (.istore_n 1, 1) := by decide +kernel
theorem dX8_readableSet_39 : decode cX8_readableSet 39 = .ok (.iinc 2 1, 3) := by decide +kernel
theorem dX8_readableSet_42 : decode cX8_readableSet 42 = .ok (.goto (-38), 3) := by decide +kernel
theorem dX8_readableSet_45 : decode cX8_readableSet 45 = .ok (.iload_n 1, 1) := by decide +kernel
theorem dX8_readableSet_46 : decode cX8_readableSet 46 = .ok (.ireturn, 1) := by decide +kernel
theorem dX8_calmSet_0 : decode cX8_calmSet 0 = .ok (.iconst 0, 1) := by decide +kernel
theorem dX8_calmSet_1 : decode cX8_calmSet 1 = .ok (.istore_n 1, 1) := by decide +kernel
theorem dX8_calmSet_2 : decode cX8_calmSet 2 = .ok (.iconst 0, 1) := by decide +kernel
theorem dX8_calmSet_3 : decode cX8_calmSet 3 = .ok (.istore_n 2, 1) := by decide +kernel
theorem dX8_calmSet_4 : decode cX8_calmSet 4 = .ok (.iload_n 2, 1) := by decide +kernel
theorem dX8_calmSet_5 : decode cX8_calmSet 5 = .ok (.aload_n 0, 1) := by decide +kernel
theorem dX8_calmSet_6 : decode cX8_calmSet 6 = .ok (.getfield 27, 3) := by decide +kernel
theorem dX8_calmSet_9 : decode cX8_calmSet 9 = .ok (.getfield 57, 3) := by decide +kernel
theorem dX8_calmSet_12 : decode cX8_calmSet 12 = .ok (.if_icmp .ge 31, 3) := by decide +kernel
theorem dX8_calmSet_15 : decode cX8_calmSet 15 = .ok (.aload_n 0, 1) := by decide +kernel
theorem dX8_calmSet_16 : decode cX8_calmSet 16 = .ok (.getfield 27, 3) := by decide +kernel
theorem dX8_calmSet_19 : decode cX8_calmSet 19 = .ok (.iload_n 2, 1) := by decide +kernel
theorem dX8_calmSet_20 : decode cX8_calmSet 20 = .ok (.aload_n 0, 1) := by decide +kernel
theorem dX8_calmSet_21 : decode cX8_calmSet 21 = .ok (.iload_n 2, 1) := by decide +kernel
theorem dX8_calmSet_22 : decode cX8_calmSet 22 = .ok (.invokevirtual 60, 3) := by decide +kernel
theorem dX8_calmSet_25 : decode cX8_calmSet 25 = .ok (.invokevirtual 63, 3) := by decide +kernel
theorem dX8_calmSet_28 : decode cX8_calmSet 28 = .ok (.ifCond .eq 9, 3) := by decide +kernel
theorem dX8_calmSet_31 : decode cX8_calmSet 31 = .ok (.iload_n 1, 1) := by decide +kernel
theorem dX8_calmSet_32 : decode cX8_calmSet 32 = .ok (.iconst 1, 1) := by decide +kernel
theorem dX8_calmSet_33 : decode cX8_calmSet 33 = .ok (.iload_n 2, 1) := by decide +kernel
theorem dX8_calmSet_34 : decode cX8_calmSet 34 = .ok (.ishl, 1) := by decide +kernel
theorem dX8_calmSet_35 : decode cX8_calmSet 35 = .ok (.ior, 1) := by decide +kernel
theorem dX8_calmSet_36 : decode cX8_calmSet 36 = .ok (.istore_n 1, 1) := by decide +kernel
theorem dX8_calmSet_37 : decode cX8_calmSet 37 = .ok (.iinc 2 1, 3) := by decide +kernel
theorem dX8_calmSet_40 : decode cX8_calmSet 40 = .ok (.goto (-36), 3) := by decide +kernel
theorem dX8_calmSet_43 : decode cX8_calmSet 43 = .ok (.iload_n 1, 1) := by decide +kernel
theorem dX8_calmSet_44 : decode cX8_calmSet 44 = .ok (.ireturn, 1) := by decide +kernel
theorem dX8_sickSet_0 : decode cX8_sickSet 0 = .ok (.iconst 0, 1) := by decide +kernel
theorem dX8_sickSet_1 : decode cX8_sickSet 1 = .ok (.istore_n 1, 1) := by decide +kernel
theorem dX8_sickSet_2 : decode cX8_sickSet 2 = .ok (.iconst 0, 1) := by decide +kernel
theorem dX8_sickSet_3 : decode cX8_sickSet 3 = .ok (.istore_n 2, 1) := by decide +kernel
theorem dX8_sickSet_4 : decode cX8_sickSet 4 = .ok (.iload_n 2, 1) := by decide +kernel
theorem dX8_sickSet_5 : decode cX8_sickSet 5 = .ok (.aload_n 0, 1) := by decide +kernel
theorem dX8_sickSet_6 : decode cX8_sickSet 6 = .ok (.getfield 27, 3) := by decide +kernel
theorem dX8_sickSet_9 : decode cX8_sickSet 9 = .ok (.getfield 57, 3) := by decide +kernel
theorem dX8_sickSet_12 : decode cX8_sickSet 12 = .ok (.if_icmp .ge 24, 3) := by decide +kernel
theorem dX8_sickSet_15 : decode cX8_sickSet 15 = .ok (.aload_n 0, 1) := by decide +kernel
theorem dX8_sickSet_16 : decode cX8_sickSet 16 = .ok (.getfield 21, 3) := by decide +kernel
theorem dX8_sickSet_19 : decode cX8_sickSet 19 = .ok (.iload_n 2, 1) := by decide +kernel
theorem dX8_sickSet_20 : decode cX8_sickSet 20 = .ok (.iaload, 1) := by decide +kernel
theorem dX8_sickSet_21 : decode cX8_sickSet 21 = .ok (.ifCond .le 9, 3) := by decide +kernel
theorem dX8_sickSet_24 : decode cX8_sickSet 24 = .ok (.iload_n 1, 1) := by decide +kernel
theorem dX8_sickSet_25 : decode cX8_sickSet 25 = .ok (.iconst 1, 1) := by decide +kernel
theorem dX8_sickSet_26 : decode cX8_sickSet 26 = .ok (.iload_n 2, 1) := by decide +kernel
theorem dX8_sickSet_27 : decode cX8_sickSet 27 = .ok (.ishl, 1) := by decide +kernel
theorem dX8_sickSet_28 : decode cX8_sickSet 28 = .ok (.ior, 1) := by decide +kernel
theorem dX8_sickSet_29 : decode cX8_sickSet 29 = .ok (.istore_n 1, 1) := by decide +kernel
theorem dX8_sickSet_30 : decode cX8_sickSet 30 = .ok (.iinc 2 1, 3) := by decide +kernel
theorem dX8_sickSet_33 : decode cX8_sickSet 33 = .ok (.goto (-29), 3) := by decide +kernel
theorem dX8_sickSet_36 : decode cX8_sickSet 36 = .ok (.iload_n 1, 1) := by decide +kernel
theorem dX8_sickSet_37 : decode cX8_sickSet 37 = .ok (.ireturn, 1) := by decide +kernel
theorem dX8_infects_0 : decode cX8_infects 0 = .ok (.aload_n 0, 1) := by decide +kernel
theorem dX8_infects_1 : decode cX8_infects 1 = .ok (.invokevirtual 67, 3) := by decide +kernel
theorem dX8_infects_4 : decode cX8_infects 4 = .ok (.istore_n 3, 1) := by decide +kernel
theorem dX8_infects_5 : decode cX8_infects 5 = .ok (.iload_n 3, 1) := by decide +kernel
theorem dX8_infects_6 : decode cX8_infects 6 = .ok (.iload_n 2, 1) := by decide +kernel
theorem dX8_infects_7 : decode cX8_infects 7 = .ok (.invokestatic 71, 3) := by decide +kernel
theorem dX8_infects_10 : decode cX8_infects 10 = .ok (.ifCond .ne 29, 3) := by decide +kernel
theorem dX8_infects_13 : decode cX8_infects 13 = .ok (.aload_n 0, 1) := by decide +kernel
theorem dX8_infects_14 : decode cX8_infects 14 = .ok (.getfield 27, 3) := by decide +kernel
theorem dX8_infects_17 : decode cX8_infects 17 = .ok (.iload_n 1, 1) := by decide +kernel
theorem dX8_infects_18 : decode cX8_infects 18 = .ok (.invokevirtual 41, 3) := by decide +kernel
theorem dX8_infects_21 : decode cX8_infects 21 = .ok (.ifCond .eq 18, 3) := by decide +kernel
theorem dX8_infects_24 : decode cX8_infects 24 = .ok (.aload_n 0, 1) := by decide +kernel
theorem dX8_infects_25 : decode cX8_infects 25 = .ok (.getfield 18, 3) := by decide +kernel
theorem dX8_infects_28 : decode cX8_infects 28 = .ok (.iload_n 1, 1) := by decide +kernel
theorem dX8_infects_29 : decode cX8_infects 29 = .ok (.iaload, 1) := by decide +kernel
theorem dX8_infects_30 : decode cX8_infects 30 = .ok (.iload_n 3, 1) := by decide +kernel
theorem dX8_infects_31 : decode cX8_infects 31 = .ok (.iand, 1) := by decide +kernel
theorem dX8_infects_32 : decode cX8_infects 32 = .ok (.ifCond .eq 7, 3) := by decide +kernel
theorem dX8_infects_35 : decode cX8_infects 35 = .ok (.iconst 1, 1) := by decide +kernel
theorem dX8_infects_36 : decode cX8_infects 36 = .ok (.goto 4, 3) := by decide +kernel
theorem dX8_infects_39 : decode cX8_infects 39 = .ok (.iconst 0, 1) := by decide +kernel
theorem dX8_infects_40 : decode cX8_infects 40 = .ok (.ireturn, 1) := by decide +kernel
theorem dX8_canHand_0 : decode cX8_canHand 0 = .ok (.aload_n 0, 1) := by decide +kernel
theorem dX8_canHand_1 : decode cX8_canHand 1 = .ok (.getfield 27, 3) := by decide +kernel
theorem dX8_canHand_4 : decode cX8_canHand 4 = .ok (.iload_n 1, 1) := by decide +kernel
theorem dX8_canHand_5 : decode cX8_canHand 5 = .ok (.invokevirtual 41, 3) := by decide +kernel
theorem dX8_canHand_8 : decode cX8_canHand 8 = .ok (.ifCond .eq 25, 3) := by decide +kernel
theorem dX8_canHand_11 : decode cX8_canHand 11 = .ok (.aload_n 0, 1) := by decide +kernel
theorem dX8_canHand_12 : decode cX8_canHand 12 = .ok (.iload_n 1, 1) := by decide +kernel
theorem dX8_canHand_13 : decode cX8_canHand 13 = .ok (.invokevirtual 47, 3) := by decide +kernel
theorem dX8_canHand_16 : decode cX8_canHand 16 = .ok (.iconst (-1), 1) := by decide +kernel
theorem dX8_canHand_17 : decode cX8_canHand 17 = .ok (.if_icmp .ne 16, 3) := by decide +kernel
theorem dX8_canHand_20 : decode cX8_canHand 20 = .ok (.aload_n 0, 1) := by decide +kernel
theorem dX8_canHand_21 : decode cX8_canHand 21 = .ok (.iload_n 2, 1) := by decide +kernel
theorem dX8_canHand_22 : decode cX8_canHand 22 = .ok (.invokevirtual 60, 3) := by decide +kernel
theorem dX8_canHand_25 : decode cX8_canHand 25 = .ok (.iconst (-1), 1) := by decide +kernel
theorem dX8_canHand_26 : decode cX8_canHand 26 = .ok (.if_icmp .ne 7, 3) := by decide +kernel
theorem dX8_canHand_29 : decode cX8_canHand 29 = .ok (.iconst 1, 1) := by decide +kernel
theorem dX8_canHand_30 : decode cX8_canHand 30 = .ok (.goto 4, 3) := by decide +kernel
theorem dX8_canHand_33 : decode cX8_canHand 33 = .ok (.iconst 0, 1) := by decide +kernel
theorem dX8_canHand_34 : decode cX8_canHand 34 = .ok (.ireturn, 1) := by decide +kernel
theorem dX8_hand_0 : decode cX8_hand 0 = .ok (.aload_n 0, 1) := by decide +kernel
theorem dX8_hand_1 : decode cX8_hand 1 = .ok (.getfield 27, 3) := by decide +kernel
theorem dX8_hand_4 : decode cX8_hand 4 = .ok (.iload_n 1, 1) := by decide +kernel
theorem dX8_hand_5 : decode cX8_hand 5 = .ok (.invokevirtual 41, 3) := by decide +kernel
theorem dX8_hand_8 : decode cX8_hand 8 = .ok (.ifCond .eq 14, 3) := by decide +kernel
theorem dX8_hand_11 : decode cX8_hand 11 = .ok (.aload_n 0, 1) := by decide +kernel
theorem dX8_hand_12 : decode cX8_hand 12 = .ok (.getfield 27, 3) := by decide +kernel
theorem dX8_hand_15 : decode cX8_hand 15 = .ok (.iload_n 2, 1) := by decide +kernel
theorem dX8_hand_16 : decode cX8_hand 16 = .ok (.invokevirtual 74, 3) := by decide +kernel
theorem dX8_hand_19 : decode cX8_hand 19 = .ok (.ifCond .ne 4, 3) := by decide +kernel
theorem dX8_hand_22 : decode cX8_hand 22 = .ok (.return_, 1) := by decide +kernel
theorem dX8_hand_23 : decode cX8_hand 23 = .ok (.aload_n 0, 1) := by decide +kernel
theorem dX8_hand_24 : decode cX8_hand 24 = .ok (.getfield 9, 3) := by decide +kernel
theorem dX8_hand_27 : decode cX8_hand 27 = .ok (.iload_n 1, 1) := by decide +kernel
theorem dX8_hand_28 : decode cX8_hand 28 = .ok (.iload_n 2, 1) := by decide +kernel
theorem dX8_hand_29 : decode cX8_hand 29 = .ok (.iastore, 1) := by decide +kernel
theorem dX8_hand_30 : decode cX8_hand 30 = .ok (.aload_n 0, 1) := by decide +kernel
theorem dX8_hand_31 : decode cX8_hand 31 = .ok (.getfield 27, 3) := by decide +kernel
theorem dX8_hand_34 : decode cX8_hand 34 = .ok (.iload_n 2, 1) := by decide +kernel
theorem dX8_hand_35 : decode cX8_hand 35 = .ok (.iload_n 1, 1) := by decide +kernel
theorem dX8_hand_36 : decode cX8_hand 36 = .ok (.invokevirtual 63, 3) := by decide +kernel
theorem dX8_hand_39 : decode cX8_hand 39 = .ok (.ifCond .ne 4, 3) := by decide +kernel
theorem dX8_hand_42 : decode cX8_hand 42 = .ok (.return_, 1) := by decide +kernel
theorem dX8_hand_43 : decode cX8_hand 43 = .ok (.aload_n 0, 1) := by decide +kernel
theorem dX8_hand_44 : decode cX8_hand 44 = .ok (.iload_n 1, 1) := by decide +kernel
theorem dX8_hand_45 : decode cX8_hand 45 = .ok (.iload_n 2, 1) := by decide +kernel
theorem dX8_hand_46 : decode cX8_hand 46 = .ok (.invokevirtual 77, 3) := by decide +kernel
theorem dX8_hand_49 : decode cX8_hand 49 = .ok (.ifCond .eq 16, 3) := by decide +kernel
theorem dX8_hand_52 : decode cX8_hand 52 = .ok (.aload_n 0, 1) := by decide +kernel
theorem dX8_hand_53 : decode cX8_hand 53 = .ok (.getfield 21, 3) := by decide +kernel
theorem dX8_hand_56 : decode cX8_hand 56 = .ok (.iload_n 2, 1) := by decide +kernel
theorem dX8_hand_57 : decode cX8_hand 57 = .ok (.aload_n 0, 1) := by decide +kernel
