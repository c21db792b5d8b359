theorem dX10_nursery_212 : decode cX10_nursery 212 = .ok (.aload_n 0, 1) := by decide +kernel
theorem dX10_nursery_213 : decode cX10_nursery 213 = .ok (.getfield 44, 3) := by decide +kernel
theorem dX10_nursery_216 : decode cX10_nursery 216 = .ok (.iconst 1, 1) := by decide +kernel
theorem dX10_nursery_217 : decode cX10_nursery 217 = .ok (.iconst 0, 1) := by decide +kernel
theorem dX10_nursery_218 : decode cX10_nursery 218 = .ok (.bastore, 1) := by decide +kernel
theorem dX10_nursery_219 : decode cX10_nursery 219 = .ok (.aload_n 0, 1) := by decide +kernel
theorem dX10_nursery_220 : decode cX10_nursery 220 = .ok (.iconst 0, 1) := by decide +kernel
theorem dX10_nursery_221 : decode cX10_nursery 221 = .ok (.putfield 167, 3) := by decide +kernel
theorem dX10_nursery_224 : decode cX10_nursery 224 = .ok (.aload_n 0, 1) := by decide +kernel
theorem dX10_nursery_225 : decode cX10_nursery 225 = .ok (.getfield 66, 3) := by decide +kernel
theorem dX10_nursery_228 : decode cX10_nursery 228 = .ok (.ireturn, 1) := by decide +kernel
theorem dX10_fault_0 : decode cX10_fault 0 = .ok (.aload_n 0, 1) := by decide +kernel
theorem dX10_fault_1 : decode cX10_fault 1 = .ok (.getfield 13, 3) := by decide +kernel
theorem dX10_fault_4 : decode cX10_fault 4 = .ok (.ireturn, 1) := by decide +kernel
theorem dX10_takesBy_0 : decode cX10_takesBy 0 = .ok (.aload_n 0, 1) := by decide +kernel
theorem dX10_takesBy_1 : decode cX10_takesBy 1 = .ok (.getfield 23, 3) := by decide +kernel
theorem dX10_takesBy_4 : decode cX10_takesBy 4 = .ok (.iconst 2, 1) := by decide +kernel
theorem dX10_takesBy_5 : decode cX10_takesBy 5 = .ok (.iload_n 1, 1) := by decide +kernel
theorem dX10_takesBy_6 : decode cX10_takesBy 6 = .ok (.imul, 1) := by decide +kernel
theorem dX10_takesBy_7 : decode cX10_takesBy 7 = .ok (.iaload, 1) := by decide +kernel
theorem dX10_takesBy_8 : decode cX10_takesBy 8 = .ok (.istore 4, 2) := by decide +kernel
theorem dX10_takesBy_10 : decode cX10_takesBy 10 = .ok (.iload_n 2, 1) := by decide +kernel
theorem dX10_takesBy_11 : decode cX10_takesBy 11 = .ok (.iload_n 3, 1) := by decide +kernel
theorem dX10_takesBy_12 : decode cX10_takesBy 12 = .ok (.if_icmp .eq 9, 3) := by decide +kernel
theorem dX10_takesBy_15 : decode cX10_takesBy 15 = .ok (.iload 4, 2) := by decide +kernel
theorem dX10_takesBy_17 : decode cX10_takesBy 17 = .ok (.iconst 3, 1) := by decide +kernel
theorem dX10_takesBy_18 : decode cX10_takesBy 18 = .ok (.if_icmp .ne 5, 3) := by decide +kernel
theorem dX10_takesBy_21 : decode cX10_takesBy 21 = .ok (.iconst 1, 1) := by decide +kernel
theorem dX10_takesBy_22 : decode cX10_takesBy 22 = .ok (.ireturn, 1) := by decide +kernel
theorem dX10_takesBy_23 : decode cX10_takesBy 23 = .ok (.iload_n 3, 1) := by decide +kernel
theorem dX10_takesBy_24 : decode cX10_takesBy 24 = .ok (.iconst (-1), 1) := by decide +kernel
theorem dX10_takesBy_25 : decode cX10_takesBy 25 = .ok (.if_icmp .eq 8, 3) := by decide +kernel
theorem dX10_takesBy_28 : decode cX10_takesBy 28 = .ok (.iload 4, 2) := by decide +kernel
theorem dX10_takesBy_30 : decode cX10_takesBy 30 = .ok (.ifCond .ne 5, 3) := by decide +kernel
theorem dX10_takesBy_33 : decode cX10_takesBy 33 = .ok (.iconst 0, 1) := by decide +kernel
theorem dX10_takesBy_34 : decode cX10_takesBy 34 = .ok (.ireturn, 1) := by decide +kernel
theorem dX10_takesBy_35 : decode cX10_takesBy 35 = .ok (.iload 4, 2) := by decide +kernel
theorem dX10_takesBy_37 : decode cX10_takesBy 37 = .ok (.iconst 1, 1) := by decide +kernel
theorem dX10_takesBy_38 : decode cX10_takesBy 38 = .ok (.if_icmp .ne 34, 3) := by decide +kernel
theorem dX10_takesBy_41 : decode cX10_takesBy 41 = .ok (.aload_n 0, 1) := by decide +kernel
theorem dX10_takesBy_42 : decode cX10_takesBy 42 = .ok (.getfield 26, 3) := by decide +kernel
theorem dX10_takesBy_45 : decode cX10_takesBy 45 = .ok (.iconst 4, 1) := by decide +kernel
theorem dX10_takesBy_46 : decode cX10_takesBy 46 = .ok (.iload_n 2, 1) := by decide +kernel
theorem dX10_takesBy_47 : decode cX10_takesBy 47 = .ok (.imul, 1) := by decide +kernel
theorem dX10_takesBy_48 : decode cX10_takesBy 48 = .ok (.iconst 1, 1) := by decide +kernel
theorem dX10_takesBy_49 : decode cX10_takesBy 49 = .ok (.iadd, 1) := by decide +kernel
theorem dX10_takesBy_50 : decode cX10_takesBy 50 = .ok (.iaload, 1) := by decide +kernel
theorem dX10_takesBy_51 : decode cX10_takesBy 51 = .ok (.aload_n 0, 1) := by decide +kernel
theorem dX10_takesBy_52 : decode cX10_takesBy 52 = .ok (.getfield 26, 3) := by decide +kernel
theorem dX10_takesBy_55 : decode cX10_takesBy 55 = .ok (.iconst 4, 1) := by decide +kernel
theorem dX10_takesBy_56 : decode cX10_takesBy 56 = .ok (.iload_n 3, 1) := by decide +kernel
theorem dX10_takesBy_57 : decode cX10_takesBy 57 = .ok (.imul, 1) := by decide +kernel
theorem dX10_takesBy_58 : decode cX10_takesBy 58 = .ok (.iconst 1, 1) := by decide +kernel
theorem dX10_takesBy_59 : decode cX10_takesBy 59 = .ok (.iadd, 1) := by decide +kernel
theorem dX10_takesBy_60 : decode cX10_takesBy 60 = .ok (.iaload, 1) := by decide +kernel
theorem dX10_takesBy_61 : decode cX10_takesBy 61 = .ok (.if_icmp .ne 7, 3) := by decide +kernel
theorem dX10_takesBy_64 : decode cX10_takesBy 64 = .ok (.iconst 1, 1) := by decide +kernel
theorem dX10_takesBy_65 : decode cX10_takesBy 65 = .ok (.goto 31, 3) := by decide +kernel
theorem dX10_takesBy_68 : decode cX10_takesBy 68 = .ok (.iconst 0, 1) := by decide +kernel
theorem dX10_takesBy_69 : decode cX10_takesBy 69 = .ok (.goto 27, 3) := by decide +kernel
theorem dX10_takesBy_72 : decode cX10_takesBy 72 = .ok (.aload_n 0, 1) := by decide +kernel
theorem dX10_takesBy_73 : decode cX10_takesBy 73 = .ok (.getfield 26, 3) := by decide +kernel
theorem dX10_takesBy_76 : decode cX10_takesBy 76 = .ok (.iconst 4, 1) := by decide +kernel
theorem dX10_takesBy_77 : decode cX10_takesBy 77 = .ok (.iload_n 2, 1) := by decide +kernel
theorem dX10_takesBy_78 : decode cX10_takesBy 78 = .ok (.imul, 1) := by decide +kernel
theorem dX10_takesBy_79 : decode cX10_takesBy 79 = .ok (.iaload, 1) := by decide +kernel
theorem dX10_takesBy_80 : decode cX10_takesBy 80 = .ok (.aload_n 0, 1) := by decide +kernel
theorem dX10_takesBy_81 : decode cX10_takesBy 81 = .ok (.getfield 26, 3) := by decide +kernel
theorem dX10_takesBy_84 : decode cX10_takesBy 84 = .ok (.iconst 4, 1) := by decide +kernel
theorem dX10_takesBy_85 : decode cX10_takesBy 85 = .ok (.iload_n 3, 1) := by decide +kernel
theorem dX10_takesBy_86 : decode cX10_takesBy 86 = .ok (.imul, 1) := by decide +kernel
theorem dX10_takesBy_87 : decode cX10_takesBy 87 = .ok (.iaload, 1) := by decide +kernel
theorem dX10_takesBy_88 : decode cX10_takesBy 88 = .ok (.if_icmp .ne 7, 3) := by decide +kernel
theorem dX10_takesBy_91 : decode cX10_takesBy 91 = .ok (.iconst 1, 1) := by decide +kernel
theorem dX10_takesBy_92 : decode cX10_takesBy 92 = .ok (.goto 4, 3) := by decide +kernel
theorem dX10_takesBy_95 : decode cX10_takesBy 95 = .ok (.iconst 0, 1) := by decide +kernel
theorem dX10_takesBy_96 : decode cX10_takesBy 96 = .ok (.ireturn, 1) := by decide +kernel
theorem dX10_takes_0 : decode cX10_takes 0 = .ok (.aload_n 0, 1) := by decide +kernel
theorem dX10_takes_1 : decode cX10_takes 1 = .ok (.iload_n 1, 1) := by decide +kernel
theorem dX10_takes_2 : decode cX10_takes 2 = .ok (.iload_n 2, 1) := by decide +kernel
theorem dX10_takes_3 : decode cX10_takes 3 = .ok (.aload_n 0, 1) := by decide +kernel
theorem dX10_takes_4 : decode cX10_takes 4 = .ok (.getfield 29, 3) := by decide +kernel
theorem dX10_takes_7 : decode cX10_takes 7 = .ok (.iload_n 1, 1) := by decide +kernel
theorem dX10_takes_8 : decode cX10_takes 8 = .ok (.iaload, 1) := by decide +kernel
theorem dX10_takes_9 : decode cX10_takes 9 = .ok (.invokevirtual 170, 3) := by decide +kernel
theorem dX10_takes_12 : decode cX10_takes 12 = .ok (.ireturn, 1) := by decide +kernel
theorem dX10_isCalm_0 : decode cX10_isCalm 0 = .ok (.aload_n 0, 1) := by decide +kernel
theorem dX10_isCalm_1 : decode cX10_isCalm 1 = .ok (.getfield 32, 3) := by decide +kernel
theorem dX10_isCalm_4 : decode cX10_isCalm 4 = .ok (.iconst 1, 1) := by decide +kernel
theorem dX10_isCalm_5 : decode cX10_isCalm 5 = .ok (.iload_n 1, 1) := by decide +kernel
theorem dX10_isCalm_6 : decode cX10_isCalm 6 = .ok (.iadd, 1) := by decide +kernel
theorem dX10_isCalm_7 : decode cX10_isCalm 7 = .ok (.iaload, 1) := by decide +kernel
theorem dX10_isCalm_8 : decode cX10_isCalm 8 = .ok (.iconst (-1), 1) := by decide +kernel
theorem dX10_isCalm_9 : decode cX10_isCalm 9 = .ok (.if_icmp .eq 23, 3) := by decide +kernel
theorem dX10_isCalm_12 : decode cX10_isCalm 12 = .ok (.aload_n 0, 1) := by decide +kernel
theorem dX10_isCalm_13 : decode cX10_isCalm 13 = .ok (.iload_n 1, 1) := by decide +kernel
theorem dX10_isCalm_14 : decode cX10_isCalm 14 = .ok (.aload_n 0, 1) := by decide +kernel
theorem dX10_isCalm_15 : decode cX10_isCalm 15 = .ok (.getfield 32, 3) := by decide +kernel
theorem dX10_isCalm_18 : decode cX10_isCalm 18 = .ok (.iconst 1, 1) := by decide +kernel
theorem dX10_isCalm_19 : decode cX10_isCalm 19 = .ok (.iload_n 1, 1) := by decide +kernel
theorem dX10_isCalm_20 : decode cX10_isCalm 20 = .ok (.iadd, 1) := by decide +kernel
theorem dX10_isCalm_21 : decode cX10_isCalm 21 = .ok (.iaload, 1) := by decide +kernel
theorem dX10_isCalm_22 : decode cX10_isCalm 22 = .ok (.invokevirtual 173, 3) := by decide +kernel
theorem dX10_isCalm_25 : decode cX10_isCalm 25 = .ok (.ifCond .eq 7, 3) := by decide +kernel
theorem dX10_isCalm_28 : decode cX10_isCalm 28 = .ok (.iconst 1, 1) := by decide +kernel
theorem dX10_isCalm_29 : decode cX10_isCalm 29 = .ok (.goto 4, 3) := by decide +kernel
theorem dX10_isCalm_32 : decode cX10_isCalm 32 = .ok (.iconst 0, 1) := by decide +kernel
theorem dX10_isCalm_33 : decode cX10_isCalm 33 = .ok (.ireturn, 1) := by decide +kernel
theorem dX10_calmOnes_0 : decode cX10_calmOnes 0 = .ok (.iconst 0, 1) := by decide +kernel
theorem dX10_calmOnes_1 : decode cX10_calmOnes 1 = .ok (.istore_n 1, 1) := by decide +kernel
theorem dX10_calmOnes_2 : decode cX10_calmOnes 2 = .ok (.iconst 0, 1) := by decide +kernel
theorem dX10_calmOnes_3 : decode cX10_calmOnes 3 = .ok (.istore_n 2, 1) := by decide +kernel
theorem dX10_calmOnes_4 : decode cX10_calmOnes 4 = .ok (.iload_n 2, 1) := by decide +kernel
theorem dX10_calmOnes_5 : decode cX10_calmOnes 5 = .ok (.aload_n 0, 1) := by decide +kernel
theorem dX10_calmOnes_6 : decode cX10_calmOnes 6 = .ok (.getfield 66, 3) := by decide +kernel
theorem dX10_calmOnes_9 : decode cX10_calmOnes 9 = .ok (.if_icmp .ge 27, 3) := by decide +kernel
theorem dX10_calmOnes_12 : decode cX10_calmOnes 12 = .ok (.iload_n 1, 1) := by decide +kernel
theorem dX10_calmOnes_13 : decode cX10_calmOnes 13 = .ok (.aload_n 0, 1) := by decide +kernel
theorem dX10_calmOnes_14 : decode cX10_calmOnes 14 = .ok (.iload_n 2, 1) := by decide +kernel
theorem dX10_calmOnes_15 : decode cX10_calmOnes 15 = .ok (.invokevirtual 176, 3) := by decide +kernel
theorem dX10_calmOnes_18 : decode cX10_calmOnes 18 = .ok (.ifCond .eq 9, 3) := by decide +kernel
theorem dX10_calmOnes_21 : decode cX10_calmOnes 21 = .ok (.iconst 1, 1) := by decide +kernel
theorem dX10_calmOnes_22 : decode cX10_calmOnes 22 = .ok (.iload_n 2, 1) := by decide +kernel
theorem dX10_calmOnes_23 : decode cX10_calmOnes 23 = .ok (.ishl, 1) := by decide +kernel
theorem dX10_calmOnes_24 : decode cX10_calmOnes 24 = .ok (.goto 4, 3) := by decide +kernel
theorem dX10_calmOnes_27 : decode cX10_calmOnes 27 = .ok (.iconst 0, 1) := by decide +kernel
theorem dX10_calmOnes_28 : decode cX10_calmOnes 28 = .ok (.ior, 1) := by decide +kernel
theorem dX10_calmOnes_29 : decode cX10_calmOnes 29 = .ok (.istore_n 1, 1) := by decide +kernel
theorem dX10_calmOnes_30 : decode cX10_calmOnes 30 = .ok (.iinc 2 1, 3) := by decide +kernel
theorem dX10_calmOnes_33 : decode cX10_calmOnes 33 = .ok (.goto (-29), 3) := by decide +kernel
theorem dX10_calmOnes_36 : decode cX10_calmOnes 36 = .ok (.iload_n 1, 1) := by decide +kernel
theorem dX10_calmOnes_37 : decode cX10_calmOnes 37 = .ok (.ireturn, 1) := by decide +kernel
theorem dX10_coldOnes_0 : decode cX10_coldOnes 0 = .ok (.iconst 0, 1) := by decide +kernel
theorem dX10_coldOnes_1 : decode cX10_coldOnes 1 = .ok (.istore_n 1, 1) := by decide +kernel
theorem dX10_coldOnes_2 : decode cX10_coldOnes 2 = .ok (.iconst 0, 1) := by decide +kernel
theorem dX10_coldOnes_3 : decode cX10_coldOnes 3 = .ok (.istore_n 2, 1) := by decide +kernel
theorem dX10_coldOnes_4 : decode cX10_coldOnes 4 = .ok (.iload_n 2, 1) := by decide +kernel
theorem dX10_coldOnes_5 : decode cX10_coldOnes 5 = .ok (.aload_n 0, 1) := by decide +kernel
theorem dX10_coldOnes_6 : decode cX10_coldOnes 6 = .ok (.getfield 66, 3) := by decide +kernel
theorem dX10_coldOnes_9 : decode cX10_coldOnes 9 = .ok (.if_icmp .ge 31, 3) := by decide +kernel
theorem dX10_coldOnes_12 : decode cX10_coldOnes 12 = .ok (.iload_n 1, 1) := by decide +kernel
theorem dX10_coldOnes_13 : decode cX10_coldOnes 13 = .ok (.aload_n 0, 1) := by decide +kernel
theorem dX10_coldOnes_14 : decode cX10_coldOnes 14 = .ok (.getfield 32, 3) := by decide +kernel
theorem dX10_coldOnes_17 : decode cX10_coldOnes 17 = .ok (.bipush 7, 2) := by decide +kernel
theorem dX10_coldOnes_19 : decode cX10_coldOnes 19 = .ok (.iload_n 2, 1) := by decide +kernel
theorem dX10_coldOnes_20 : decode cX10_coldOnes 20 = .ok (.iadd, 1) := by decide +kernel
theorem dX10_coldOnes_21 : decode cX10_coldOnes 21 = .ok (.iaload, 1) := by decide +kernel
theorem dX10_coldOnes_22 : decode cX10_coldOnes 22 = .ok (.ifCond .le 9, 3) := by decide +kernel
theorem dX10_coldOnes_25 : decode cX10_coldOnes 25 = .ok (.iconst 1, 1) := by decide +kernel
theorem dX10_coldOnes_26 : decode cX10_coldOnes 26 = .ok (.iload_n 2, 1) := by decide +kernel
theorem dX10_coldOnes_27 : decode cX10_coldOnes 27 = .ok (.ishl, 1) := by decide +kernel
theorem dX10_coldOnes_28 : decode cX10_coldOnes 28 = .ok (.goto 4, 3) := by decide +kernel
theorem dX10_coldOnes_31 : decode cX10_coldOnes 31 = .ok (.iconst 0, 1) := by decide +kernel
theorem dX10_coldOnes_32 : decode cX10_coldOnes 32 = .ok (.ior, 1) := by decide +kernel
theorem dX10_coldOnes_33 : decode cX10_coldOnes 33 = .ok (.istore_n 1, 1) := by decide +kernel
theorem dX10_coldOnes_34 : decode cX10_coldOnes 34 = .ok (.iinc 2 1, 3) := by decide +kernel
theorem dX10_coldOnes_37 : decode cX10_coldOnes 37 = .ok (.goto (-33), 3) := by decide +kernel
theorem dX10_coldOnes_40 : decode cX10_coldOnes 40 = .ok (.iload_n 1, 1) := by decide +kernel
theorem dX10_coldOnes_41 : decode cX10_coldOnes 41 = .ok (.ireturn, 1) := by decide +kernel
theorem dX10_holderOf_0 : decode cX10_holderOf 0 = .ok (.iconst (-1), 1) := by decide +kernel
theorem dX10_holderOf_1 : decode cX10_holderOf 1 = .ok (.istore_n 2, 1) := by decide +kernel
theorem dX10_holderOf_2 : decode cX10_holderOf 2 = .ok (.iconst 0, 1) := by decide +kernel
theorem dX10_holderOf_3 : decode cX10_holderOf 3 = .ok (.istore_n 3, 1) := by decide +kernel
theorem dX10_holderOf_4 : decode cX10_holderOf 4 = .ok (.iload_n 3, 1) := by decide +kernel
theorem dX10_holderOf_5 : decode cX10_holderOf 5 = .ok (.aload_n 0, 1) := by decide +kernel
theorem dX10_holderOf_6 : decode cX10_holderOf 6 = .ok (.getfield 66, 3) := by decide +kernel
theorem dX10_holderOf_9 : decode cX10_holderOf 9 = .ok (.if_icmp .ge 27, 3) := by decide +kernel
theorem dX10_holderOf_12 : decode cX10_holderOf 12 = .ok (.aload_n 0, 1) := by decide +kernel
theorem dX10_holderOf_13 : decode cX10_holderOf 13 = .ok (.getfield 32, 3) := by decide +kernel
theorem dX10_holderOf_16 : decode cX10_holderOf 16 = .ok (.iconst 1, 1) := by decide +kernel
theorem dX10_holderOf_17 : decode cX10_holderOf 17 = .ok (.iload_n 3, 1) := by decide +kernel
theorem dX10_holderOf_18 : decode cX10_holderOf 18 = .ok (.iadd, 1) := by decide +kernel
theorem dX10_holderOf_19 : decode cX10_holderOf 19 = .ok (.iaload, 1) := by decide +kernel
theorem dX10_holderOf_20 : decode cX10_holderOf 20 = .ok (.iload_n 1, 1) := by decide +kernel
theorem dX10_holderOf_21 : decode cX10_holderOf 21 = .ok (.if_icmp .ne 7, 3) := by decide +kernel
theorem dX10_holderOf_24 : decode cX10_holderOf 24 = .ok (.iload_n 3, 1) := by decide +kernel
theorem dX10_holderOf_25 : decode cX10_holderOf 25 = .ok (.goto 4, 3) := by decide +kernel
theorem dX10_holderOf_28 : decode cX10_holderOf 28 = .ok (.iload_n 2, 1) := by decide +kernel
theorem dX10_holderOf_29 : decode cX10_holderOf 29 = .ok (.istore_n 2, 1) := by decide +kernel
theorem dX10_holderOf_30 : decode cX10_holderOf 30 = .ok (.iinc 3 1, 3) := by decide +kernel
theorem dX10_holderOf_33 : decode cX10_holderOf 33 = .ok (.goto (-29), 3) := by decide +kernel
theorem dX10_holderOf_36 : decode cX10_holderOf 36 = .ok (.iload_n 2, 1) := by decide +kernel
theorem dX10_holderOf_37 : decode cX10_holderOf 37 = .ok (.ireturn, 1) := by decide +kernel
theorem dX10_readOnes_0 : decode cX10_readOnes 0 = .ok (.iconst 0, 1) := by decide +kernel
theorem dX10_readOnes_1 : decode cX10_readOnes 1 = .ok (.istore_n 1, 1) := by decide +kernel
theorem dX10_readOnes_2 : decode cX10_readOnes 2 = .ok (.iconst 0, 1) := by decide +kernel
theorem dX10_readOnes_3 : decode cX10_readOnes 3 = .ok (.istore_n 2, 1) := by decide +kernel
theorem dX10_readOnes_4 : decode cX10_readOnes 4 = .ok (.iload_n 2, 1) := by decide +kernel
theorem dX10_readOnes_5 : decode cX10_readOnes 5 = .ok (.aload_n 0, 1) := by decide +kernel
theorem dX10_readOnes_6 : decode cX10_readOnes 6 = .ok (.getfield 73, 3) := by decide +kernel
theorem dX10_readOnes_9 : decode cX10_readOnes 9 = .ok (.if_icmp .ge 41, 3) := by decide +kernel
theorem dX10_readOnes_12 : decode cX10_readOnes 12 = .ok (.iload_n 1, 1) := by decide +kernel
theorem dX10_readOnes_13 : decode cX10_readOnes 13 = .ok (.aload_n 0, 1) := by decide +kernel
theorem dX10_readOnes_14 : decode cX10_readOnes 14 = .ok (.getfield 32, 3) := by decide +kernel
theorem dX10_readOnes_17 : decode cX10_readOnes 17 = .ok (.bipush 20, 2) := by decide +kernel
theorem dX10_readOnes_19 : decode cX10_readOnes 19 = .ok (.iload_n 2, 1) := by decide +kernel
theorem dX10_readOnes_20 : decode cX10_readOnes 20 = .ok (.iadd, 1) := by decide +kernel
theorem dX10_readOnes_21 : decode cX10_readOnes 21 = .ok (.iaload, 1) := by decide +kernel
theorem dX10_readOnes_22 : decode cX10_readOnes 22 = .ok (.aload_n 0, 1) := by decide +kernel
theorem dX10_readOnes_23 : decode cX10_readOnes 23 = .ok (.getfield 26, 3) := by decide +kernel
theorem dX10_readOnes_26 : decode cX10_readOnes 26 = .ok (.iconst 4, 1) := by decide +kernel
theorem dX10_readOnes_27 : decode cX10_readOnes 27 = .ok (.iload_n 2, 1) := by decide +kernel
theorem dX10_readOnes_28 : decode cX10_readOnes 28 = .ok (.imul, 1) := by decide +kernel
theorem dX10_readOnes_29 : decode cX10_readOnes 29 = .ok (.iconst 2, 1) := by decide +kernel
theorem dX10_readOnes_30 : decode cX10_readOnes 30 = .ok (.iadd, 1) := by decide +kernel
theorem dX10_readOnes_31 : decode cX10_readOnes 31 = .ok (.iaload, 1) := by decide +kernel
theorem dX10_readOnes_32 : decode cX10_readOnes 32 = .ok (.if_icmp .ge 9, 3) := by decide +kernel
theorem dX10_readOnes_35 : decode cX10_readOnes 35 = .ok (.iconst 1, 1) := by decide +kernel
theorem dX10_readOnes_36 : decode cX10_readOnes 36 = .ok (.iload_n 2, 1) := by decide +kernel
theorem dX10_readOnes_37 : decode cX10_readOnes 37 = .ok (.ishl, 1) := by decide +kernel
theorem dX10_readOnes_38 : decode cX10_readOnes 38 = .ok (.goto 4, 3) := by decide +kernel
theorem dX10_readOnes_41 : decode cX10_readOnes 41 = .ok (.iconst 0, 1) := by decide +kernel
theorem dX10_readOnes_42 : decode cX10_readOnes 42 = .ok (.ior, 1) := by decide +kernel
theorem dX10_readOnes_43 : decode cX10_readOnes 43 = .ok (.istore_n 1, 1) := by decide +kernel
theorem dX10_readOnes_44 : decode cX10_readOnes 44 = .ok (.iinc 2 1, 3) := by decide +kernel
theorem dX10_readOnes_47 : decode cX10_readOnes 47 = .ok (.goto (-43), 3) := by decide +kernel
theorem dX10_readOnes_50 : decode cX10_readOnes 50 = .ok (.iload_n 1, 1) := by decide +kernel
theorem dX10_readOnes_51 : decode cX10_readOnes 51 = .ok (.ireturn, 1) := by decide +kernel
theorem dX10_told_0 : decode cX10_told 0 = .ok (.iload_n 1, 1) := by decide +kernel
theorem dX10_told_1 : decode cX10_told 1 = .ok (.tableswitch 137 0 12 #[67, 72, 77, 82, 87, 92, 99, 104, 109, 117, 122, 127, 132], 67) := by decide +kernel
theorem dX10_told_68 : decode cX10_told 68 = .ok (.aload_n 0, 1) := by decide +kernel
theorem dX10_told_69 : decode cX10_told 69 = .ok (.getfield 151, 3) := by decide +kernel
theorem dX10_told_72 : decode cX10_told 72 = .ok (.ireturn, 1) := by decide +kernel
theorem dX10_told_73 : decode cX10_told 73 = .ok (.aload_n 0, 1) := by decide +kernel
theorem dX10_told_74 : decode cX10_told 74 = .ok (.getfield 154, 3) := by decide +kernel
theorem dX10_told_77 : decode cX10_told 77 = .ok (.ireturn, 1) := by decide +kernel
theorem dX10_told_78 : decode cX10_told 78 = .ok (.aload_n 0, 1) := by decide +kernel
theorem dX10_told_79 : decode cX10_told 79 = .ok (.getfield 66, 3) := by decide +kernel
theorem dX10_told_82 : decode cX10_told 82 = .ok (.ireturn, 1) := by decide +kernel
theorem dX10_told_83 : decode cX10_told 83 = .ok (.aload_n 0, 1) := by decide +kernel
theorem dX10_told_84 : decode cX10_told 84 = .ok (.getfield 73, 3) := by decide +kernel
theorem dX10_told_87 : decode cX10_told 87 = .ok (.ireturn, 1) := by decide +kernel
theorem dX10_told_88 : decode cX10_told 88 = .ok (.aload_n 0, 1) := by decide +kernel
theorem dX10_told_89 : decode cX10_told 89 = .ok (.getfield 77, 3) := by decide +kernel
theorem dX10_told_92 : decode cX10_told 92 = .ok (.ireturn, 1) := by decide +kernel
theorem dX10_told_93 : decode cX10_told 93 = .ok (.aload_n 0, 1) := by decide +kernel
theorem dX10_told_94 : decode cX10_told 94 = .ok (.getfield 32, 3) := by decide +kernel
theorem dX10_told_97 : decode cX10_told 97 = .ok (.iconst 0, 1) := by decide +kernel
theorem dX10_told_98 : decode cX10_told 98 = .ok (.iaload, 1) := by decide +kernel
theorem dX10_told_99 : decode cX10_told 99 = .ok (.ireturn, 1) := by decide +kernel
theorem dX10_told_100 : decode cX10_told 100 = .ok (.aload_n 0, 1) := by decide +kernel
theorem dX10_told_101 : decode cX10_told 101 = .ok (.invokevirtual 179, 3) := by decide +kernel
theorem dX10_told_104 : decode cX10_told 104 = .ok (.ireturn, 1) := by decide +kernel
theorem dX10_told_105 : decode cX10_told 105 = .ok (.aload_n 0, 1) := by decide +kernel
theorem dX10_told_106 : decode cX10_told 106 = .ok (.invokevirtual 183, 3) := by decide +kernel
theorem dX10_told_109 : decode cX10_told 109 = .ok (.ireturn, 1) := by decide +kernel
theorem dX10_told_110 : decode cX10_told 110 = .ok (.aload_n 0, 1) := by decide +kernel
theorem dX10_told_111 : decode cX10_told 111 = .ok (.getfield 32, 3) := by decide +kernel
theorem dX10_told_114 : decode cX10_told 114 = .ok (.bipush 19, 2) := by decide +kernel
theorem dX10_told_116 : decode cX10_told 116 = .ok (.iaload, 1) := by decide +kernel
theorem dX10_told_117 : decode cX10_told 117 = .ok (.ireturn, 1) := by decide +kernel
theorem dX10_told_118 : decode cX10_told 118 = .ok (.aload_n 0, 1) := by decide +kernel
theorem dX10_told_119 : decode cX10_told 119 = .ok (.invokevirtual 186, 3) := by decide +kernel
theorem dX10_told_122 : decode cX10_told 122 = .ok (.ireturn, 1) := by decide +kernel
theorem dX10_told_123 : decode cX10_told 123 = .ok (.aload_n 0, 1) := by decide +kernel
theorem dX10_told_124 : decode cX10_told 124 = .ok (.getfield 161, 3) := by decide +kernel
theorem dX10_told_127 : decode cX10_told 127 = .ok (.ireturn, 1) := by decide +kernel
theorem dX10_told_128 : decode cX10_told 128 = .ok (.aload_n 0, 1) := by decide +kernel
theorem dX10_told_129 : decode cX10_told 129 = .ok (.getfield 164, 3) := by decide +kernel
theorem dX10_told_132 : decode cX10_told 132 = .ok (.ireturn, 1) := by decide +kernel
theorem dX10_told_133 : decode cX10_told 133 = .ok (.aload_n 0, 1) := by decide +kernel
theorem dX10_told_134 : decode cX10_told 134 = .ok (.getfield 167, 3) := by decide +kernel
theorem dX10_told_137 : decode cX10_told 137 = .ok (.ireturn, 1) := by decide +kernel
theorem dX10_told_138 : decode cX10_told 138 = .ok (.ldc 76, 2) := by decide +kernel
theorem dX10_told_140 : decode cX10_told 140 = .ok (.ireturn, 1) := by decide +kernel
theorem dX10_child_0 : decode cX10_child 0 = .ok (.aload_n 0, 1) := by decide +kernel
theorem dX10_child_1 : decode cX10_child 1 = .ok (.iload_n 1, 1) := by decide +kernel
theorem dX10_child_2 : decode cX10_child 2 = .ok (.invokevirtual 189, 3) := by decide +kernel
theorem dX10_child_5 : decode cX10_child 5 = .ok (.ifCond .ne 6, 3) := by decide +kernel
theorem dX10_child_8 : decode cX10_child 8 = .ok (.ldc 192, 2) := by decide +kernel
theorem dX10_child_10 : decode cX10_child 10 = .ok (.ireturn, 1) := by decide +kernel
theorem dX10_child_11 : decode cX10_child 11 = .ok (.iload_n 2, 1) := by decide +kernel
theorem dX10_child_12 : decode cX10_child 12 = .ok (.tableswitch 96 0 5 #[40, 49, 60, 69, 76, 86], 40) := by decide +kernel
theorem dX10_child_52 : decode cX10_child 52 = .ok (.aload_n 0, 1) := by decide +kernel
theorem dX10_child_53 : decode cX10_child 53 = .ok (.getfield 23, 3) := by decide +kernel
theorem dX10_child_56 : decode cX10_child 56 = .ok (.iconst 2, 1) := by decide +kernel
theorem dX10_child_57 : decode cX10_child 57 = .ok (.iload_n 1, 1) := by decide +kernel
theorem dX10_child_58 : decode cX10_child 58 = .ok (.imul, 1) := by decide +kernel
theorem dX10_child_59 : decode cX10_child 59 = .ok (.iaload, 1) := by decide +kernel
theorem dX10_child_60 : decode cX10_child 60 = .ok (.ireturn, 1) := by decide +kernel
theorem dX10_child_61 : decode cX10_child 61 = .ok (.aload_n 0, 1) := by decide +kernel
theorem dX10_child_62 : decode cX10_child 62 = .ok (.getfield 23, 3) := by decide +kernel
theorem dX10_child_65 : decode cX10_child 65 = .ok (.iconst 2, 1) := by decide +kernel
theorem dX10_child_66 : decode cX10_child 66 = .ok (.iload_n 1, 1) := by decide +kernel
theorem dX10_child_67 : decode cX10_child 67 = .ok (.imul, 1) := by decide +kernel
theorem dX10_child_68 : decode cX10_child 68 = .ok (.iconst 1, 1) := by decide +kernel
theorem dX10_child_69 : decode cX10_child 69 = .ok (.iadd, 1) := by decide +kernel
theorem dX10_child_70 : decode cX10_child 70 = .ok (.iaload, 1) := by decide +kernel
theorem dX10_child_71 : decode cX10_child 71 = .ok (.ireturn, 1) := by decide +kernel
theorem dX10_child_72 : decode cX10_child 72 = .ok (.aload_n 0, 1) := by decide +kernel
theorem dX10_child_73 : decode cX10_child 73 = .ok (.getfield 32, 3) := by decide +kernel
theorem dX10_child_76 : decode cX10_child 76 = .ok (.iconst 1, 1) := by decide +kernel
theorem dX10_child_77 : decode cX10_child 77 = .ok (.iload_n 1, 1) := by decide +kernel
theorem dX10_child_78 : decode cX10_child 78 = .ok (.iadd, 1) := by decide +kernel
theorem dX10_child_79 : decode cX10_child 79 = .ok (.iaload, 1) := by decide +kernel
theorem dX10_child_80 : decode cX10_child 80 = .ok (.ireturn, 1) := by decide +kernel
theorem dX10_child_81 : decode cX10_child 81 = .ok (.aload_n 0, 1) := by decide +kernel
theorem dX10_child_82 : decode cX10_child 82 = .ok (.getfield 29, 3) := by decide +kernel
theorem dX10_child_85 : decode cX10_child 85 = .ok (.iload_n 1, 1) := by decide +kernel
theorem dX10_child_86 : decode cX10_child 86 = .ok (.iaload, 1) := by decide +kernel
theorem dX10_child_87 : decode cX10_child 87 = .ok (.ireturn, 1) := by decide +kernel
theorem dX10_child_88 : decode cX10_child 88 = .ok (.aload_n 0, 1) := by decide +kernel
theorem dX10_child_89 : decode cX10_child 89 = .ok (.getfield 32, 3) := by decide +kernel
theorem dX10_child_92 : decode cX10_child 92 = .ok (.bipush 7, 2) := by decide +kernel
theorem dX10_child_94 : decode cX10_child 94 = .ok (.iload_n 1, 1) := by decide +kernel
theorem dX10_child_95 : decode cX10_child 95 = .ok (.iadd, 1) := by decide +kernel
theorem dX10_child_96 : decode cX10_child 96 = .ok (.iaload, 1) := by decide +kernel
theorem dX10_child_97 : decode cX10_child 97 = .ok (.ireturn, 1) := by decide +kernel
theorem dX10_child_98 : decode cX10_child 98 = .ok (.aload_n 0, 1) := by decide +kernel
theorem dX10_child_99 : decode cX10_child 99 = .ok (.getfield 32, 3) := by decide +kernel
theorem dX10_child_102 : decode cX10_child 102 = .ok (.bipush 13, 2) := by decide +kernel
theorem dX10_child_104 : decode cX10_child 104 = .ok (.iload_n 1, 1) := by decide +kernel
theorem dX10_child_105 : decode cX10_child 105 = .ok (.iadd, 1) := by decide +kernel
theorem dX10_child_106 : decode cX10_child 106 = .ok (.iaload, 1) := by decide +kernel
theorem dX10_child_107 : decode cX10_child 107 = .ok (.ireturn, 1) := by decide +kernel
theorem dX10_child_108 : decode cX10_child 108 = .ok (.ldc 76, 2) := by decide +kernel
theorem dX10_child_110 : decode cX10_child 110 = .ok (.ireturn, 1) := by decide +kernel
theorem dX10_dummy_0 : decode cX10_dummy 0 = .ok (.aload_n 0, 1) := by decide +kernel
theorem dX10_dummy_1 : decode cX10_dummy 1 = .ok (.iload_n 1, 1) := by decide +kernel
theorem dX10_dummy_2 : decode cX10_dummy 2 = .ok (.invokevirtual 193, 3) := by decide +kernel
theorem dX10_dummy_5 : decode cX10_dummy 5 = .ok (.ifCond .ne 6, 3) := by decide +kernel
theorem dX10_dummy_8 : decode cX10_dummy 8 = .ok (.ldc 192, 2) := by decide +kernel
theorem dX10_dummy_10 : decode cX10_dummy 10 = .ok (.ireturn, 1) := by decide +kernel
theorem dX10_dummy_11 : decode cX10_dummy 11 = .ok (.iload_n 2, 1) := by decide +kernel
theorem dX10_dummy_12 : decode cX10_dummy 12 = .ok (.tableswitch 118 0 7 #[48, 48, 48, 48, 59, 65, 75, 85], 48) := by decide +kernel
theorem dX10_dummy_60 : decode cX10_dummy 60 = .ok (.aload_n 0, 1) := by decide +kernel
theorem dX10_dummy_61 : decode cX10_dummy 61 = .ok (.getfield 26, 3) := by decide +kernel
theorem dX10_dummy_64 : decode cX10_dummy 64 = .ok (.iconst 4, 1) := by decide +kernel
theorem dX10_dummy_65 : decode cX10_dummy 65 = .ok (.iload_n 1, 1) := by decide +kernel
theorem dX10_dummy_66 : decode cX10_dummy 66 = .ok (.imul, 1) := by decide +kernel
theorem dX10_dummy_67 : decode cX10_dummy 67 = .ok (.iload_n 2, 1) := by decide +kernel
theorem dX10_dummy_68 : decode cX10_dummy 68 = .ok (.iadd, 1) := by decide +kernel
theorem dX10_dummy_69 : decode cX10_dummy 69 = .ok (.iaload, 1) := by decide +kernel
theorem dX10_dummy_70 : decode cX10_dummy 70 = .ok (.ireturn, 1) := by decide +kernel
theorem dX10_dummy_71 : decode cX10_dummy 71 = .ok (.aload_n 0, 1) := by decide +kernel
theorem dX10_dummy_72 : decode cX10_dummy 72 = .ok (.iload_n 1, 1) := by decide +kernel
theorem dX10_dummy_73 : decode cX10_dummy 73 = .ok (.invokevirtual 196, 3) := by decide +kernel
theorem dX10_dummy_76 : decode cX10_dummy 76 = .ok (.ireturn, 1) := by decide +kernel
theorem dX10_dummy_77 : decode cX10_dummy 77 = .ok (.aload_n 0, 1) := by decide +kernel
theorem dX10_dummy_78 : decode cX10_dummy 78 = .ok (.getfield 32, 3) := by decide +kernel
theorem dX10_dummy_81 : decode cX10_dummy 81 = .ok (.bipush 20, 2) := by decide +kernel
theorem dX10_dummy_83 : decode cX10_dummy 83 = .ok (.iload_n 1, 1) := by decide +kernel
theorem dX10_dummy_84 : decode cX10_dummy 84 = .ok (.iadd, 1) := by decide +kernel
theorem dX10_dummy_85 : decode cX10_dummy 85 = .ok (.iaload, 1) := by decide +kernel
theorem dX10_dummy_86 : decode cX10_dummy 86 = .ok (.ireturn, 1) := by decide +kernel
theorem dX10_dummy_87 : decode cX10_dummy 87 = .ok (.aload_n 0, 1) := by decide +kernel
theorem dX10_dummy_88 : decode cX10_dummy 88 = .ok (.getfield 32, 3) := by decide +kernel
theorem dX10_dummy_91 : decode cX10_dummy 91 = .ok (.bipush 26, 2) := by decide +kernel
theorem dX10_dummy_93 : decode cX10_dummy 93 = .ok (.iload_n 1, 1) := by decide +kernel
theorem dX10_dummy_94 : decode cX10_dummy 94 = .ok (.iadd, 1) := by decide +kernel
theorem dX10_dummy_95 : decode cX10_dummy 95 = .ok (.iaload, 1) := by decide +kernel
theorem dX10_dummy_96 : decode cX10_dummy 96 = .ok (.ireturn, 1) := by decide +kernel
theorem dX10_dummy_97 : decode cX10_dummy 97 = .ok (.aload_n 0, 1) := by decide +kernel
theorem dX10_dummy_98 : decode cX10_dummy 98 = .ok (.getfield 32, 3) := by decide +kernel
theorem dX10_dummy_101 : decode cX10_dummy 101 = .ok (.bipush 19, 2) := by decide +kernel
theorem dX10_dummy_103 : decode cX10_dummy 103 = .ok (.iaload, 1) := by decide +kernel
theorem dX10_dummy_104 : decode cX10_dummy 104 = .ok (.iload_n 1, 1) := by decide +kernel
theorem dX10_dummy_105 : decode cX10_dummy 105 = .ok (.invokestatic 200, 3) := by decide +kernel
theorem dX10_dummy_108 : decode cX10_dummy 108 = .ok (.ifCond .eq 7, 3) := by decide +kernel
theorem dX10_dummy_111 : decode cX10_dummy 111 = .ok (.iconst 1, 1) := by decide +kernel
theorem dX10_dummy_112 : decode cX10_dummy 112 = .ok (.goto 17, 3) := by decide +kernel
theorem dX10_dummy_115 : decode cX10_dummy 115 = .ok (.aload_n 0, 1) := by decide +kernel
theorem dX10_dummy_116 : decode cX10_dummy 116 = .ok (.iload_n 1, 1) := by decide +kernel
theorem dX10_dummy_117 : decode cX10_dummy 117 = .ok (.invokevirtual 196, 3) := by decide +kernel
theorem dX10_dummy_120 : decode cX10_dummy 120 = .ok (.iconst (-1), 1) := by decide +kernel
theorem dX10_dummy_121 : decode cX10_dummy 121 = .ok (.if_icmp .eq 7, 3) := by decide +kernel
theorem dX10_dummy_124 : decode cX10_dummy 124 = .ok (.iconst 2, 1) := by decide +kernel
theorem dX10_dummy_125 : decode cX10_dummy 125 = .ok (.goto 4, 3) := by decide +kernel
theorem dX10_dummy_128 : decode cX10_dummy 128 = .ok (.iconst 0, 1) := by decide +kernel
theorem dX10_dummy_129 : decode cX10_dummy 129 = .ok (.ireturn, 1) := by decide +kernel
theorem dX10_dummy_130 : decode cX10_dummy 130 = .ok (.ldc 76, 2) := by decide +kernel
theorem dX10_dummy_132 : decode cX10_dummy 132 = .ok (.ireturn, 1) := by decide +kernel
theorem dX10_note_0 : decode cX10_note 0 = .ok (.aload_n 0, 1) := by decide +kernel
theorem dX10_note_1 : decode cX10_note 1 = .ok (.getfield 167, 3) := by decide +kernel
theorem dX10_note_4 : decode cX10_note 4 = .ok (.bipush 20, 2) := by decide +kernel
theorem dX10_note_6 : decode cX10_note 6 = .ok (.if_icmp .ne 30, 3) := by decide +kernel
theorem dX10_note_9 : decode cX10_note 9 = .ok (.aload_n 0, 1) := by decide +kernel
theorem dX10_note_10 : decode cX10_note 10 = .ok (.getfield 35, 3) := by decide +kernel
theorem dX10_note_13 : decode cX10_note 13 = .ok (.bipush 32, 2) := by decide +kernel
theorem dX10_note_15 : decode cX10_note 15 = .ok (.aload_n 0, 1) := by decide +kernel
theorem dX10_note_16 : decode cX10_note 16 = .ok (.getfield 35, 3) := by decide +kernel
theorem dX10_note_19 : decode cX10_note 19 = .ok (.iconst 0, 1) := by decide +kernel
theorem dX10_note_20 : decode cX10_note 20 = .ok (.sipush 608, 3) := by decide +kernel
theorem dX10_note_23 : decode cX10_note 23 = .ok (.invokestatic 157, 3) := by decide +kernel
theorem dX10_note_26 : decode cX10_note 26 = .ok (.aload_n 0, 1) := by decide +kernel
theorem dX10_note_27 : decode cX10_note 27 = .ok (.dup, 1) := by decide +kernel
theorem dX10_note_28 : decode cX10_note 28 = .ok (.getfield 167, 3) := by decide +kernel
theorem dX10_note_31 : decode cX10_note 31 = .ok (.iconst 1, 1) := by decide +kernel
theorem dX10_note_32 : decode cX10_note 32 = .ok (.isub, 1) := by decide +kernel
theorem dX10_note_33 : decode cX10_note 33 = .ok (.putfield 167, 3) := by decide +kernel
theorem dX10_note_36 : decode cX10_note 36 = .ok (.aload_n 0, 1) := by decide +kernel
theorem dX10_note_37 : decode cX10_note 37 = .ok (.getfield 32, 3) := by decide +kernel
theorem dX10_note_40 : decode cX10_note 40 = .ok (.iconst 0, 1) := by decide +kernel
theorem dX10_note_41 : decode cX10_note 41 = .ok (.aload_n 0, 1) := by decide +kernel
theorem dX10_note_42 : decode cX10_note 42 = .ok (.getfield 35, 3) := by decide +kernel
theorem dX10_note_45 : decode cX10_note 45 = .ok (.bipush 32, 2) := by decide +kernel
theorem dX10_note_47 : decode cX10_note 47 = .ok (.aload_n 0, 1) := by decide +kernel
theorem dX10_note_48 : decode cX10_note 48 = .ok (.getfield 167, 3) := by decide +kernel
theorem dX10_note_51 : decode cX10_note 51 = .ok (.imul, 1) := by decide +kernel
theorem dX10_note_52 : decode cX10_note 52 = .ok (.bipush 32, 2) := by decide +kernel
theorem dX10_note_54 : decode cX10_note 54 = .ok (.invokestatic 157, 3) := by decide +kernel
theorem dX10_note_57 : decode cX10_note 57 = .ok (.aload_n 0, 1) := by decide +kernel
theorem dX10_note_58 : decode cX10_note 58 = .ok (.dup, 1) := by decide +kernel
theorem dX10_note_59 : decode cX10_note 59 = .ok (.getfield 167, 3) := by decide +kernel
theorem dX10_note_62 : decode cX10_note 62 = .ok (.iconst 1, 1) := by decide +kernel
theorem dX10_note_63 : decode cX10_note 63 = .ok (.iadd, 1) := by decide +kernel
theorem dX10_note_64 : decode cX10_note 64 = .ok (.putfield 167, 3) := by decide +kernel
theorem dX10_note_67 : decode cX10_note 67 = .ok (.return_, 1) := by decide +kernel
theorem dX10_goBy_0 : decode cX10_goBy 0 = .ok (.aload_n 0, 1) := by decide +kernel
theorem dX10_goBy_1 : decode cX10_goBy 1 = .ok (.invokevirtual 179, 3) := by decide +kernel
theorem dX10_goBy_4 : decode cX10_goBy 4 = .ok (.istore_n 1, 1) := by decide +kernel
theorem dX10_goBy_5 : decode cX10_goBy 5 = .ok (.iconst 0, 1) := by decide +kernel
theorem dX10_goBy_6 : decode cX10_goBy 6 = .ok (.istore_n 2, 1) := by decide +kernel
theorem dX10_goBy_7 : decode cX10_goBy 7 = .ok (.iload_n 2, 1) := by decide +kernel
theorem dX10_goBy_8 : decode cX10_goBy 8 = .ok (.aload_n 0, 1) := by decide +kernel
theorem dX10_goBy_9 : decode cX10_goBy 9 = .ok (.getfield 66, 3) := by decide +kernel
theorem dX10_goBy_12 : decode cX10_goBy 12 = .ok (.if_icmp .ge 63, 3) := by decide +kernel
theorem dX10_goBy_15 : decode cX10_goBy 15 = .ok (.aload_n 0, 1) := by decide +kernel
theorem dX10_goBy_16 : decode cX10_goBy 16 = .ok (.getfield 32, 3) := by decide +kernel
theorem dX10_goBy_19 : decode cX10_goBy 19 = .ok (.bipush 13, 2) := by decide +kernel
theorem dX10_goBy_21 : decode cX10_goBy 21 = .ok (.iload_n 2, 1) := by decide +kernel
theorem dX10_goBy_22 : decode cX10_goBy 22 = .ok (.iadd, 1) := by decide +kernel
theorem dX10_goBy_23 : decode cX10_goBy 23 = .ok (.dup2, 1) := by decide +kernel
theorem dX10_goBy_24 : decode cX10_goBy 24 = .ok (.iaload, 1) := by decide +kernel
theorem dX10_goBy_25 : decode cX10_goBy 25 = .ok (.iload_n 1, 1) := by decide +kernel
theorem dX10_goBy_26 : decode cX10_goBy 26 = .ok (.iload_n 2, 1) := by decide +kernel
theorem dX10_goBy_27 : decode cX10_goBy 27 = .ok (.invokestatic 200, 3) := by decide +kernel
theorem dX10_goBy_30 : decode cX10_goBy 30 = .ok (.ifCond .eq 7, 3) := by decide +kernel
theorem dX10_goBy_33 : decode cX10_goBy 33 = .ok (.iconst 0, 1) := by decide +kernel
theorem dX10_goBy_34 : decode cX10_goBy 34 = .ok (.goto 4, 3) := by decide +kernel
theorem dX10_goBy_37 : decode cX10_goBy 37 = .ok (.iconst 1, 1) := by decide +kernel
theorem dX10_goBy_38 : decode cX10_goBy 38 = .ok (.iadd, 1) := by decide +kernel
theorem dX10_goBy_39 : decode cX10_goBy 39 = .ok (.iastore, 1) := by decide +kernel
theorem dX10_goBy_40 : decode cX10_goBy 40 = .ok (.aload_n 0, 1) := by decide +kernel
theorem dX10_goBy_41 : decode cX10_goBy 41 = .ok (.getfield 32, 3) := by decide +kernel
theorem dX10_goBy_44 : decode cX10_goBy 44 = .ok (.bipush 7, 2) := by decide +kernel
theorem dX10_goBy_46 : decode cX10_goBy 46 = .ok (.iload_n 2, 1) := by decide +kernel
theorem dX10_goBy_47 : decode cX10_goBy 47 = .ok (.iadd, 1) := by decide +kernel
theorem dX10_goBy_48 : decode cX10_goBy 48 = .ok (.dup2, 1) := by decide +kernel
theorem dX10_goBy_49 : decode cX10_goBy 49 = .ok (.iaload, 1) := by decide +kernel
theorem dX10_goBy_50 : decode cX10_goBy 50 = .ok (.aload_n 0, 1) := by decide +kernel
theorem dX10_goBy_51 : decode cX10_goBy 51 = .ok (.getfield 32, 3) := by decide +kernel
theorem dX10_goBy_54 : decode cX10_goBy 54 = .ok (.bipush 7, 2) := by decide +kernel
theorem dX10_goBy_56 : decode cX10_goBy 56 = .ok (.iload_n 2, 1) := by decide +kernel
theorem dX10_goBy_57 : decode cX10_goBy 57 = .ok (.iadd, 1) := by decide +kernel
theorem dX10_goBy_58 : decode cX10_goBy 58 = .ok (.iaload, 1) := by decide +kernel
theorem dX10_goBy_59 : decode cX10_goBy 59 = .ok (.ifCond .le 7, 3) := by decide +kernel
theorem dX10_goBy_62 : decode cX10_goBy 62 = .ok (.iconst 1, 1) := by decide +kernel
theorem dX10_goBy_63 : decode cX10_goBy 63 = .ok (.goto 4, 3) := by decide +kernel
theorem dX10_goBy_66 : decode cX10_goBy 66 = .ok (.iconst 0, 1) := by decide +kernel
theorem dX10_goBy_67 : decode cX10_goBy 67 = .ok (.isub, 1) := by decide +kernel
theorem dX10_goBy_68 : decode cX10_goBy 68 = .ok (.iastore, 1) := by decide +kernel
theorem dX10_goBy_69 : decode cX10_goBy 69 = .ok (.iinc 2 1, 3) := by decide +kernel
theorem dX10_goBy_72 : decode cX10_goBy 72 = .ok (.goto (-65), 3) := by decide +kernel
theorem dX10_goBy_75 : decode cX10_goBy 75 = .ok (.aload_n 0, 1) := by decide +kernel
theorem dX10_goBy_76 : decode cX10_goBy 76 = .ok (.getfield 32, 3) := by decide +kernel
theorem dX10_goBy_79 : decode cX10_goBy 79 = .ok (.iconst 0, 1) := by decide +kernel
theorem dX10_goBy_80 : decode cX10_goBy 80 = .ok (.dup2, 1) := by decide +kernel
theorem dX10_goBy_81 : decode cX10_goBy 81 = .ok (.iaload, 1) := by decide +kernel
theorem dX10_goBy_82 : decode cX10_goBy 82 = .ok (.iconst 1, 1) := by decide +kernel
theorem dX10_goBy_83 : decode cX10_goBy 83 = .ok (.iadd, 1) := by decide +kernel
theorem dX10_goBy_84 : decode cX10_goBy 84 = .ok (.iastore, 1) := by decide +kernel
theorem dX10_goBy_85 : decode cX10_goBy 85 = .ok (.return_, 1) := by decide +kernel
theorem dX10_noHours_0 : decode cX10_noHours 0 = .ok (.iload_n 1, 1) := by decide +kernel
theorem dX10_noHours_1 : decode cX10_noHours 1 = .ok (.iconst 1, 1) := by decide +kernel
theorem dX10_noHours_2 : decode cX10_noHours 2 = .ok (.bipush 60, 2) := by decide +kernel
theorem dX10_noHours_4 : decode cX10_noHours 4 = .ok (.invokestatic 69, 3) := by decide +kernel
theorem dX10_noHours_7 : decode cX10_noHours 7 = .ok (.ifCond .ne 8, 3) := by decide +kernel
theorem dX10_noHours_10 : decode cX10_noHours 10 = .ok (.ldc 76, 2) := by decide +kernel
theorem dX10_noHours_12 : decode cX10_noHours 12 = .ok (.goto 33, 3) := by decide +kernel
theorem dX10_noHours_15 : decode cX10_noHours 15 = .ok (.aload_n 0, 1) := by decide +kernel
theorem dX10_noHours_16 : decode cX10_noHours 16 = .ok (.getfield 148, 3) := by decide +kernel
theorem dX10_noHours_19 : decode cX10_noHours 19 = .ok (.ifCond .ne 8, 3) := by decide +kernel
theorem dX10_noHours_22 : decode cX10_noHours 22 = .ok (.ldc 203, 2) := by decide +kernel
theorem dX10_noHours_24 : decode cX10_noHours 24 = .ok (.goto 21, 3) := by decide +kernel
theorem dX10_noHours_27 : decode cX10_noHours 27 = .ok (.aload_n 0, 1) := by decide +kernel
theorem dX10_noHours_28 : decode cX10_noHours 28 = .ok (.getfield 32, 3) := by decide +kernel
theorem dX10_noHours_31 : decode cX10_noHours 31 = .ok (.iconst 0, 1) := by decide +kernel
theorem dX10_noHours_32 : decode cX10_noHours 32 = .ok (.iaload, 1) := by decide +kernel
theorem dX10_noHours_33 : decode cX10_noHours 33 = .ok (.sipush 9000, 3) := by decide +kernel
theorem dX10_noHours_36 : decode cX10_noHours 36 = .ok (.if_icmp .le 8, 3) := by decide +kernel
theorem dX10_noHours_39 : decode cX10_noHours 39 = .ok (.ldc 80, 2) := by decide +kernel
theorem dX10_noHours_41 : decode cX10_noHours 41 = .ok (.goto 4, 3) := by decide +kernel
theorem dX10_noHours_44 : decode cX10_noHours 44 = .ok (.iconst 0, 1) := by decide +kernel
theorem dX10_noHours_45 : decode cX10_noHours 45 = .ok (.ireturn, 1) := by decide +kernel
theorem dX10_hour_0 : decode cX10_hour 0 = .ok (.aload_n 0, 1) := by decide +kernel
theorem dX10_hour_1 : decode cX10_hour 1 = .ok (.iload_n 1, 1) := by decide +kernel
theorem dX10_hour_2 : decode cX10_hour 2 = .ok (.invokevirtual 204, 3) := by decide +kernel
theorem dX10_hour_5 : decode cX10_hour 5 = .ok (.ifCond .eq 9, 3) := by decide +kernel
theorem dX10_hour_8 : decode cX10_hour 8 = .ok (.aload_n 0, 1) := by decide +kernel
theorem dX10_hour_9 : decode cX10_hour 9 = .ok (.iload_n 1, 1) := by decide +kernel
theorem dX10_hour_10 : decode cX10_hour 10 = .ok (.invokevirtual 204, 3) := by decide +kernel
theorem dX10_hour_13 : decode cX10_hour 13 = .ok (.ireturn, 1) := by decide +kernel
theorem dX10_hour_14 : decode cX10_hour 14 = .ok (.aload_n 0, 1) := by decide +kernel
theorem dX10_hour_15 : decode cX10_hour 15 = .ok (.invokevirtual 207, 3) := by decide +kernel
theorem dX10_hour_18 : decode cX10_hour 18 = .ok (.iconst 0, 1) := by decide +kernel
theorem dX10_hour_19 : decode cX10_hour 19 = .ok (.istore_n 2, 1) := by decide +kernel
theorem dX10_hour_20 : decode cX10_hour 20 = .ok (.iload_n 2, 1) := by decide +kernel
theorem dX10_hour_21 : decode cX10_hour 21 = .ok (.iload_n 1, 1) := by decide +kernel
theorem dX10_hour_22 : decode cX10_hour 22 = .ok (.if_icmp .ge 13, 3) := by decide +kernel
theorem dX10_hour_25 : decode cX10_hour 25 = .ok (.aload_n 0, 1) := by decide +kernel
theorem dX10_hour_26 : decode cX10_hour 26 = .ok (.invokevirtual 210, 3) := by decide +kernel
theorem dX10_hour_29 : decode cX10_hour 29 = .ok (.iinc 2 1, 3) := by decide +kernel
theorem dX10_hour_32 : decode cX10_hour 32 = .ok (.goto (-12), 3) := by decide +kernel
theorem dX10_hour_35 : decode cX10_hour 35 = .ok (.aload_n 0, 1) := by decide +kernel
theorem dX10_hour_36 : decode cX10_hour 36 = .ok (.getfield 32, 3) := by decide +kernel
theorem dX10_hour_39 : decode cX10_hour 39 = .ok (.iconst 0, 1) := by decide +kernel
theorem dX10_hour_40 : decode cX10_hour 40 = .ok (.iaload, 1) := by decide +kernel
theorem dX10_hour_41 : decode cX10_hour 41 = .ok (.ireturn, 1) := by decide +kernel
theorem dX10_canGive_0 : decode cX10_canGive 0 = .ok (.aload_n 0, 1) := by decide +kernel
theorem dX10_canGive_1 : decode cX10_canGive 1 = .ok (.iload_n 1, 1) := by decide +kernel
theorem dX10_canGive_2 : decode cX10_canGive 2 = .ok (.invokevirtual 196, 3) := by decide +kernel
theorem dX10_canGive_5 : decode cX10_canGive 5 = .ok (.iconst (-1), 1) := by decide +kernel
theorem dX10_canGive_6 : decode cX10_canGive 6 = .ok (.if_icmp .ne 19, 3) := by decide +kernel
theorem dX10_canGive_9 : decode cX10_canGive 9 = .ok (.aload_n 0, 1) := by decide +kernel
theorem dX10_canGive_10 : decode cX10_canGive 10 = .ok (.getfield 32, 3) := by decide +kernel
theorem dX10_canGive_13 : decode cX10_canGive 13 = .ok (.iconst 1, 1) := by decide +kernel
theorem dX10_canGive_14 : decode cX10_canGive 14 = .ok (.iload_n 2, 1) := by decide +kernel
theorem dX10_canGive_15 : decode cX10_canGive 15 = .ok (.iadd, 1) := by decide +kernel
theorem dX10_canGive_16 : decode cX10_canGive 16 = .ok (.iaload, 1) := by decide +kernel
theorem dX10_canGive_17 : decode cX10_canGive 17 = .ok (.iconst (-1), 1) := by decide +kernel
theorem dX10_canGive_18 : decode cX10_canGive 18 = .ok (.if_icmp .ne 7, 3) := by decide +kernel
theorem dX10_canGive_21 : decode cX10_canGive 21 = .ok (.iconst 1, 1) := by decide +kernel
theorem dX10_canGive_22 : decode cX10_canGive 22 = .ok (.goto 4, 3) := by decide +kernel
theorem dX10_canGive_25 : decode cX10_canGive 25 = .ok (.iconst 0, 1) := by decide +kernel
theorem dX10_canGive_26 : decode cX10_canGive 26 = .ok (.ireturn, 1) := by decide +kernel
theorem dX10_gives_0 : decode cX10_gives 0 = .ok (.aload_n 0, 1) := by decide +kernel
theorem dX10_gives_1 : decode cX10_gives 1 = .ok (.getfield 32, 3) := by decide +kernel
theorem dX10_gives_4 : decode cX10_gives 4 = .ok (.iconst 1, 1) := by decide +kernel
theorem dX10_gives_5 : decode cX10_gives 5 = .ok (.iload_n 2, 1) := by decide +kernel
theorem dX10_gives_6 : decode cX10_gives 6 = .ok (.iadd, 1) := by decide +kernel
theorem dX10_gives_7 : decode cX10_gives 7 = .ok (.iload_n 1, 1) := by decide +kernel
theorem dX10_gives_8 : decode cX10_gives 8 = .ok (.iastore, 1) := by decide +kernel
theorem dX10_gives_9 : decode cX10_gives 9 = .ok (.aload_n 0, 1) := by decide +kernel
theorem dX10_gives_10 : decode cX10_gives 10 = .ok (.getfield 32, 3) := by decide +kernel
theorem dX10_gives_13 : decode cX10_gives 13 = .ok (.bipush 19, 2) := by decide +kernel
theorem dX10_gives_15 : decode cX10_gives 15 = .ok (.aload_n 0, 1) := by decide +kernel
theorem dX10_gives_16 : decode cX10_gives 16 = .ok (.getfield 32, 3) := by decide +kernel
theorem dX10_gives_19 : decode cX10_gives 19 = .ok (.bipush 19, 2) := by decide +kernel
theorem dX10_gives_21 : decode cX10_gives 21 = .ok (.iaload, 1) := by decide +kernel
theorem dX10_gives_22 : decode cX10_gives 22 = .ok (.iconst 1, 1) := by decide +kernel
theorem dX10_gives_23 : decode cX10_gives 23 = .ok (.iload_n 1, 1) := by decide +kernel
theorem dX10_gives_24 : decode cX10_gives 24 = .ok (.ishl, 1) := by decide +kernel
theorem dX10_gives_25 : decode cX10_gives 25 = .ok (.iconst (-1), 1) := by decide +kernel
theorem dX10_gives_26 : decode cX10_gives 26 = .ok (.ixor, 1) := by decide +kernel
theorem dX10_gives_27 : decode cX10_gives 27 = .ok (.iand, 1) := by decide +kernel
theorem dX10_gives_28 : decode cX10_gives 28 = .ok (.iastore, 1) := by decide +kernel
theorem dX10_gives_29 : decode cX10_gives 29 = .ok (.aload_n 0, 1) := by decide +kernel
theorem dX10_gives_30 : decode cX10_gives 30 = .ok (.iload_n 2, 1) := by decide +kernel
theorem dX10_gives_31 : decode cX10_gives 31 = .ok (.iload_n 1, 1) := by decide +kernel
theorem dX10_gives_32 : decode cX10_gives 32 = .ok (.invokevirtual 173, 3) := by decide +kernel
theorem dX10_gives_35 : decode cX10_gives 35 = .ok (.ifCond .ne 5, 3) := by decide +kernel
theorem dX10_gives_38 : decode cX10_gives 38 = .ok (.iconst 0, 1) := by decide +kernel
theorem dX10_gives_39 : decode cX10_gives 39 = .ok (.ireturn, 1) := by decide +kernel
theorem dX10_gives_40 : decode cX10_gives 40 = .ok (.aload_n 0, 1) := by decide +kernel
theorem dX10_gives_41 : decode cX10_gives 41 = .ok (.getfield 32, 3) := by decide +kernel
theorem dX10_gives_44 : decode cX10_gives 44 = .ok (.bipush 26, 2) := by decide +kernel
theorem dX10_gives_46 : decode cX10_gives 46 = .ok (.iload_n 1, 1) := by decide +kernel
theorem dX10_gives_47 : decode cX10_gives 47 = .ok (.iadd, 1) := by decide +kernel
theorem dX10_gives_48 : decode cX10_gives 48 = .ok (.iaload, 1) := by decide +kernel
theorem dX10_gives_49 : decode cX10_gives 49 = .ok (.aload_n 0, 1) := by decide +kernel
theorem dX10_gives_50 : decode cX10_gives 50 = .ok (.invokevirtual 183, 3) := by decide +kernel
theorem dX10_gives_53 : decode cX10_gives 53 = .ok (.iand, 1) := by decide +kernel
theorem dX10_gives_54 : decode cX10_gives 54 = .ok (.ifCond .eq 28, 3) := by decide +kernel
theorem dX10_gives_57 : decode cX10_gives 57 = .ok (.aload_n 0, 1) := by decide +kernel
theorem dX10_gives_58 : decode cX10_gives 58 = .ok (.getfield 32, 3) := by decide +kernel
theorem dX10_gives_61 : decode cX10_gives 61 = .ok (.bipush 7, 2) := by decide +kernel
theorem dX10_gives_63 : decode cX10_gives 63 = .ok (.iload_n 2, 1) := by decide +kernel
theorem dX10_gives_64 : decode cX10_gives 64 = .ok (.iadd, 1) := by decide +kernel
theorem dX10_gives_65 : decode cX10_gives 65 = .ok (.iaload, 1) := by decide +kernel
theorem dX10_gives_66 : decode cX10_gives 66 = .ok (.ifCond .ne 16, 3) := by decide +kernel
theorem dX10_gives_69 : decode cX10_gives 69 = .ok (.aload_n 0, 1) := by decide +kernel
theorem dX10_gives_70 : decode cX10_gives 70 = .ok (.getfield 32, 3) := by decide +kernel
theorem dX10_gives_73 : decode cX10_gives 73 = .ok (.bipush 7, 2) := by decide +kernel
theorem dX10_gives_75 : decode cX10_gives 75 = .ok (.iload_n 2, 1) := by decide +kernel
theorem dX10_gives_76 : decode cX10_gives 76 = .ok (.iadd, 1) := by decide +kernel
theorem dX10_gives_77 : decode cX10_gives 77 = .ok (.aload_n 0, 1) := by decide +kernel
theorem dX10_gives_78 : decode cX10_gives 78 = .ok (.getfield 151, 3) := by decide +kernel
theorem dX10_gives_81 : decode cX10_gives 81 = .ok (.iastore, 1) := by decide +kernel
theorem dX10_gives_82 : decode cX10_gives 82 = .ok (.aload_n 0, 1) := by decide +kernel
theorem dX10_gives_83 : decode cX10_gives 83 = .ok (.getfield 32, 3) := by decide +kernel
theorem dX10_gives_86 : decode cX10_gives 86 = .ok (.bipush 26, 2) := by decide +kernel
theorem dX10_gives_88 : decode cX10_gives 88 = .ok (.iload_n 1, 1) := by decide +kernel
theorem dX10_gives_89 : decode cX10_gives 89 = .ok (.iadd, 1) := by decide +kernel
theorem dX10_gives_90 : decode cX10_gives 90 = .ok (.aload_n 0, 1) := by decide +kernel
theorem dX10_gives_91 : decode cX10_gives 91 = .ok (.getfield 32, 3) := by decide +kernel
theorem dX10_gives_94 : decode cX10_gives 94 = .ok (.bipush 26, 2) := by decide +kernel
theorem dX10_gives_96 : decode cX10_gives 96 = .ok (.iload_n 1, 1) := by decide +kernel
theorem dX10_gives_97 : decode cX10_gives 97 = .ok (.iadd, 1) := by decide +kernel
theorem dX10_gives_98 : decode cX10_gives 98 = .ok (.iaload, 1) := by decide +kernel
theorem dX10_gives_99 : decode cX10_gives 99 = .ok (.iconst 1, 1) := by decide +kernel
theorem dX10_gives_100 : decode cX10_gives 100 = .ok (.iload_n 2, 1) := by decide +kernel
theorem dX10_gives_101 : decode cX10_gives 101 = .ok (.ishl, 1) := by decide +kernel
theorem dX10_gives_102 : decode cX10_gives 102 = .ok (.ior, 1) := by decide +kernel
theorem dX10_gives_103 : decode cX10_gives 103 = .ok (.iastore, 1) := by decide +kernel
theorem dX10_gives_104 : decode cX10_gives 104 = .ok (.iconst 1, 1) := by decide +kernel
theorem dX10_gives_105 : decode cX10_gives 105 = .ok (.ireturn, 1) := by decide +kernel
theorem dX10_give_0 : decode cX10_give 0 = .ok (.aload_n 0, 1) := by decide +kernel
theorem dX10_give_1 : decode cX10_give 1 = .ok (.iload_n 1, 1) := by decide +kernel
theorem dX10_give_2 : decode cX10_give 2 = .ok (.invokevirtual 193, 3) := by decide +kernel
theorem dX10_give_5 : decode cX10_give 5 = .ok (.ifCond .eq 11, 3) := by decide +kernel
theorem dX10_give_8 : decode cX10_give 8 = .ok (.aload_n 0, 1) := by decide +kernel
theorem dX10_give_9 : decode cX10_give 9 = .ok (.iload_n 2, 1) := by decide +kernel
theorem dX10_give_10 : decode cX10_give 10 = .ok (.invokevirtual 189, 3) := by decide +kernel
theorem dX10_give_13 : decode cX10_give 13 = .ok (.ifCond .ne 6, 3) := by decide +kernel
theorem dX10_give_16 : decode cX10_give 16 = .ok (.ldc 192, 2) := by decide +kernel
theorem dX10_give_18 : decode cX10_give 18 = .ok (.ireturn, 1) := by decide +kernel
theorem dX10_give_19 : decode cX10_give 19 = .ok (.aload_n 0, 1) := by decide +kernel
theorem dX10_give_20 : decode cX10_give 20 = .ok (.iload_n 1, 1) := by decide +kernel
theorem dX10_give_21 : decode cX10_give 21 = .ok (.iload_n 2, 1) := by decide +kernel
theorem dX10_give_22 : decode cX10_give 22 = .ok (.invokevirtual 213, 3) := by decide +kernel
theorem dX10_give_25 : decode cX10_give 25 = .ok (.ifCond .ne 6, 3) := by decide +kernel
theorem dX10_give_28 : decode cX10_give 28 = .ok (.ldc 203, 2) := by decide +kernel
theorem dX10_give_30 : decode cX10_give 30 = .ok (.ireturn, 1) := by decide +kernel
theorem dX10_give_31 : decode cX10_give 31 = .ok (.aload_n 0, 1) := by decide +kernel
theorem dX10_give_32 : decode cX10_give 32 = .ok (.invokevirtual 207, 3) := by decide +kernel
theorem dX10_give_35 : decode cX10_give 35 = .ok (.aload_n 0, 1) := by decide +kernel
theorem dX10_give_36 : decode cX10_give 36 = .ok (.iload_n 1, 1) := by decide +kernel
theorem dX10_give_37 : decode cX10_give 37 = .ok (.iload_n 2, 1) := by decide +kernel
theorem dX10_give_38 : decode cX10_give 38 = .ok (.invokevirtual 216, 3) := by decide +kernel
theorem dX10_give_41 : decode cX10_give 41 = .ok (.ifCond .eq 7, 3) := by decide +kernel
theorem dX10_give_44 : decode cX10_give 44 = .ok (.iconst 1, 1) := by decide +kernel
theorem dX10_give_45 : decode cX10_give 45 = .ok (.goto 4, 3) := by decide +kernel
theorem dX10_give_48 : decode cX10_give 48 = .ok (.iconst 0, 1) := by decide +kernel
theorem dX10_give_49 : decode cX10_give 49 = .ok (.ireturn, 1) := by decide +kernel
theorem dX10_drops_0 : decode cX10_drops 0 = .ok (.aload_n 0, 1) := by decide +kernel
theorem dX10_drops_1 : decode cX10_drops 1 = .ok (.getfield 32, 3) := by decide +kernel
theorem dX10_drops_4 : decode cX10_drops 4 = .ok (.iconst 1, 1) := by decide +kernel
theorem dX10_drops_5 : decode cX10_drops 5 = .ok (.aload_n 0, 1) := by decide +kernel
theorem dX10_drops_6 : decode cX10_drops 6 = .ok (.iload_n 1, 1) := by decide +kernel
theorem dX10_drops_7 : decode cX10_drops 7 = .ok (.invokevirtual 196, 3) := by decide +kernel
theorem dX10_drops_10 : decode cX10_drops 10 = .ok (.iadd, 1) := by decide +kernel
theorem dX10_drops_11 : decode cX10_drops 11 = .ok (.iconst (-1), 1) := by decide +kernel
theorem dX10_drops_12 : decode cX10_drops 12 = .ok (.iastore, 1) := by decide +kernel
theorem dX10_drops_13 : decode cX10_drops 13 = .ok (.aload_n 0, 1) := by decide +kernel
theorem dX10_drops_14 : decode cX10_drops 14 = .ok (.getfield 32, 3) := by decide +kernel
theorem dX10_drops_17 : decode cX10_drops 17 = .ok (.bipush 19, 2) := by decide +kernel
theorem dX10_drops_19 : decode cX10_drops 19 = .ok (.aload_n 0, 1) := by decide +kernel
theorem dX10_drops_20 : decode cX10_drops 20 = .ok (.getfield 32, 3) := by decide +kernel
theorem dX10_drops_23 : decode cX10_drops 23 = .ok (.bipush 19, 2) := by decide +kernel
theorem dX10_drops_25 : decode cX10_drops 25 = .ok (.iaload, 1) := by decide +kernel
theorem dX10_drops_26 : decode cX10_drops 26 = .ok (.iconst 1, 1) := by decide +kernel
theorem dX10_drops_27 : decode cX10_drops 27 = .ok (.iload_n 1, 1) := by decide +kernel
theorem dX10_drops_28 : decode cX10_drops 28 = .ok (.ishl, 1) := by decide +kernel
theorem dX10_drops_29 : decode cX10_drops 29 = .ok (.ior, 1) := by decide +kernel
theorem dX10_drops_30 : decode cX10_drops 30 = .ok (.iastore, 1) := by decide +kernel
theorem dX10_drops_31 : decode cX10_drops 31 = .ok (.return_, 1) := by decide +kernel
theorem dX10_drop_0 : decode cX10_drop 0 = .ok (.aload_n 0, 1) := by decide +kernel
theorem dX10_drop_1 : decode cX10_drop 1 = .ok (.iload_n 1, 1) := by decide +kernel
theorem dX10_drop_2 : decode cX10_drop 2 = .ok (.invokevirtual 193, 3) := by decide +kernel
theorem dX10_drop_5 : decode cX10_drop 5 = .ok (.ifCond .ne 6, 3) := by decide +kernel
theorem dX10_drop_8 : decode cX10_drop 8 = .ok (.ldc 192, 2) := by decide +kernel
theorem dX10_drop_10 : decode cX10_drop 10 = .ok (.ireturn, 1) := by decide +kernel
theorem dX10_drop_11 : decode cX10_drop 11 = .ok (.aload_n 0, 1) := by decide +kernel
theorem dX10_drop_12 : decode cX10_drop 12 = .ok (.iload_n 1, 1) := by decide +kernel
theorem dX10_drop_13 : decode cX10_drop 13 = .ok (.invokevirtual 196, 3) := by decide +kernel
theorem dX10_drop_16 : decode cX10_drop 16 = .ok (.istore_n 2, 1) := by decide +kernel
theorem dX10_drop_17 : decode cX10_drop 17 = .ok (.iload_n 2, 1) := by decide +kernel
theorem dX10_drop_18 : decode cX10_drop 18 = .ok (.iconst (-1), 1) := by decide +kernel
theorem dX10_drop_19 : decode cX10_drop 19 = .ok (.if_icmp .ne 6, 3) := by decide +kernel
theorem dX10_drop_22 : decode cX10_drop 22 = .ok (.ldc 203, 2) := by decide +kernel
theorem dX10_drop_24 : decode cX10_drop 24 = .ok (.ireturn, 1) := by decide +kernel
theorem dX10_drop_25 : decode cX10_drop 25 = .ok (.aload_n 0, 1) := by decide +kernel
theorem dX10_drop_26 : decode cX10_drop 26 = .ok (.invokevirtual 207, 3) := by decide +kernel
theorem dX10_drop_29 : decode cX10_drop 29 = .ok (.aload_n 0, 1) := by decide +kernel
theorem dX10_drop_30 : decode cX10_drop 30 = .ok (.iload_n 1, 1) := by decide +kernel
theorem dX10_drop_31 : decode cX10_drop 31 = .ok (.invokevirtual 219, 3) := by decide +kernel
theorem dX10_drop_34 : decode cX10_drop 34 = .ok (.iload_n 2, 1) := by decide +kernel
theorem dX10_drop_35 : decode cX10_drop 35 = .ok (.ireturn, 1) := by decide +kernel
theorem dX10_pick_0 : decode cX10_pick 0 = .ok (.aload_n 0, 1) := by decide +kernel
theorem dX10_pick_1 : decode cX10_pick 1 = .ok (.iload_n 1, 1) := by decide +kernel
theorem dX10_pick_2 : decode cX10_pick 2 = .ok (.invokevirtual 193, 3) := by decide +kernel
theorem dX10_pick_5 : decode cX10_pick 5 = .ok (.ifCond .ne 6, 3) := by decide +kernel
theorem dX10_pick_8 : decode cX10_pick 8 = .ok (.ldc 192, 2) := by decide +kernel
theorem dX10_pick_10 : decode cX10_pick 10 = .ok (.ireturn, 1) := by decide +kernel
theorem dX10_pick_11 : decode cX10_pick 11 = .ok (.aload_n 0, 1) := by decide +kernel
theorem dX10_pick_12 : decode cX10_pick 12 = .ok (.getfield 32, 3) := by decide +kernel
theorem dX10_pick_15 : decode cX10_pick 15 = .ok (.bipush 19, 2) := by decide +kernel
theorem dX10_pick_17 : decode cX10_pick 17 = .ok (.iaload, 1) := by decide +kernel
theorem dX10_pick_18 : decode cX10_pick 18 = .ok (.iload_n 1, 1) := by decide +kernel
theorem dX10_pick_19 : decode cX10_pick 19 = .ok (.invokestatic 200, 3) := by decide +kernel
theorem dX10_pick_22 : decode cX10_pick 22 = .ok (.ifCond .ne 6, 3) := by decide +kernel
theorem dX10_pick_25 : decode cX10_pick 25 = .ok (.ldc 203, 2) := by decide +kernel
theorem dX10_pick_27 : decode cX10_pick 27 = .ok (.ireturn, 1) := by decide +kernel
theorem dX10_pick_28 : decode cX10_pick 28 = .ok (.aload_n 0, 1) := by decide +kernel
theorem dX10_pick_29 : decode cX10_pick 29 = .ok (.invokevirtual 207, 3) := by decide +kernel
theorem dX10_pick_32 : decode cX10_pick 32 = .ok (.aload_n 0, 1) := by decide +kernel
theorem dX10_pick_33 : decode cX10_pick 33 = .ok (.getfield 32, 3) := by decide +kernel
theorem dX10_pick_36 : decode cX10_pick 36 = .ok (.bipush 19, 2) := by decide +kernel
theorem dX10_pick_38 : decode cX10_pick 38 = .ok (.aload_n 0, 1) := by decide +kernel
theorem dX10_pick_39 : decode cX10_pick 39 = .ok (.getfield 32, 3) := by decide +kernel
theorem dX10_pick_42 : decode cX10_pick 42 = .ok (.bipush 19, 2) := by decide +kernel
theorem dX10_pick_44 : decode cX10_pick 44 = .ok (.iaload, 1) := by decide +kernel
theorem dX10_pick_45 : decode cX10_pick 45 = .ok (.iconst 1, 1) := by decide +kernel
theorem dX10_pick_46 : decode cX10_pick 46 = .ok (.iload_n 1, 1) := by decide +kernel
theorem dX10_pick_47 : decode cX10_pick 47 = .ok (.ishl, 1) := by decide +kernel
theorem dX10_pick_48 : decode cX10_pick 48 = .ok (.iconst (-1), 1) := by decide +kernel
theorem dX10_pick_49 : decode cX10_pick 49 = .ok (.ixor, 1) := by decide +kernel
theorem dX10_pick_50 : decode cX10_pick 50 = .ok (.iand, 1) := by decide +kernel
theorem dX10_pick_51 : decode cX10_pick 51 = .ok (.iastore, 1) := by decide +kernel
theorem dX10_pick_52 : decode cX10_pick 52 = .ok (.aload_n 0, 1) := by decide +kernel
theorem dX10_pick_53 : decode cX10_pick 53 = .ok (.getfield 32, 3) := by decide +kernel
theorem dX10_pick_56 : decode cX10_pick 56 = .ok (.bipush 19, 2) := by decide +kernel
theorem dX10_pick_58 : decode cX10_pick 58 = .ok (.iaload, 1) := by decide +kernel
theorem dX10_pick_59 : decode cX10_pick 59 = .ok (.ireturn, 1) := by decide +kernel
theorem dX10_boil_0 : decode cX10_boil 0 = .ok (.iconst 0, 1) := by decide +kernel
theorem dX10_boil_1 : decode cX10_boil 1 = .ok (.istore_n 1, 1) := by decide +kernel
theorem dX10_boil_2 : decode cX10_boil 2 = .ok (.iconst 0, 1) := by decide +kernel
theorem dX10_boil_3 : decode cX10_boil 3 = .ok (.istore_n 2, 1) := by decide +kernel
theorem dX10_boil_4 : decode cX10_boil 4 = .ok (.iload_n 2, 1) := by decide +kernel
theorem dX10_boil_5 : decode cX10_boil 5 = .ok (.aload_n 0, 1) := by decide +kernel
theorem dX10_boil_6 : decode cX10_boil 6 = .ok (.getfield 73, 3) := by decide +kernel
theorem dX10_boil_9 : decode cX10_boil 9 = .ok (.if_icmp .ge 42, 3) := by decide +kernel
theorem dX10_boil_12 : decode cX10_boil 12 = .ok (.iload_n 1, 1) := by decide +kernel
theorem dX10_boil_13 : decode cX10_boil 13 = .ok (.aload_n 0, 1) := by decide +kernel
theorem dX10_boil_14 : decode cX10_boil 14 = .ok (.getfield 32, 3) := by decide +kernel
theorem dX10_boil_17 : decode cX10_boil 17 = .ok (.bipush 19, 2) := by decide +kernel
theorem dX10_boil_19 : decode cX10_boil 19 = .ok (.iaload, 1) := by decide +kernel
theorem dX10_boil_20 : decode cX10_boil 20 = .ok (.iload_n 2, 1) := by decide +kernel
theorem dX10_boil_21 : decode cX10_boil 21 = .ok (.invokestatic 200, 3) := by decide +kernel
theorem dX10_boil_24 : decode cX10_boil 24 = .ok (.ifCond .ne 18, 3) := by decide +kernel
theorem dX10_boil_27 : decode cX10_boil 27 = .ok (.aload_n 0, 1) := by decide +kernel
theorem dX10_boil_28 : decode cX10_boil 28 = .ok (.iload_n 2, 1) := by decide +kernel
theorem dX10_boil_29 : decode cX10_boil 29 = .ok (.invokevirtual 196, 3) := by decide +kernel
theorem dX10_boil_32 : decode cX10_boil 32 = .ok (.iconst (-1), 1) := by decide +kernel
theorem dX10_boil_33 : decode cX10_boil 33 = .ok (.if_icmp .ne 9, 3) := by decide +kernel
theorem dX10_boil_36 : decode cX10_boil 36 = .ok (.iconst 1, 1) := by decide +kernel
theorem dX10_boil_37 : decode cX10_boil 37 = .ok (.iload_n 2, 1) := by decide +kernel
theorem dX10_boil_38 : decode cX10_boil 38 = .ok (.ishl, 1) := by decide +kernel
theorem dX10_boil_39 : decode cX10_boil 39 = .ok (.goto 4, 3) := by decide +kernel
theorem dX10_boil_42 : decode cX10_boil 42 = .ok (.iconst 0, 1) := by decide +kernel
theorem dX10_boil_43 : decode cX10_boil 43 = .ok (.ior, 1) := by decide +kernel
theorem dX10_boil_44 : decode cX10_boil 44 = .ok (.istore_n 1, 1) := by decide +kernel
theorem dX10_boil_45 : decode cX10_boil 45 = .ok (.iinc 2 1, 3) := by decide +kernel
theorem dX10_boil_48 : decode cX10_boil 48 = .ok (.goto (-44), 3) := by decide +kernel
theorem dX10_boil_51 : decode cX10_boil 51 = .ok (.iload_n 1, 1) := by decide +kernel
theorem dX10_boil_52 : decode cX10_boil 52 = .ok (.ifCond .ne 6, 3) := by decide +kernel
theorem dX10_boil_55 : decode cX10_boil 55 = .ok (.ldc 203, 2) := by decide +kernel
theorem dX10_boil_57 : decode cX10_boil 57 = .ok (.ireturn, 1) := by decide +kernel
theorem dX10_boil_58 : decode cX10_boil 58 = .ok (.aload_n 0, 1) := by decide +kernel
theorem dX10_boil_59 : decode cX10_boil 59 = .ok (.invokevirtual 207, 3) := by decide +kernel
theorem dX10_boil_62 : decode cX10_boil 62 = .ok (.iconst 0, 1) := by decide +kernel
theorem dX10_boil_63 : decode cX10_boil 63 = .ok (.istore_n 2, 1) := by decide +kernel
theorem dX10_boil_64 : decode cX10_boil 64 = .ok (.iload_n 2, 1) := by decide +kernel
theorem dX10_boil_65 : decode cX10_boil 65 = .ok (.aload_n 0, 1) := by decide +kernel
theorem dX10_boil_66 : decode cX10_boil 66 = .ok (.getfield 73, 3) := by decide +kernel
theorem dX10_boil_69 : decode cX10_boil 69 = .ok (.if_icmp .ge 64, 3) := by decide +kernel
theorem dX10_boil_72 : decode cX10_boil 72 = .ok (.aload_n 0, 1) := by decide +kernel
theorem dX10_boil_73 : decode cX10_boil 73 = .ok (.getfield 32, 3) := by decide +kernel
theorem dX10_boil_76 : decode cX10_boil 76 = .ok (.bipush 26, 2) := by decide +kernel
theorem dX10_boil_78 : decode cX10_boil 78 = .ok (.iload_n 2, 1) := by decide +kernel
theorem dX10_boil_79 : decode cX10_boil 79 = .ok (.iadd, 1) := by decide +kernel
theorem dX10_boil_80 : decode cX10_boil 80 = .ok (.iload_n 1, 1) := by decide +kernel
theorem dX10_boil_81 : decode cX10_boil 81 = .ok (.iload_n 2, 1) := by decide +kernel
theorem dX10_boil_82 : decode cX10_boil 82 = .ok (.invokestatic 200, 3) := by decide +kernel
theorem dX10_boil_85 : decode cX10_boil 85 = .ok (.ifCond .eq 7, 3) := by decide +kernel
theorem dX10_boil_88 : decode cX10_boil 88 = .ok (.iconst 0, 1) := by decide +kernel
theorem dX10_boil_89 : decode cX10_boil 89 = .ok (.goto 12, 3) := by decide +kernel
theorem dX10_boil_92 : decode cX10_boil 92 = .ok (.aload_n 0, 1) := by decide +kernel
theorem dX10_boil_93 : decode cX10_boil 93 = .ok (.getfield 32, 3) := by decide +kernel
theorem dX10_boil_96 : decode cX10_boil 96 = .ok (.bipush 26, 2) := by decide +kernel
theorem dX10_boil_98 : decode cX10_boil 98 = .ok (.iload_n 2, 1) := by decide +kernel
theorem dX10_boil_99 : decode cX10_boil 99 = .ok (.iadd, 1) := by decide +kernel
theorem dX10_boil_100 : decode cX10_boil 100 = .ok (.iaload, 1) := by decide +kernel
theorem dX10_boil_101 : decode cX10_boil 101 = .ok (.iastore, 1) := by decide +kernel
theorem dX10_boil_102 : decode cX10_boil 102 = .ok (.aload_n 0, 1) := by decide +kernel
theorem dX10_boil_103 : decode cX10_boil 103 = .ok (.getfield 32, 3) := by decide +kernel
theorem dX10_boil_106 : decode cX10_boil 106 = .ok (.bipush 20, 2) := by decide +kernel
theorem dX10_boil_108 : decode cX10_boil 108 = .ok (.iload_n 2, 1) := by decide +kernel
theorem dX10_boil_109 : decode cX10_boil 109 = .ok (.iadd, 1) := by decide +kernel
theorem dX10_boil_110 : decode cX10_boil 110 = .ok (.dup2, 1) := by decide +kernel
theorem dX10_boil_111 : decode cX10_boil 111 = .ok (.iaload, 1) := by decide +kernel
theorem dX10_boil_112 : decode cX10_boil 112 = .ok (.iload_n 1, 1) := by decide +kernel
theorem dX10_boil_113 : decode cX10_boil 113 = .ok (.iload_n 2, 1) := by decide +kernel
theorem dX10_boil_114 : decode cX10_boil 114 = .ok (.invokestatic 200, 3) := by decide +kernel
theorem dX10_boil_117 : decode cX10_boil 117 = .ok (.ifCond .eq 7, 3) := by decide +kernel
theorem dX10_boil_120 : decode cX10_boil 120 = .ok (.iconst 1, 1) := by decide +kernel
theorem dX10_boil_121 : decode cX10_boil 121 = .ok (.goto 4, 3) := by decide +kernel
theorem dX10_boil_124 : decode cX10_boil 124 = .ok (.iconst 0, 1) := by decide +kernel
theorem dX10_boil_125 : decode cX10_boil 125 = .ok (.iadd, 1) := by decide +kernel
theorem dX10_boil_126 : decode cX10_boil 126 = .ok (.iastore, 1) := by decide +kernel
theorem dX10_boil_127 : decode cX10_boil 127 = .ok (.iinc 2 1, 3) := by decide +kernel
theorem dX10_boil_130 : decode cX10_boil 130 = .ok (.goto (-66), 3) := by decide +kernel
theorem dX10_boil_133 : decode cX10_boil 133 = .ok (.iload_n 1, 1) := by decide +kernel
theorem dX10_boil_134 : decode cX10_boil 134 = .ok (.ireturn, 1) := by decide +kernel
theorem dX10_cold_0 : decode cX10_cold 0 = .ok (.aload_n 0, 1) := by decide +kernel
theorem dX10_cold_1 : decode cX10_cold 1 = .ok (.iload_n 1, 1) := by decide +kernel
theorem dX10_cold_2 : decode cX10_cold 2 = .ok (.invokevirtual 189, 3) := by decide +kernel
theorem dX10_cold_5 : decode cX10_cold 5 = .ok (.ifCond .ne 6, 3) := by decide +kernel
theorem dX10_cold_8 : decode cX10_cold 8 = .ok (.ldc 192, 2) := by decide +kernel
theorem dX10_cold_10 : decode cX10_cold 10 = .ok (.ireturn, 1) := by decide +kernel
theorem dX10_cold_11 : decode cX10_cold 11 = .ok (.aload_n 0, 1) := by decide +kernel
theorem dX10_cold_12 : decode cX10_cold 12 = .ok (.invokevirtual 207, 3) := by decide +kernel
theorem dX10_cold_15 : decode cX10_cold 15 = .ok (.aload_n 0, 1) := by decide +kernel
theorem dX10_cold_16 : decode cX10_cold 16 = .ok (.getfield 32, 3) := by decide +kernel
theorem dX10_cold_19 : decode cX10_cold 19 = .ok (.bipush 7, 2) := by decide +kernel
theorem dX10_cold_21 : decode cX10_cold 21 = .ok (.iload_n 1, 1) := by decide +kernel
theorem dX10_cold_22 : decode cX10_cold 22 = .ok (.iadd, 1) := by decide +kernel
theorem dX10_cold_23 : decode cX10_cold 23 = .ok (.aload_n 0, 1) := by decide +kernel
theorem dX10_cold_24 : decode cX10_cold 24 = .ok (.getfield 151, 3) := by decide +kernel
theorem dX10_cold_27 : decode cX10_cold 27 = .ok (.iastore, 1) := by decide +kernel
theorem dX10_cold_28 : decode cX10_cold 28 = .ok (.aload_n 0, 1) := by decide +kernel
theorem dX10_cold_29 : decode cX10_cold 29 = .ok (.getfield 151, 3) := by decide +kernel
theorem dX10_cold_32 : decode cX10_cold 32 = .ok (.ireturn, 1) := by decide +kernel
theorem dX10_draw_0 : decode cX10_draw 0 = .ok (.aload_n 0, 1) := by decide +kernel
theorem dX10_draw_1 : decode cX10_draw 1 = .ok (.aload_n 0, 1) := by decide +kernel
theorem dX10_draw_2 : decode cX10_draw 2 = .ok (.getfield 223, 3) := by decide +kernel
theorem dX10_draw_5 : decode cX10_draw 5 = .ok (.i2l, 1) := by decide +kernel
theorem dX10_draw_6 : decode cX10_draw 6 = .ok (.ldc2_w 226, 3) := by decide +kernel
theorem dX10_draw_9 : decode cX10_draw 9 = .ok (.lmul, 1) := by decide +kernel
theorem dX10_draw_10 : decode cX10_draw 10 = .ok (.ldc2_w 228, 3) := by decide +kernel
theorem dX10_draw_13 : decode cX10_draw 13 = .ok (.ladd, 1) := by decide +kernel
theorem dX10_draw_14 : decode cX10_draw 14 = .ok (.ldc2_w 230, 3) := by decide +kernel
theorem dX10_draw_17 : decode cX10_draw 17 = .ok (.lrem, 1) := by decide +kernel
theorem dX10_draw_18 : decode cX10_draw 18 = .ok (.l2i, 1) := by decide +kernel
theorem dX10_draw_19 : decode cX10_draw 19 = .ok (.putfield 223, 3) := by decide +kernel
theorem dX10_draw_22 : decode cX10_draw 22 = .ok (.aload_n 0, 1) := by decide +kernel
theorem dX10_draw_23 : decode cX10_draw 23 = .ok (.getfield 223, 3) := by decide +kernel
theorem dX10_draw_26 : decode cX10_draw 26 = .ok (.ldc 232, 2) := by decide +kernel
theorem dX10_draw_28 : decode cX10_draw 28 = .ok (.idiv, 1) := by decide +kernel
theorem dX10_draw_29 : decode cX10_draw 29 = .ok (.iload_n 1, 1) := by decide +kernel
theorem dX10_draw_30 : decode cX10_draw 30 = .ok (.irem, 1) := by decide +kernel
theorem dX10_draw_31 : decode cX10_draw 31 = .ok (.ireturn, 1) := by decide +kernel
theorem dX10_chance_0 : decode cX10_chance 0 = .ok (.aload_n 0, 1) := by decide +kernel
theorem dX10_chance_1 : decode cX10_chance 1 = .ok (.aload_n 0, 1) := by decide +kernel
theorem dX10_chance_2 : decode cX10_chance 2 = .ok (.getfield 73, 3) := by decide +kernel
theorem dX10_chance_5 : decode cX10_chance 5 = .ok (.invokevirtual 233, 3) := by decide +kernel
theorem dX10_chance_8 : decode cX10_chance 8 = .ok (.istore_n 1, 1) := by decide +kernel
theorem dX10_chance_9 : decode cX10_chance 9 = .ok (.aload_n 0, 1) := by decide +kernel
theorem dX10_chance_10 : decode cX10_chance 10 = .ok (.aload_n 0, 1) := by decide +kernel
theorem dX10_chance_11 : decode cX10_chance 11 = .ok (.getfield 66, 3) := by decide +kernel
theorem dX10_chance_14 : decode cX10_chance 14 = .ok (.invokevirtual 233, 3) := by decide +kernel
theorem dX10_chance_17 : decode cX10_chance 17 = .ok (.istore_n 2, 1) := by decide +kernel
theorem dX10_chance_18 : decode cX10_chance 18 = .ok (.aload_n 0, 1) := by decide +kernel
theorem dX10_chance_19 : decode cX10_chance 19 = .ok (.iconst 4, 1) := by decide +kernel
theorem dX10_chance_20 : decode cX10_chance 20 = .ok (.invokevirtual 233, 3) := by decide +kernel
theorem dX10_chance_23 : decode cX10_chance 23 = .ok (.istore_n 3, 1) := by decide +kernel
theorem dX10_chance_24 : decode cX10_chance 24 = .ok (.iload_n 3, 1) := by decide +kernel
theorem dX10_chance_25 : decode cX10_chance 25 = .ok (.ifCond .ne 20, 3) := by decide +kernel
theorem dX10_chance_28 : decode cX10_chance 28 = .ok (.aload_n 0, 1) := by decide +kernel
theorem dX10_chance_29 : decode cX10_chance 29 = .ok (.iload_n 1, 1) := by decide +kernel
theorem dX10_chance_30 : decode cX10_chance 30 = .ok (.invokevirtual 196, 3) := by decide +kernel
theorem dX10_chance_33 : decode cX10_chance 33 = .ok (.iconst (-1), 1) := by decide +kernel
theorem dX10_chance_34 : decode cX10_chance 34 = .ok (.if_icmp .eq 55, 3) := by decide +kernel
theorem dX10_chance_37 : decode cX10_chance 37 = .ok (.aload_n 0, 1) := by decide +kernel
theorem dX10_chance_38 : decode cX10_chance 38 = .ok (.iload_n 1, 1) := by decide +kernel
theorem dX10_chance_39 : decode cX10_chance 39 = .ok (.invokevirtual 219, 3) := by decide +kernel
theorem dX10_chance_42 : decode cX10_chance 42 = .ok (.goto 47, 3) := by decide +kernel
theorem dX10_chance_45 : decode cX10_chance 45 = .ok (.iload_n 3, 1) := by decide +kernel
theorem dX10_chance_46 : decode cX10_chance 46 = .ok (.iconst 1, 1) := by decide +kernel
theorem dX10_chance_47 : decode cX10_chance 47 = .ok (.if_icmp .ne 26, 3) := by decide +kernel
theorem dX10_chance_50 : decode cX10_chance 50 = .ok (.aload_n 0, 1) := by decide +kernel
theorem dX10_chance_51 : decode cX10_chance 51 = .ok (.getfield 32, 3) := by decide +kernel
theorem dX10_chance_54 : decode cX10_chance 54 = .ok (.bipush 19, 2) := by decide +kernel
theorem dX10_chance_56 : decode cX10_chance 56 = .ok (.aload_n 0, 1) := by decide +kernel
theorem dX10_chance_57 : decode cX10_chance 57 = .ok (.getfield 32, 3) := by decide +kernel
theorem dX10_chance_60 : decode cX10_chance 60 = .ok (.bipush 19, 2) := by decide +kernel
theorem dX10_chance_62 : decode cX10_chance 62 = .ok (.iaload, 1) := by decide +kernel
theorem dX10_chance_63 : decode cX10_chance 63 = .ok (.iconst 1, 1) := by decide +kernel
theorem dX10_chance_64 : decode cX10_chance 64 = .ok (.iload_n 1, 1) := by decide +kernel
theorem dX10_chance_65 : decode cX10_chance 65 = .ok (.ishl, 1) := by decide +kernel
theorem dX10_chance_66 : decode cX10_chance 66 = .ok (.iconst (-1), 1) := by decide +kernel
theorem dX10_chance_67 : decode cX10_chance 67 = .ok (.ixor, 1) := by decide +kernel
theorem dX10_chance_68 : decode cX10_chance 68 = .ok (.iand, 1) := by decide +kernel
theorem dX10_chance_69 : decode cX10_chance 69 = .ok (.iastore, 1) := by decide +kernel
theorem dX10_chance_70 : decode cX10_chance 70 = .ok (.goto 19, 3) := by decide +kernel
theorem dX10_chance_73 : decode cX10_chance 73 = .ok (.aload_n 0, 1) := by decide +kernel
theorem dX10_chance_74 : decode cX10_chance 74 = .ok (.iload_n 1, 1) := by decide +kernel
theorem dX10_chance_75 : decode cX10_chance 75 = .ok (.iload_n 2, 1) := by decide +kernel
theorem dX10_chance_76 : decode cX10_chance 76 = .ok (.invokevirtual 213, 3) := by decide +kernel
theorem dX10_chance_79 : decode cX10_chance 79 = .ok (.ifCond .eq 10, 3) := by decide +kernel
theorem dX10_chance_82 : decode cX10_chance 82 = .ok (.aload_n 0, 1) := by decide +kernel
theorem dX10_chance_83 : decode cX10_chance 83 = .ok (.iload_n 1, 1) := by decide +kernel
theorem dX10_chance_84 : decode cX10_chance 84 = .ok (.iload_n 2, 1) := by decide +kernel
theorem dX10_chance_85 : decode cX10_chance 85 = .ok (.invokevirtual 216, 3) := by decide +kernel
theorem dX10_chance_88 : decode cX10_chance 88 = .ok (.pop, 1) := by decide +kernel
theorem dX10_chance_89 : decode cX10_chance 89 = .ok (.aload_n 0, 1) := by decide +kernel
theorem dX10_chance_90 : decode cX10_chance 90 = .ok (.bipush 100, 2) := by decide +kernel
theorem dX10_chance_92 : decode cX10_chance 92 = .ok (.invokevirtual 233, 3) := by decide +kernel
theorem dX10_chance_95 : decode cX10_chance 95 = .ok (.aload_n 0, 1) := by decide +kernel
theorem dX10_chance_96 : decode cX10_chance 96 = .ok (.getfield 154, 3) := by decide +kernel
theorem dX10_chance_99 : decode cX10_chance 99 = .ok (.if_icmp .ge 16, 3) := by decide +kernel
theorem dX10_chance_102 : decode cX10_chance 102 = .ok (.aload_n 0, 1) := by decide +kernel
theorem dX10_chance_103 : decode cX10_chance 103 = .ok (.getfield 32, 3) := by decide +kernel
theorem dX10_chance_106 : decode cX10_chance 106 = .ok (.bipush 7, 2) := by decide +kernel
theorem dX10_chance_108 : decode cX10_chance 108 = .ok (.iload_n 2, 1) := by decide +kernel
theorem dX10_chance_109 : decode cX10_chance 109 = .ok (.iadd, 1) := by decide +kernel
theorem dX10_chance_110 : decode cX10_chance 110 = .ok (.aload_n 0, 1) := by decide +kernel
theorem dX10_chance_111 : decode cX10_chance 111 = .ok (.getfield 151, 3) := by decide +kernel
theorem dX10_chance_114 : decode cX10_chance 114 = .ok (.iastore, 1) := by decide +kernel
theorem dX10_chance_115 : decode cX10_chance 115 = .ok (.return_, 1) := by decide +kernel
theorem dX10_drift_0 : decode cX10_drift 0 = .ok (.aload_n 0, 1) := by decide +kernel
theorem dX10_drift_1 : decode cX10_drift 1 = .ok (.iload_n 1, 1) := by decide +kernel
theorem dX10_drift_2 : decode cX10_drift 2 = .ok (.invokevirtual 204, 3) := by decide +kernel
theorem dX10_drift_5 : decode cX10_drift 5 = .ok (.ifCond .eq 9, 3) := by decide +kernel
theorem dX10_drift_8 : decode cX10_drift 8 = .ok (.aload_n 0, 1) := by decide +kernel
theorem dX10_drift_9 : decode cX10_drift 9 = .ok (.iload_n 1, 1) := by decide +kernel
theorem dX10_drift_10 : decode cX10_drift 10 = .ok (.invokevirtual 204, 3) := by decide +kernel
theorem dX10_drift_13 : decode cX10_drift 13 = .ok (.ireturn, 1) := by decide +kernel
theorem dX10_drift_14 : decode cX10_drift 14 = .ok (.aload_n 0, 1) := by decide +kernel
theorem dX10_drift_15 : decode cX10_drift 15 = .ok (.invokevirtual 207, 3) := by decide +kernel
theorem dX10_drift_18 : decode cX10_drift 18 = .ok (.iconst 0, 1) := by decide +kernel
theorem dX10_drift_19 : decode cX10_drift 19 = .ok (.istore_n 2, 1) := by decide +kernel
theorem dX10_drift_20 : decode cX10_drift 20 = .ok (.iload_n 2, 1) := by decide +kernel
theorem dX10_drift_21 : decode cX10_drift 21 = .ok (.iload_n 1, 1) := by decide +kernel
theorem dX10_drift_22 : decode cX10_drift 22 = .ok (.if_icmp .ge 31, 3) := by decide +kernel
theorem dX10_drift_25 : decode cX10_drift 25 = .ok (.aload_n 0, 1) := by decide +kernel
theorem dX10_drift_26 : decode cX10_drift 26 = .ok (.getfield 66, 3) := by decide +kernel
theorem dX10_drift_29 : decode cX10_drift 29 = .ok (.ifCond .le 14, 3) := by decide +kernel
theorem dX10_drift_32 : decode cX10_drift 32 = .ok (.aload_n 0, 1) := by decide +kernel
theorem dX10_drift_33 : decode cX10_drift 33 = .ok (.getfield 73, 3) := by decide +kernel
theorem dX10_drift_36 : decode cX10_drift 36 = .ok (.ifCond .le 7, 3) := by decide +kernel
theorem dX10_drift_39 : decode cX10_drift 39 = .ok (.aload_n 0, 1) := by decide +kernel
theorem dX10_drift_40 : decode cX10_drift 40 = .ok (.invokevirtual 236, 3) := by decide +kernel
theorem dX10_drift_43 : decode cX10_drift 43 = .ok (.aload_n 0, 1) := by decide +kernel
theorem dX10_drift_44 : decode cX10_drift 44 = .ok (.invokevirtual 210, 3) := by decide +kernel
theorem dX10_drift_47 : decode cX10_drift 47 = .ok (.iinc 2 1, 3) := by decide +kernel
theorem dX10_drift_50 : decode cX10_drift 50 = .ok (.goto (-30), 3) := by decide +kernel
theorem dX10_drift_53 : decode cX10_drift 53 = .ok (.aload_n 0, 1) := by decide +kernel
theorem dX10_drift_54 : decode cX10_drift 54 = .ok (.invokevirtual 179, 3) := by decide +kernel
theorem dX10_drift_57 : decode cX10_drift 57 = .ok (.ireturn, 1) := by decide +kernel
theorem dX10_undo_0 : decode cX10_undo 0 = .ok (.aload_n 0, 1) := by decide +kernel
theorem dX10_undo_1 : decode cX10_undo 1 = .ok (.getfield 167, 3) := by decide +kernel
theorem dX10_undo_4 : decode cX10_undo 4 = .ok (.ifCond .ne 6, 3) := by decide +kernel
theorem dX10_undo_7 : decode cX10_undo 7 = .ok (.ldc 203, 2) := by decide +kernel
theorem dX10_undo_9 : decode cX10_undo 9 = .ok (.ireturn, 1) := by decide +kernel
theorem dX10_undo_10 : decode cX10_undo 10 = .ok (.aload_n 0, 1) := by decide +kernel
theorem dX10_undo_11 : decode cX10_undo 11 = .ok (.dup, 1) := by decide +kernel
theorem dX10_undo_12 : decode cX10_undo 12 = .ok (.getfield 167, 3) := by decide +kernel
theorem dX10_undo_15 : decode cX10_undo 15 = .ok (.iconst 1, 1) := by decide +kernel
theorem dX10_undo_16 : decode cX10_undo 16 = .ok (.isub, 1) := by decide +kernel
theorem dX10_undo_17 : decode cX10_undo 17 = .ok (.putfield 167, 3) := by decide +kernel
theorem dX10_undo_20 : decode cX10_undo 20 = .ok (.aload_n 0, 1) := by decide +kernel
theorem dX10_undo_21 : decode cX10_undo 21 = .ok (.getfield 35, 3) := by decide +kernel
theorem dX10_undo_24 : decode cX10_undo 24 = .ok (.bipush 32, 2) := by decide +kernel
theorem dX10_undo_26 : decode cX10_undo 26 = .ok (.aload_n 0, 1) := by decide +kernel
theorem dX10_undo_27 : decode cX10_undo 27 = .ok (.getfield 167, 3) := by decide +kernel
theorem dX10_undo_30 : decode cX10_undo 30 = .ok (.imul, 1) := by decide +kernel
theorem dX10_undo_31 : decode cX10_undo 31 = .ok (.aload_n 0, 1) := by decide +kernel
theorem dX10_undo_32 : decode cX10_undo 32 = .ok (.getfield 32, 3) := by decide +kernel
theorem dX10_undo_35 : decode cX10_undo 35 = .ok (.iconst 0, 1) := by decide +kernel
theorem dX10_undo_36 : decode cX10_undo 36 = .ok (.bipush 32, 2) := by decide +kernel
theorem dX10_undo_38 : decode cX10_undo 38 = .ok (.invokestatic 157, 3) := by decide +kernel
theorem dX10_undo_41 : decode cX10_undo 41 = .ok (.aload_n 0, 1) := by decide +kernel
theorem dX10_undo_42 : decode cX10_undo 42 = .ok (.getfield 167, 3) := by decide +kernel
theorem dX10_undo_45 : decode cX10_undo 45 = .ok (.ireturn, 1) := by decide +kernel
theorem dX10_isSafe_0 : decode cX10_isSafe 0 = .ok (.aload_n 0, 1) := by decide +kernel
theorem dX10_isSafe_1 : decode cX10_isSafe 1 = .ok (.getfield 32, 3) := by decide +kernel
theorem dX10_isSafe_4 : decode cX10_isSafe 4 = .ok (.bipush 7, 2) := by decide +kernel
theorem dX10_isSafe_6 : decode cX10_isSafe 6 = .ok (.iload_n 1, 1) := by decide +kernel
theorem dX10_isSafe_7 : decode cX10_isSafe 7 = .ok (.iadd, 1) := by decide +kernel
theorem dX10_isSafe_8 : decode cX10_isSafe 8 = .ok (.iaload, 1) := by decide +kernel
theorem dX10_isSafe_9 : decode cX10_isSafe 9 = .ok (.ifCond .gt 20, 3) := by decide +kernel
theorem dX10_isSafe_12 : decode cX10_isSafe 12 = .ok (.aload_n 0, 1) := by decide +kernel
theorem dX10_isSafe_13 : decode cX10_isSafe 13 = .ok (.getfield 32, 3) := by decide +kernel
theorem dX10_isSafe_16 : decode cX10_isSafe 16 = .ok (.bipush 26, 2) := by decide +kernel
theorem dX10_isSafe_18 : decode cX10_isSafe 18 = .ok (.iload_n 2, 1) := by decide +kernel
theorem dX10_isSafe_19 : decode cX10_isSafe 19 = .ok (.iadd, 1) := by decide +kernel
theorem dX10_isSafe_20 : decode cX10_isSafe 20 = .ok (.iaload, 1) := by decide +kernel
theorem dX10_isSafe_21 : decode cX10_isSafe 21 = .ok (.aload_n 0, 1) := by decide +kernel
theorem dX10_isSafe_22 : decode cX10_isSafe 22 = .ok (.invokevirtual 183, 3) := by decide +kernel
theorem dX10_isSafe_25 : decode cX10_isSafe 25 = .ok (.iand, 1) := by decide +kernel
theorem dX10_isSafe_26 : decode cX10_isSafe 26 = .ok (.ifCond .ne 7, 3) := by decide +kernel
theorem dX10_isSafe_29 : decode cX10_isSafe 29 = .ok (.iconst 1, 1) := by decide +kernel
theorem dX10_isSafe_30 : decode cX10_isSafe 30 = .ok (.goto 4, 3) := by decide +kernel
theorem dX10_isSafe_33 : decode cX10_isSafe 33 = .ok (.iconst 0, 1) := by decide +kernel
theorem dX10_isSafe_34 : decode cX10_isSafe 34 = .ok (.ireturn, 1) := by decide +kernel
theorem dX10_layCalm_0 : decode cX10_layCalm 0 = .ok (.iconst 1, 1) := by decide +kernel
theorem dX10_layCalm_1 : decode cX10_layCalm 1 = .ok (.istore_n 3, 1) := by decide +kernel
theorem dX10_layCalm_2 : decode cX10_layCalm 2 = .ok (.aload_n 0, 1) := by decide +kernel
theorem dX10_layCalm_3 : decode cX10_layCalm 3 = .ok (.getfield 73, 3) := by decide +kernel
theorem dX10_layCalm_6 : decode cX10_layCalm 6 = .ok (.iconst 1, 1) := by decide +kernel
theorem dX10_layCalm_7 : decode cX10_layCalm 7 = .ok (.iadd, 1) := by decide +kernel
theorem dX10_layCalm_8 : decode cX10_layCalm 8 = .ok (.istore 4, 2) := by decide +kernel
theorem dX10_layCalm_10 : decode cX10_layCalm 10 = .ok (.iconst 0, 1) := by decide +kernel
theorem dX10_layCalm_11 : decode cX10_layCalm 11 = .ok (.istore 5, 2) := by decide +kernel
theorem dX10_layCalm_13 : decode cX10_layCalm 13 = .ok (.iload 5, 2) := by decide +kernel
theorem dX10_layCalm_15 : decode cX10_layCalm 15 = .ok (.aload_n 0, 1) := by decide +kernel
theorem dX10_layCalm_16 : decode cX10_layCalm 16 = .ok (.getfield 66, 3) := by decide +kernel
theorem dX10_layCalm_19 : decode cX10_layCalm 19 = .ok (.if_icmp .ge 14, 3) := by decide +kernel
theorem dX10_layCalm_22 : decode cX10_layCalm 22 = .ok (.iload_n 3, 1) := by decide +kernel
theorem dX10_layCalm_23 : decode cX10_layCalm 23 = .ok (.iload 4, 2) := by decide +kernel
theorem dX10_layCalm_25 : decode cX10_layCalm 25 = .ok (.imul, 1) := by decide +kernel
theorem dX10_layCalm_26 : decode cX10_layCalm 26 = .ok (.istore_n 3, 1) := by decide +kernel
theorem dX10_layCalm_27 : decode cX10_layCalm 27 = .ok (.iinc 5 1, 3) := by decide +kernel
theorem dX10_layCalm_30 : decode cX10_layCalm 30 = .ok (.goto (-17), 3) := by decide +kernel
theorem dX10_layCalm_33 : decode cX10_layCalm 33 = .ok (.iconst (-1), 1) := by decide +kernel
theorem dX10_layCalm_34 : decode cX10_layCalm 34 = .ok (.istore 5, 2) := by decide +kernel
theorem dX10_layCalm_36 : decode cX10_layCalm 36 = .ok (.iconst 0, 1) := by decide +kernel
theorem dX10_layCalm_37 : decode cX10_layCalm 37 = .ok (.istore 6, 2) := by decide +kernel
theorem dX10_layCalm_39 : decode cX10_layCalm 39 = .ok (.iload 6, 2) := by decide +kernel
theorem dX10_layCalm_41 : decode cX10_layCalm 41 = .ok (.iload_n 3, 1) := by decide +kernel
theorem dX10_layCalm_42 : decode cX10_layCalm 42 = .ok (.if_icmp .ge 177, 3) := by decide +kernel
theorem dX10_layCalm_45 : decode cX10_layCalm 45 = .ok (.iload 6, 2) := by decide +kernel
theorem dX10_layCalm_47 : decode cX10_layCalm 47 = .ok (.istore 7, 2) := by decide +kernel
theorem dX10_layCalm_49 : decode cX10_layCalm 49 = .ok (.iload_n 2, 1) := by decide +kernel
theorem dX10_layCalm_50 : decode cX10_layCalm 50 = .ok (.istore 8, 2) := by decide +kernel
theorem dX10_layCalm_52 : decode cX10_layCalm 52 = .ok (.iconst 0, 1) := by decide +kernel
theorem dX10_layCalm_53 : decode cX10_layCalm 53 = .ok (.istore 9, 2) := by decide +kernel
theorem dX10_layCalm_55 : decode cX10_layCalm 55 = .ok (.iconst 1, 1) := by decide +kernel
