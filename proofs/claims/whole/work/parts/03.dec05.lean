theorem dX10_layCalm_56 : decode cX10_layCalm 56 = .ok (.istore 10, 2) := by decide +kernel
theorem dX10_layCalm_58 : decode cX10_layCalm 58 = .ok (.aload_n 0, 1) := by decide +kernel
theorem dX10_layCalm_59 : decode cX10_layCalm 59 = .ok (.getfield 66, 3) := by decide +kernel
theorem dX10_layCalm_62 : decode cX10_layCalm 62 = .ok (.iconst 1, 1) := by decide +kernel
theorem dX10_layCalm_63 : decode cX10_layCalm 63 = .ok (.isub, 1) := by decide +kernel
theorem dX10_layCalm_64 : decode cX10_layCalm 64 = .ok (.istore 11, 2) := by decide +kernel
theorem dX10_layCalm_66 : decode cX10_layCalm 66 = .ok (.iload 11, 2) := by decide +kernel
theorem dX10_layCalm_68 : decode cX10_layCalm 68 = .ok (.ifCond .lt 114, 3) := by decide +kernel
theorem dX10_layCalm_71 : decode cX10_layCalm 71 = .ok (.iload 7, 2) := by decide +kernel
theorem dX10_layCalm_73 : decode cX10_layCalm 73 = .ok (.iload 4, 2) := by decide +kernel
theorem dX10_layCalm_75 : decode cX10_layCalm 75 = .ok (.irem, 1) := by decide +kernel
theorem dX10_layCalm_76 : decode cX10_layCalm 76 = .ok (.istore 12, 2) := by decide +kernel
theorem dX10_layCalm_78 : decode cX10_layCalm 78 = .ok (.iload 7, 2) := by decide +kernel
theorem dX10_layCalm_80 : decode cX10_layCalm 80 = .ok (.iload 4, 2) := by decide +kernel
theorem dX10_layCalm_82 : decode cX10_layCalm 82 = .ok (.idiv, 1) := by decide +kernel
theorem dX10_layCalm_83 : decode cX10_layCalm 83 = .ok (.istore 7, 2) := by decide +kernel
theorem dX10_layCalm_85 : decode cX10_layCalm 85 = .ok (.aload_n 0, 1) := by decide +kernel
theorem dX10_layCalm_86 : decode cX10_layCalm 86 = .ok (.getfield 54, 3) := by decide +kernel
theorem dX10_layCalm_89 : decode cX10_layCalm 89 = .ok (.iload 11, 2) := by decide +kernel
theorem dX10_layCalm_91 : decode cX10_layCalm 91 = .ok (.iload 12, 2) := by decide +kernel
theorem dX10_layCalm_93 : decode cX10_layCalm 93 = .ok (.aload_n 0, 1) := by decide +kernel
theorem dX10_layCalm_94 : decode cX10_layCalm 94 = .ok (.getfield 73, 3) := by decide +kernel
theorem dX10_layCalm_97 : decode cX10_layCalm 97 = .ok (.if_icmp .ne 7, 3) := by decide +kernel
theorem dX10_layCalm_100 : decode cX10_layCalm 100 = .ok (.iconst (-1), 1) := by decide +kernel
theorem dX10_layCalm_101 : decode cX10_layCalm 101 = .ok (.goto 5, 3) := by decide +kernel
theorem dX10_layCalm_104 : decode cX10_layCalm 104 = .ok (.iload 12, 2) := by decide +kernel
theorem dX10_layCalm_106 : decode cX10_layCalm 106 = .ok (.iastore, 1) := by decide +kernel
theorem dX10_layCalm_107 : decode cX10_layCalm 107 = .ok (.iload 12, 2) := by decide +kernel
theorem dX10_layCalm_109 : decode cX10_layCalm 109 = .ok (.aload_n 0, 1) := by decide +kernel
theorem dX10_layCalm_110 : decode cX10_layCalm 110 = .ok (.getfield 73, 3) := by decide +kernel
theorem dX10_layCalm_113 : decode cX10_layCalm 113 = .ok (.if_icmp .ge 63, 3) := by decide +kernel
theorem dX10_layCalm_116 : decode cX10_layCalm 116 = .ok (.iload 10, 2) := by decide +kernel
theorem dX10_layCalm_118 : decode cX10_layCalm 118 = .ok (.ifCond .eq 43, 3) := by decide +kernel
theorem dX10_layCalm_121 : decode cX10_layCalm 121 = .ok (.iload 8, 2) := by decide +kernel
theorem dX10_layCalm_123 : decode cX10_layCalm 123 = .ok (.iload 12, 2) := by decide +kernel
theorem dX10_layCalm_125 : decode cX10_layCalm 125 = .ok (.invokestatic 200, 3) := by decide +kernel
theorem dX10_layCalm_128 : decode cX10_layCalm 128 = .ok (.ifCond .ne 33, 3) := by decide +kernel
theorem dX10_layCalm_131 : decode cX10_layCalm 131 = .ok (.aload_n 0, 1) := by decide +kernel
theorem dX10_layCalm_132 : decode cX10_layCalm 132 = .ok (.iload 11, 2) := by decide +kernel
theorem dX10_layCalm_134 : decode cX10_layCalm 134 = .ok (.iload 12, 2) := by decide +kernel
theorem dX10_layCalm_136 : decode cX10_layCalm 136 = .ok (.invokevirtual 173, 3) := by decide +kernel
theorem dX10_layCalm_139 : decode cX10_layCalm 139 = .ok (.ifCond .eq 22, 3) := by decide +kernel
theorem dX10_layCalm_142 : decode cX10_layCalm 142 = .ok (.iload_n 1, 1) := by decide +kernel
theorem dX10_layCalm_143 : decode cX10_layCalm 143 = .ok (.ifCond .eq 14, 3) := by decide +kernel
theorem dX10_layCalm_146 : decode cX10_layCalm 146 = .ok (.aload_n 0, 1) := by decide +kernel
theorem dX10_layCalm_147 : decode cX10_layCalm 147 = .ok (.iload 11, 2) := by decide +kernel
theorem dX10_layCalm_149 : decode cX10_layCalm 149 = .ok (.iload 12, 2) := by decide +kernel
theorem dX10_layCalm_151 : decode cX10_layCalm 151 = .ok (.invokevirtual 239, 3) := by decide +kernel
theorem dX10_layCalm_154 : decode cX10_layCalm 154 = .ok (.ifCond .eq 7, 3) := by decide +kernel
theorem dX10_layCalm_157 : decode cX10_layCalm 157 = .ok (.iconst 1, 1) := by decide +kernel
theorem dX10_layCalm_158 : decode cX10_layCalm 158 = .ok (.goto 4, 3) := by decide +kernel
theorem dX10_layCalm_161 : decode cX10_layCalm 161 = .ok (.iconst 0, 1) := by decide +kernel
theorem dX10_layCalm_162 : decode cX10_layCalm 162 = .ok (.istore 10, 2) := by decide +kernel
theorem dX10_layCalm_164 : decode cX10_layCalm 164 = .ok (.iload 8, 2) := by decide +kernel
theorem dX10_layCalm_166 : decode cX10_layCalm 166 = .ok (.iconst 1, 1) := by decide +kernel
theorem dX10_layCalm_167 : decode cX10_layCalm 167 = .ok (.iload 12, 2) := by decide +kernel
theorem dX10_layCalm_169 : decode cX10_layCalm 169 = .ok (.ishl, 1) := by decide +kernel
theorem dX10_layCalm_170 : decode cX10_layCalm 170 = .ok (.ior, 1) := by decide +kernel
theorem dX10_layCalm_171 : decode cX10_layCalm 171 = .ok (.istore 8, 2) := by decide +kernel
theorem dX10_layCalm_173 : decode cX10_layCalm 173 = .ok (.iinc 9 1, 3) := by decide +kernel
theorem dX10_layCalm_176 : decode cX10_layCalm 176 = .ok (.iinc 11 (-1), 3) := by decide +kernel
theorem dX10_layCalm_179 : decode cX10_layCalm 179 = .ok (.goto (-113), 3) := by decide +kernel
theorem dX10_layCalm_182 : decode cX10_layCalm 182 = .ok (.iload 10, 2) := by decide +kernel
theorem dX10_layCalm_184 : decode cX10_layCalm 184 = .ok (.ifCond .eq 29, 3) := by decide +kernel
theorem dX10_layCalm_187 : decode cX10_layCalm 187 = .ok (.iload 9, 2) := by decide +kernel
theorem dX10_layCalm_189 : decode cX10_layCalm 189 = .ok (.iload 5, 2) := by decide +kernel
theorem dX10_layCalm_191 : decode cX10_layCalm 191 = .ok (.if_icmp .le 22, 3) := by decide +kernel
theorem dX10_layCalm_194 : decode cX10_layCalm 194 = .ok (.iload 9, 2) := by decide +kernel
theorem dX10_layCalm_196 : decode cX10_layCalm 196 = .ok (.istore 5, 2) := by decide +kernel
theorem dX10_layCalm_198 : decode cX10_layCalm 198 = .ok (.aload_n 0, 1) := by decide +kernel
theorem dX10_layCalm_199 : decode cX10_layCalm 199 = .ok (.getfield 54, 3) := by decide +kernel
theorem dX10_layCalm_202 : decode cX10_layCalm 202 = .ok (.iconst 0, 1) := by decide +kernel
theorem dX10_layCalm_203 : decode cX10_layCalm 203 = .ok (.aload_n 0, 1) := by decide +kernel
theorem dX10_layCalm_204 : decode cX10_layCalm 204 = .ok (.getfield 57, 3) := by decide +kernel
theorem dX10_layCalm_207 : decode cX10_layCalm 207 = .ok (.iconst 0, 1) := by decide +kernel
theorem dX10_layCalm_208 : decode cX10_layCalm 208 = .ok (.bipush 6, 2) := by decide +kernel
theorem dX10_layCalm_210 : decode cX10_layCalm 210 = .ok (.invokestatic 157, 3) := by decide +kernel
theorem dX10_layCalm_213 : decode cX10_layCalm 213 = .ok (.iinc 6 1, 3) := by decide +kernel
theorem dX10_layCalm_216 : decode cX10_layCalm 216 = .ok (.goto (-177), 3) := by decide +kernel
theorem dX10_layCalm_219 : decode cX10_layCalm 219 = .ok (.iload 5, 2) := by decide +kernel
theorem dX10_layCalm_221 : decode cX10_layCalm 221 = .ok (.ireturn, 1) := by decide +kernel
theorem dX10_mostCalm_0 : decode cX10_mostCalm 0 = .ok (.iload_n 2, 1) := by decide +kernel
theorem dX10_mostCalm_1 : decode cX10_mostCalm 1 = .ok (.iconst (-1), 1) := by decide +kernel
theorem dX10_mostCalm_2 : decode cX10_mostCalm 2 = .ok (.if_icmp .eq 14, 3) := by decide +kernel
theorem dX10_mostCalm_5 : decode cX10_mostCalm 5 = .ok (.aload_n 0, 1) := by decide +kernel
theorem dX10_mostCalm_6 : decode cX10_mostCalm 6 = .ok (.iload_n 2, 1) := by decide +kernel
theorem dX10_mostCalm_7 : decode cX10_mostCalm 7 = .ok (.invokevirtual 189, 3) := by decide +kernel
theorem dX10_mostCalm_10 : decode cX10_mostCalm 10 = .ok (.ifCond .ne 6, 3) := by decide +kernel
theorem dX10_mostCalm_13 : decode cX10_mostCalm 13 = .ok (.ldc 192, 2) := by decide +kernel
theorem dX10_mostCalm_15 : decode cX10_mostCalm 15 = .ok (.ireturn, 1) := by decide +kernel
theorem dX10_mostCalm_16 : decode cX10_mostCalm 16 = .ok (.aload_n 0, 1) := by decide +kernel
theorem dX10_mostCalm_17 : decode cX10_mostCalm 17 = .ok (.iload_n 1, 1) := by decide +kernel
theorem dX10_mostCalm_18 : decode cX10_mostCalm 18 = .ok (.iconst 0, 1) := by decide +kernel
theorem dX10_mostCalm_19 : decode cX10_mostCalm 19 = .ok (.invokevirtual 242, 3) := by decide +kernel
theorem dX10_mostCalm_22 : decode cX10_mostCalm 22 = .ok (.istore_n 3, 1) := by decide +kernel
theorem dX10_mostCalm_23 : decode cX10_mostCalm 23 = .ok (.iload_n 2, 1) := by decide +kernel
theorem dX10_mostCalm_24 : decode cX10_mostCalm 24 = .ok (.iconst (-1), 1) := by decide +kernel
theorem dX10_mostCalm_25 : decode cX10_mostCalm 25 = .ok (.if_icmp .ne 7, 3) := by decide +kernel
theorem dX10_mostCalm_28 : decode cX10_mostCalm 28 = .ok (.iload_n 3, 1) := by decide +kernel
theorem dX10_mostCalm_29 : decode cX10_mostCalm 29 = .ok (.goto 9, 3) := by decide +kernel
theorem dX10_mostCalm_32 : decode cX10_mostCalm 32 = .ok (.aload_n 0, 1) := by decide +kernel
theorem dX10_mostCalm_33 : decode cX10_mostCalm 33 = .ok (.getfield 57, 3) := by decide +kernel
theorem dX10_mostCalm_36 : decode cX10_mostCalm 36 = .ok (.iload_n 2, 1) := by decide +kernel
theorem dX10_mostCalm_37 : decode cX10_mostCalm 37 = .ok (.iaload, 1) := by decide +kernel
theorem dX10_mostCalm_38 : decode cX10_mostCalm 38 = .ok (.ireturn, 1) := by decide +kernel
theorem dX10_trades_0 : decode cX10_trades 0 = .ok (.iconst 0, 1) := by decide +kernel
theorem dX10_trades_1 : decode cX10_trades 1 = .ok (.istore_n 2, 1) := by decide +kernel
theorem dX10_trades_2 : decode cX10_trades 2 = .ok (.iconst 0, 1) := by decide +kernel
theorem dX10_trades_3 : decode cX10_trades 3 = .ok (.istore_n 3, 1) := by decide +kernel
theorem dX10_trades_4 : decode cX10_trades 4 = .ok (.iload_n 3, 1) := by decide +kernel
theorem dX10_trades_5 : decode cX10_trades 5 = .ok (.aload_n 0, 1) := by decide +kernel
theorem dX10_trades_6 : decode cX10_trades 6 = .ok (.getfield 66, 3) := by decide +kernel
theorem dX10_trades_9 : decode cX10_trades 9 = .ok (.if_icmp .ge 149, 3) := by decide +kernel
theorem dX10_trades_12 : decode cX10_trades 12 = .ok (.iload_n 3, 1) := by decide +kernel
theorem dX10_trades_13 : decode cX10_trades 13 = .ok (.iconst 1, 1) := by decide +kernel
theorem dX10_trades_14 : decode cX10_trades 14 = .ok (.iadd, 1) := by decide +kernel
theorem dX10_trades_15 : decode cX10_trades 15 = .ok (.istore 4, 2) := by decide +kernel
theorem dX10_trades_17 : decode cX10_trades 17 = .ok (.iload 4, 2) := by decide +kernel
theorem dX10_trades_19 : decode cX10_trades 19 = .ok (.aload_n 0, 1) := by decide +kernel
theorem dX10_trades_20 : decode cX10_trades 20 = .ok (.getfield 66, 3) := by decide +kernel
theorem dX10_trades_23 : decode cX10_trades 23 = .ok (.if_icmp .ge 129, 3) := by decide +kernel
theorem dX10_trades_26 : decode cX10_trades 26 = .ok (.aload_n 0, 1) := by decide +kernel
theorem dX10_trades_27 : decode cX10_trades 27 = .ok (.getfield 32, 3) := by decide +kernel
theorem dX10_trades_30 : decode cX10_trades 30 = .ok (.iconst 1, 1) := by decide +kernel
theorem dX10_trades_31 : decode cX10_trades 31 = .ok (.iload_n 3, 1) := by decide +kernel
theorem dX10_trades_32 : decode cX10_trades 32 = .ok (.iadd, 1) := by decide +kernel
theorem dX10_trades_33 : decode cX10_trades 33 = .ok (.iaload, 1) := by decide +kernel
theorem dX10_trades_34 : decode cX10_trades 34 = .ok (.istore 5, 2) := by decide +kernel
theorem dX10_trades_36 : decode cX10_trades 36 = .ok (.aload_n 0, 1) := by decide +kernel
theorem dX10_trades_37 : decode cX10_trades 37 = .ok (.getfield 32, 3) := by decide +kernel
theorem dX10_trades_40 : decode cX10_trades 40 = .ok (.iconst 1, 1) := by decide +kernel
theorem dX10_trades_41 : decode cX10_trades 41 = .ok (.iload 4, 2) := by decide +kernel
theorem dX10_trades_43 : decode cX10_trades 43 = .ok (.iadd, 1) := by decide +kernel
theorem dX10_trades_44 : decode cX10_trades 44 = .ok (.iaload, 1) := by decide +kernel
theorem dX10_trades_45 : decode cX10_trades 45 = .ok (.istore 6, 2) := by decide +kernel
theorem dX10_trades_47 : decode cX10_trades 47 = .ok (.iload 5, 2) := by decide +kernel
theorem dX10_trades_49 : decode cX10_trades 49 = .ok (.iconst (-1), 1) := by decide +kernel
theorem dX10_trades_50 : decode cX10_trades 50 = .ok (.if_icmp .eq 96, 3) := by decide +kernel
theorem dX10_trades_53 : decode cX10_trades 53 = .ok (.iload 6, 2) := by decide +kernel
theorem dX10_trades_55 : decode cX10_trades 55 = .ok (.iconst (-1), 1) := by decide +kernel
theorem dX10_trades_56 : decode cX10_trades 56 = .ok (.if_icmp .eq 90, 3) := by decide +kernel
theorem dX10_trades_59 : decode cX10_trades 59 = .ok (.aload_n 0, 1) := by decide +kernel
theorem dX10_trades_60 : decode cX10_trades 60 = .ok (.iload_n 3, 1) := by decide +kernel
theorem dX10_trades_61 : decode cX10_trades 61 = .ok (.invokevirtual 176, 3) := by decide +kernel
theorem dX10_trades_64 : decode cX10_trades 64 = .ok (.ifCond .eq 7, 3) := by decide +kernel
theorem dX10_trades_67 : decode cX10_trades 67 = .ok (.iconst 1, 1) := by decide +kernel
theorem dX10_trades_68 : decode cX10_trades 68 = .ok (.goto 4, 3) := by decide +kernel
theorem dX10_trades_71 : decode cX10_trades 71 = .ok (.iconst 0, 1) := by decide +kernel
theorem dX10_trades_72 : decode cX10_trades 72 = .ok (.aload_n 0, 1) := by decide +kernel
theorem dX10_trades_73 : decode cX10_trades 73 = .ok (.iload 4, 2) := by decide +kernel
theorem dX10_trades_75 : decode cX10_trades 75 = .ok (.invokevirtual 176, 3) := by decide +kernel
theorem dX10_trades_78 : decode cX10_trades 78 = .ok (.ifCond .eq 7, 3) := by decide +kernel
theorem dX10_trades_81 : decode cX10_trades 81 = .ok (.iconst 1, 1) := by decide +kernel
theorem dX10_trades_82 : decode cX10_trades 82 = .ok (.goto 4, 3) := by decide +kernel
theorem dX10_trades_85 : decode cX10_trades 85 = .ok (.iconst 0, 1) := by decide +kernel
theorem dX10_trades_86 : decode cX10_trades 86 = .ok (.iadd, 1) := by decide +kernel
theorem dX10_trades_87 : decode cX10_trades 87 = .ok (.istore 7, 2) := by decide +kernel
theorem dX10_trades_89 : decode cX10_trades 89 = .ok (.aload_n 0, 1) := by decide +kernel
theorem dX10_trades_90 : decode cX10_trades 90 = .ok (.iload_n 3, 1) := by decide +kernel
theorem dX10_trades_91 : decode cX10_trades 91 = .ok (.iload 6, 2) := by decide +kernel
theorem dX10_trades_93 : decode cX10_trades 93 = .ok (.invokevirtual 173, 3) := by decide +kernel
theorem dX10_trades_96 : decode cX10_trades 96 = .ok (.ifCond .eq 7, 3) := by decide +kernel
theorem dX10_trades_99 : decode cX10_trades 99 = .ok (.iconst 1, 1) := by decide +kernel
theorem dX10_trades_100 : decode cX10_trades 100 = .ok (.goto 4, 3) := by decide +kernel
theorem dX10_trades_103 : decode cX10_trades 103 = .ok (.iconst 0, 1) := by decide +kernel
theorem dX10_trades_104 : decode cX10_trades 104 = .ok (.aload_n 0, 1) := by decide +kernel
theorem dX10_trades_105 : decode cX10_trades 105 = .ok (.iload 4, 2) := by decide +kernel
theorem dX10_trades_107 : decode cX10_trades 107 = .ok (.iload 5, 2) := by decide +kernel
theorem dX10_trades_109 : decode cX10_trades 109 = .ok (.invokevirtual 173, 3) := by decide +kernel
theorem dX10_trades_112 : decode cX10_trades 112 = .ok (.ifCond .eq 7, 3) := by decide +kernel
theorem dX10_trades_115 : decode cX10_trades 115 = .ok (.iconst 1, 1) := by decide +kernel
theorem dX10_trades_116 : decode cX10_trades 116 = .ok (.goto 4, 3) := by decide +kernel
theorem dX10_trades_119 : decode cX10_trades 119 = .ok (.iconst 0, 1) := by decide +kernel
theorem dX10_trades_120 : decode cX10_trades 120 = .ok (.iadd, 1) := by decide +kernel
theorem dX10_trades_121 : decode cX10_trades 121 = .ok (.istore 8, 2) := by decide +kernel
theorem dX10_trades_123 : decode cX10_trades 123 = .ok (.iload 8, 2) := by decide +kernel
theorem dX10_trades_125 : decode cX10_trades 125 = .ok (.iload 7, 2) := by decide +kernel
theorem dX10_trades_127 : decode cX10_trades 127 = .ok (.if_icmp .le 19, 3) := by decide +kernel
theorem dX10_trades_130 : decode cX10_trades 130 = .ok (.iload_n 2, 1) := by decide +kernel
theorem dX10_trades_131 : decode cX10_trades 131 = .ok (.iload_n 1, 1) := by decide +kernel
theorem dX10_trades_132 : decode cX10_trades 132 = .ok (.if_icmp .ne 11, 3) := by decide +kernel
theorem dX10_trades_135 : decode cX10_trades 135 = .ok (.bipush 10, 2) := by decide +kernel
theorem dX10_trades_137 : decode cX10_trades 137 = .ok (.iload_n 3, 1) := by decide +kernel
theorem dX10_trades_138 : decode cX10_trades 138 = .ok (.imul, 1) := by decide +kernel
theorem dX10_trades_139 : decode cX10_trades 139 = .ok (.iload 4, 2) := by decide +kernel
theorem dX10_trades_141 : decode cX10_trades 141 = .ok (.iadd, 1) := by decide +kernel
theorem dX10_trades_142 : decode cX10_trades 142 = .ok (.ireturn, 1) := by decide +kernel
theorem dX10_trades_143 : decode cX10_trades 143 = .ok (.iinc 2 1, 3) := by decide +kernel
theorem dX10_trades_146 : decode cX10_trades 146 = .ok (.iinc 4 1, 3) := by decide +kernel
theorem dX10_trades_149 : decode cX10_trades 149 = .ok (.goto (-132), 3) := by decide +kernel
theorem dX10_trades_152 : decode cX10_trades 152 = .ok (.iinc 3 1, 3) := by decide +kernel
theorem dX10_trades_155 : decode cX10_trades 155 = .ok (.goto (-151), 3) := by decide +kernel
theorem dX10_trades_158 : decode cX10_trades 158 = .ok (.iload_n 1, 1) := by decide +kernel
theorem dX10_trades_159 : decode cX10_trades 159 = .ok (.iconst (-1), 1) := by decide +kernel
theorem dX10_trades_160 : decode cX10_trades 160 = .ok (.if_icmp .ne 7, 3) := by decide +kernel
theorem dX10_trades_163 : decode cX10_trades 163 = .ok (.iload_n 2, 1) := by decide +kernel
theorem dX10_trades_164 : decode cX10_trades 164 = .ok (.goto 4, 3) := by decide +kernel
theorem dX10_trades_167 : decode cX10_trades 167 = .ok (.iconst (-1), 1) := by decide +kernel
theorem dX10_trades_168 : decode cX10_trades 168 = .ok (.ireturn, 1) := by decide +kernel
theorem dX10_wants_0 : decode cX10_wants 0 = .ok (.aload_n 0, 1) := by decide +kernel
theorem dX10_wants_1 : decode cX10_wants 1 = .ok (.iload_n 1, 1) := by decide +kernel
theorem dX10_wants_2 : decode cX10_wants 2 = .ok (.invokevirtual 189, 3) := by decide +kernel
theorem dX10_wants_5 : decode cX10_wants 5 = .ok (.ifCond .ne 6, 3) := by decide +kernel
theorem dX10_wants_8 : decode cX10_wants 8 = .ok (.ldc 192, 2) := by decide +kernel
theorem dX10_wants_10 : decode cX10_wants 10 = .ok (.ireturn, 1) := by decide +kernel
theorem dX10_wants_11 : decode cX10_wants 11 = .ok (.iconst 0, 1) := by decide +kernel
theorem dX10_wants_12 : decode cX10_wants 12 = .ok (.istore_n 2, 1) := by decide +kernel
theorem dX10_wants_13 : decode cX10_wants 13 = .ok (.iconst 0, 1) := by decide +kernel
theorem dX10_wants_14 : decode cX10_wants 14 = .ok (.istore_n 3, 1) := by decide +kernel
theorem dX10_wants_15 : decode cX10_wants 15 = .ok (.iload_n 3, 1) := by decide +kernel
theorem dX10_wants_16 : decode cX10_wants 16 = .ok (.aload_n 0, 1) := by decide +kernel
theorem dX10_wants_17 : decode cX10_wants 17 = .ok (.getfield 73, 3) := by decide +kernel
theorem dX10_wants_20 : decode cX10_wants 20 = .ok (.if_icmp .ge 26, 3) := by decide +kernel
theorem dX10_wants_23 : decode cX10_wants 23 = .ok (.iload_n 2, 1) := by decide +kernel
theorem dX10_wants_24 : decode cX10_wants 24 = .ok (.aload_n 0, 1) := by decide +kernel
theorem dX10_wants_25 : decode cX10_wants 25 = .ok (.iload_n 1, 1) := by decide +kernel
theorem dX10_wants_26 : decode cX10_wants 26 = .ok (.iload_n 3, 1) := by decide +kernel
theorem dX10_wants_27 : decode cX10_wants 27 = .ok (.invokevirtual 173, 3) := by decide +kernel
theorem dX10_wants_30 : decode cX10_wants 30 = .ok (.ifCond .eq 7, 3) := by decide +kernel
theorem dX10_wants_33 : decode cX10_wants 33 = .ok (.iconst 1, 1) := by decide +kernel
theorem dX10_wants_34 : decode cX10_wants 34 = .ok (.goto 4, 3) := by decide +kernel
theorem dX10_wants_37 : decode cX10_wants 37 = .ok (.iconst 0, 1) := by decide +kernel
theorem dX10_wants_38 : decode cX10_wants 38 = .ok (.iadd, 1) := by decide +kernel
theorem dX10_wants_39 : decode cX10_wants 39 = .ok (.istore_n 2, 1) := by decide +kernel
theorem dX10_wants_40 : decode cX10_wants 40 = .ok (.iinc 3 1, 3) := by decide +kernel
theorem dX10_wants_43 : decode cX10_wants 43 = .ok (.goto (-28), 3) := by decide +kernel
theorem dX10_wants_46 : decode cX10_wants 46 = .ok (.iload_n 2, 1) := by decide +kernel
theorem dX10_wants_47 : decode cX10_wants 47 = .ok (.ireturn, 1) := by decide +kernel
theorem dX10_wanted_0 : decode cX10_wanted 0 = .ok (.aload_n 0, 1) := by decide +kernel
theorem dX10_wanted_1 : decode cX10_wanted 1 = .ok (.iload_n 1, 1) := by decide +kernel
theorem dX10_wanted_2 : decode cX10_wanted 2 = .ok (.invokevirtual 193, 3) := by decide +kernel
theorem dX10_wanted_5 : decode cX10_wanted 5 = .ok (.ifCond .ne 6, 3) := by decide +kernel
theorem dX10_wanted_8 : decode cX10_wanted 8 = .ok (.ldc 192, 2) := by decide +kernel
theorem dX10_wanted_10 : decode cX10_wanted 10 = .ok (.ireturn, 1) := by decide +kernel
theorem dX10_wanted_11 : decode cX10_wanted 11 = .ok (.iconst 0, 1) := by decide +kernel
theorem dX10_wanted_12 : decode cX10_wanted 12 = .ok (.istore_n 2, 1) := by decide +kernel
theorem dX10_wanted_13 : decode cX10_wanted 13 = .ok (.iconst 0, 1) := by decide +kernel
theorem dX10_wanted_14 : decode cX10_wanted 14 = .ok (.istore_n 3, 1) := by decide +kernel
theorem dX10_wanted_15 : decode cX10_wanted 15 = .ok (.iload_n 3, 1) := by decide +kernel
theorem dX10_wanted_16 : decode cX10_wanted 16 = .ok (.aload_n 0, 1) := by decide +kernel
theorem dX10_wanted_17 : decode cX10_wanted 17 = .ok (.getfield 66, 3) := by decide +kernel
theorem dX10_wanted_20 : decode cX10_wanted 20 = .ok (.if_icmp .ge 26, 3) := by decide +kernel
theorem dX10_wanted_23 : decode cX10_wanted 23 = .ok (.iload_n 2, 1) := by decide +kernel
theorem dX10_wanted_24 : decode cX10_wanted 24 = .ok (.aload_n 0, 1) := by decide +kernel
theorem dX10_wanted_25 : decode cX10_wanted 25 = .ok (.iload_n 3, 1) := by decide +kernel
theorem dX10_wanted_26 : decode cX10_wanted 26 = .ok (.iload_n 1, 1) := by decide +kernel
theorem dX10_wanted_27 : decode cX10_wanted 27 = .ok (.invokevirtual 173, 3) := by decide +kernel
theorem dX10_wanted_30 : decode cX10_wanted 30 = .ok (.ifCond .eq 7, 3) := by decide +kernel
theorem dX10_wanted_33 : decode cX10_wanted 33 = .ok (.iconst 1, 1) := by decide +kernel
theorem dX10_wanted_34 : decode cX10_wanted 34 = .ok (.goto 4, 3) := by decide +kernel
theorem dX10_wanted_37 : decode cX10_wanted 37 = .ok (.iconst 0, 1) := by decide +kernel
theorem dX10_wanted_38 : decode cX10_wanted 38 = .ok (.iadd, 1) := by decide +kernel
theorem dX10_wanted_39 : decode cX10_wanted 39 = .ok (.istore_n 2, 1) := by decide +kernel
theorem dX10_wanted_40 : decode cX10_wanted 40 = .ok (.iinc 3 1, 3) := by decide +kernel
theorem dX10_wanted_43 : decode cX10_wanted 43 = .ok (.goto (-28), 3) := by decide +kernel
theorem dX10_wanted_46 : decode cX10_wanted 46 = .ok (.iload_n 2, 1) := by decide +kernel
theorem dX10_wanted_47 : decode cX10_wanted 47 = .ok (.ireturn, 1) := by decide +kernel
theorem dX10_lost_0 : decode cX10_lost 0 = .ok (.iload_n 1, 1) := by decide +kernel
theorem dX10_lost_1 : decode cX10_lost 1 = .ok (.iconst 1, 1) := by decide +kernel
theorem dX10_lost_2 : decode cX10_lost 2 = .ok (.bipush 20, 2) := by decide +kernel
theorem dX10_lost_4 : decode cX10_lost 4 = .ok (.invokestatic 69, 3) := by decide +kernel
theorem dX10_lost_7 : decode cX10_lost 7 = .ok (.ifCond .eq 23, 3) := by decide +kernel
theorem dX10_lost_10 : decode cX10_lost 10 = .ok (.iload_n 2, 1) := by decide +kernel
theorem dX10_lost_11 : decode cX10_lost 11 = .ok (.iconst 0, 1) := by decide +kernel
theorem dX10_lost_12 : decode cX10_lost 12 = .ok (.bipush 100, 2) := by decide +kernel
theorem dX10_lost_14 : decode cX10_lost 14 = .ok (.invokestatic 69, 3) := by decide +kernel
theorem dX10_lost_17 : decode cX10_lost 17 = .ok (.ifCond .eq 13, 3) := by decide +kernel
theorem dX10_lost_20 : decode cX10_lost 20 = .ok (.iload_n 3, 1) := by decide +kernel
theorem dX10_lost_21 : decode cX10_lost 21 = .ok (.iconst 0, 1) := by decide +kernel
theorem dX10_lost_22 : decode cX10_lost 22 = .ok (.bipush 60, 2) := by decide +kernel
theorem dX10_lost_24 : decode cX10_lost 24 = .ok (.invokestatic 69, 3) := by decide +kernel
theorem dX10_lost_27 : decode cX10_lost 27 = .ok (.ifCond .ne 6, 3) := by decide +kernel
theorem dX10_lost_30 : decode cX10_lost 30 = .ok (.ldc 76, 2) := by decide +kernel
theorem dX10_lost_32 : decode cX10_lost 32 = .ok (.ireturn, 1) := by decide +kernel
theorem dX10_lost_33 : decode cX10_lost 33 = .ok (.aload_n 0, 1) := by decide +kernel
theorem dX10_lost_34 : decode cX10_lost 34 = .ok (.getfield 32, 3) := by decide +kernel
theorem dX10_lost_37 : decode cX10_lost 37 = .ok (.bipush 19, 2) := by decide +kernel
theorem dX10_lost_39 : decode cX10_lost 39 = .ok (.iaload, 1) := by decide +kernel
theorem dX10_lost_40 : decode cX10_lost 40 = .ok (.ifCond .ne 6, 3) := by decide +kernel
theorem dX10_lost_43 : decode cX10_lost 43 = .ok (.ldc 203, 2) := by decide +kernel
theorem dX10_lost_45 : decode cX10_lost 45 = .ok (.ireturn, 1) := by decide +kernel
theorem dX10_lost_46 : decode cX10_lost 46 = .ok (.iconst 0, 1) := by decide +kernel
theorem dX10_lost_47 : decode cX10_lost 47 = .ok (.istore 4, 2) := by decide +kernel
theorem dX10_lost_49 : decode cX10_lost 49 = .ok (.iload 4, 2) := by decide +kernel
theorem dX10_lost_51 : decode cX10_lost 51 = .ok (.iload_n 1, 1) := by decide +kernel
theorem dX10_lost_52 : decode cX10_lost 52 = .ok (.if_icmp .ge 23, 3) := by decide +kernel
theorem dX10_lost_55 : decode cX10_lost 55 = .ok (.aload_n 0, 1) := by decide +kernel
theorem dX10_lost_56 : decode cX10_lost 56 = .ok (.getfield 60, 3) := by decide +kernel
theorem dX10_lost_59 : decode cX10_lost 59 = .ok (.iload 4, 2) := by decide +kernel
theorem dX10_lost_61 : decode cX10_lost 61 = .ok (.ldc2_w 246, 3) := by decide +kernel
theorem dX10_lost_64 : decode cX10_lost 64 = .ok (.iload_n 1, 1) := by decide +kernel
theorem dX10_lost_65 : decode cX10_lost 65 = .ok (.i2l, 1) := by decide +kernel
theorem dX10_lost_66 : decode cX10_lost 66 = .ok (.ldiv, 1) := by decide +kernel
theorem dX10_lost_67 : decode cX10_lost 67 = .ok (.l2i, 1) := by decide +kernel
theorem dX10_lost_68 : decode cX10_lost 68 = .ok (.iastore, 1) := by decide +kernel
theorem dX10_lost_69 : decode cX10_lost 69 = .ok (.iinc 4 1, 3) := by decide +kernel
theorem dX10_lost_72 : decode cX10_lost 72 = .ok (.goto (-23), 3) := by decide +kernel
theorem dX10_lost_75 : decode cX10_lost 75 = .ok (.iconst 0, 1) := by decide +kernel
theorem dX10_lost_76 : decode cX10_lost 76 = .ok (.istore 4, 2) := by decide +kernel
theorem dX10_lost_78 : decode cX10_lost 78 = .ok (.iconst 0, 1) := by decide +kernel
theorem dX10_lost_79 : decode cX10_lost 79 = .ok (.istore 5, 2) := by decide +kernel
theorem dX10_lost_81 : decode cX10_lost 81 = .ok (.iload 5, 2) := by decide +kernel
theorem dX10_lost_83 : decode cX10_lost 83 = .ok (.iload_n 3, 1) := by decide +kernel
theorem dX10_lost_84 : decode cX10_lost 84 = .ok (.if_icmp .ge 50, 3) := by decide +kernel
theorem dX10_lost_87 : decode cX10_lost 87 = .ok (.aload_n 0, 1) := by decide +kernel
theorem dX10_lost_88 : decode cX10_lost 88 = .ok (.getfield 60, 3) := by decide +kernel
theorem dX10_lost_91 : decode cX10_lost 91 = .ok (.iload 5, 2) := by decide +kernel
theorem dX10_lost_93 : decode cX10_lost 93 = .ok (.iload_n 1, 1) := by decide +kernel
theorem dX10_lost_94 : decode cX10_lost 94 = .ok (.irem, 1) := by decide +kernel
theorem dX10_lost_95 : decode cX10_lost 95 = .ok (.iaload, 1) := by decide +kernel
theorem dX10_lost_96 : decode cX10_lost 96 = .ok (.i2l, 1) := by decide +kernel
theorem dX10_lost_97 : decode cX10_lost 97 = .ok (.iload_n 2, 1) := by decide +kernel
theorem dX10_lost_98 : decode cX10_lost 98 = .ok (.i2l, 1) := by decide +kernel
theorem dX10_lost_99 : decode cX10_lost 99 = .ok (.lmul, 1) := by decide +kernel
theorem dX10_lost_100 : decode cX10_lost 100 = .ok (.ldc2_w 248, 3) := by decide +kernel
theorem dX10_lost_103 : decode cX10_lost 103 = .ok (.ldiv, 1) := by decide +kernel
theorem dX10_lost_104 : decode cX10_lost 104 = .ok (.l2i, 1) := by decide +kernel
theorem dX10_lost_105 : decode cX10_lost 105 = .ok (.istore 6, 2) := by decide +kernel
theorem dX10_lost_107 : decode cX10_lost 107 = .ok (.aload_n 0, 1) := by decide +kernel
theorem dX10_lost_108 : decode cX10_lost 108 = .ok (.getfield 60, 3) := by decide +kernel
theorem dX10_lost_111 : decode cX10_lost 111 = .ok (.iload 5, 2) := by decide +kernel
theorem dX10_lost_113 : decode cX10_lost 113 = .ok (.iload_n 1, 1) := by decide +kernel
theorem dX10_lost_114 : decode cX10_lost 114 = .ok (.irem, 1) := by decide +kernel
theorem dX10_lost_115 : decode cX10_lost 115 = .ok (.dup2, 1) := by decide +kernel
theorem dX10_lost_116 : decode cX10_lost 116 = .ok (.iaload, 1) := by decide +kernel
theorem dX10_lost_117 : decode cX10_lost 117 = .ok (.iload 6, 2) := by decide +kernel
theorem dX10_lost_119 : decode cX10_lost 119 = .ok (.isub, 1) := by decide +kernel
theorem dX10_lost_120 : decode cX10_lost 120 = .ok (.iastore, 1) := by decide +kernel
theorem dX10_lost_121 : decode cX10_lost 121 = .ok (.iload 4, 2) := by decide +kernel
theorem dX10_lost_123 : decode cX10_lost 123 = .ok (.iload 6, 2) := by decide +kernel
theorem dX10_lost_125 : decode cX10_lost 125 = .ok (.iadd, 1) := by decide +kernel
theorem dX10_lost_126 : decode cX10_lost 126 = .ok (.istore 4, 2) := by decide +kernel
theorem dX10_lost_128 : decode cX10_lost 128 = .ok (.iinc 5 1, 3) := by decide +kernel
theorem dX10_lost_131 : decode cX10_lost 131 = .ok (.goto (-50), 3) := by decide +kernel
theorem dX10_lost_134 : decode cX10_lost 134 = .ok (.iload 4, 2) := by decide +kernel
theorem dX10_lost_136 : decode cX10_lost 136 = .ok (.ireturn, 1) := by decide +kernel
theorem dX10_spares_0 : decode cX10_spares 0 = .ok (.aload_n 0, 1) := by decide +kernel
theorem dX10_spares_1 : decode cX10_spares 1 = .ok (.iload_n 1, 1) := by decide +kernel
theorem dX10_spares_2 : decode cX10_spares 2 = .ok (.invokevirtual 193, 3) := by decide +kernel
theorem dX10_spares_5 : decode cX10_spares 5 = .ok (.ifCond .eq 21, 3) := by decide +kernel
theorem dX10_spares_8 : decode cX10_spares 8 = .ok (.aload_n 0, 1) := by decide +kernel
theorem dX10_spares_9 : decode cX10_spares 9 = .ok (.iconst 0, 1) := by decide +kernel
theorem dX10_spares_10 : decode cX10_spares 10 = .ok (.iconst 0, 1) := by decide +kernel
theorem dX10_spares_11 : decode cX10_spares 11 = .ok (.invokevirtual 242, 3) := by decide +kernel
theorem dX10_spares_14 : decode cX10_spares 14 = .ok (.aload_n 0, 1) := by decide +kernel
theorem dX10_spares_15 : decode cX10_spares 15 = .ok (.iconst 0, 1) := by decide +kernel
theorem dX10_spares_16 : decode cX10_spares 16 = .ok (.iconst 1, 1) := by decide +kernel
theorem dX10_spares_17 : decode cX10_spares 17 = .ok (.iload_n 1, 1) := by decide +kernel
theorem dX10_spares_18 : decode cX10_spares 18 = .ok (.ishl, 1) := by decide +kernel
theorem dX10_spares_19 : decode cX10_spares 19 = .ok (.invokevirtual 242, 3) := by decide +kernel
theorem dX10_spares_22 : decode cX10_spares 22 = .ok (.isub, 1) := by decide +kernel
theorem dX10_spares_23 : decode cX10_spares 23 = .ok (.goto 5, 3) := by decide +kernel
theorem dX10_spares_26 : decode cX10_spares 26 = .ok (.ldc 192, 2) := by decide +kernel
theorem dX10_spares_28 : decode cX10_spares 28 = .ok (.ireturn, 1) := by decide +kernel
theorem dX10_off_0 : decode cX10_off 0 = .ok (.aload_n 0, 1) := by decide +kernel
theorem dX10_off_1 : decode cX10_off 1 = .ok (.iload_n 1, 1) := by decide +kernel
theorem dX10_off_2 : decode cX10_off 2 = .ok (.invokevirtual 189, 3) := by decide +kernel
theorem dX10_off_5 : decode cX10_off 5 = .ok (.ifCond .eq 37, 3) := by decide +kernel
theorem dX10_off_8 : decode cX10_off 8 = .ok (.bipush 100, 2) := by decide +kernel
theorem dX10_off_10 : decode cX10_off 10 = .ok (.aload_n 0, 1) := by decide +kernel
theorem dX10_off_11 : decode cX10_off 11 = .ok (.getfield 23, 3) := by decide +kernel
theorem dX10_off_14 : decode cX10_off 14 = .ok (.iconst 2, 1) := by decide +kernel
theorem dX10_off_15 : decode cX10_off 15 = .ok (.iload_n 1, 1) := by decide +kernel
theorem dX10_off_16 : decode cX10_off 16 = .ok (.imul, 1) := by decide +kernel
theorem dX10_off_17 : decode cX10_off 17 = .ok (.iconst 1, 1) := by decide +kernel
theorem dX10_off_18 : decode cX10_off 18 = .ok (.iadd, 1) := by decide +kernel
theorem dX10_off_19 : decode cX10_off 19 = .ok (.iaload, 1) := by decide +kernel
theorem dX10_off_20 : decode cX10_off 20 = .ok (.isub, 1) := by decide +kernel
theorem dX10_off_21 : decode cX10_off 21 = .ok (.aload_n 0, 1) := by decide +kernel
theorem dX10_off_22 : decode cX10_off 22 = .ok (.getfield 23, 3) := by decide +kernel
theorem dX10_off_25 : decode cX10_off 25 = .ok (.iconst 2, 1) := by decide +kernel
theorem dX10_off_26 : decode cX10_off 26 = .ok (.iload_n 1, 1) := by decide +kernel
theorem dX10_off_27 : decode cX10_off 27 = .ok (.imul, 1) := by decide +kernel
theorem dX10_off_28 : decode cX10_off 28 = .ok (.iaload, 1) := by decide +kernel
theorem dX10_off_29 : decode cX10_off 29 = .ok (.iconst 3, 1) := by decide +kernel
theorem dX10_off_30 : decode cX10_off 30 = .ok (.if_icmp .ne 7, 3) := by decide +kernel
theorem dX10_off_33 : decode cX10_off 33 = .ok (.iconst 2, 1) := by decide +kernel
theorem dX10_off_34 : decode cX10_off 34 = .ok (.goto 4, 3) := by decide +kernel
theorem dX10_off_37 : decode cX10_off 37 = .ok (.iconst 1, 1) := by decide +kernel
theorem dX10_off_38 : decode cX10_off 38 = .ok (.imul, 1) := by decide +kernel
theorem dX10_off_39 : decode cX10_off 39 = .ok (.goto 5, 3) := by decide +kernel
theorem dX10_off_42 : decode cX10_off 42 = .ok (.ldc 192, 2) := by decide +kernel
theorem dX10_off_44 : decode cX10_off 44 = .ok (.ireturn, 1) := by decide +kernel
theorem dX10_quiet_0 : decode cX10_quiet 0 = .ok (.iload_n 1, 1) := by decide +kernel
theorem dX10_quiet_1 : decode cX10_quiet 1 = .ok (.iconst 0, 1) := by decide +kernel
theorem dX10_quiet_2 : decode cX10_quiet 2 = .ok (.bipush 60, 2) := by decide +kernel
theorem dX10_quiet_4 : decode cX10_quiet 4 = .ok (.invokestatic 69, 3) := by decide +kernel
theorem dX10_quiet_7 : decode cX10_quiet 7 = .ok (.ifCond .ne 6, 3) := by decide +kernel
theorem dX10_quiet_10 : decode cX10_quiet 10 = .ok (.ldc 76, 2) := by decide +kernel
theorem dX10_quiet_12 : decode cX10_quiet 12 = .ok (.ireturn, 1) := by decide +kernel
theorem dX10_quiet_13 : decode cX10_quiet 13 = .ok (.ldc2_w 246, 3) := by decide +kernel
theorem dX10_quiet_16 : decode cX10_quiet 16 = .ok (.lstore_n 2, 1) := by decide +kernel
theorem dX10_quiet_17 : decode cX10_quiet 17 = .ok (.iconst 0, 1) := by decide +kernel
theorem dX10_quiet_18 : decode cX10_quiet 18 = .ok (.istore 4, 2) := by decide +kernel
theorem dX10_quiet_20 : decode cX10_quiet 20 = .ok (.iload 4, 2) := by decide +kernel
theorem dX10_quiet_22 : decode cX10_quiet 22 = .ok (.iload_n 1, 1) := by decide +kernel
theorem dX10_quiet_23 : decode cX10_quiet 23 = .ok (.if_icmp .ge 24, 3) := by decide +kernel
theorem dX10_quiet_26 : decode cX10_quiet 26 = .ok (.lload_n 2, 1) := by decide +kernel
theorem dX10_quiet_27 : decode cX10_quiet 27 = .ok (.bipush 100, 2) := by decide +kernel
theorem dX10_quiet_29 : decode cX10_quiet 29 = .ok (.aload_n 0, 1) := by decide +kernel
theorem dX10_quiet_30 : decode cX10_quiet 30 = .ok (.getfield 154, 3) := by decide +kernel
theorem dX10_quiet_33 : decode cX10_quiet 33 = .ok (.isub, 1) := by decide +kernel
theorem dX10_quiet_34 : decode cX10_quiet 34 = .ok (.i2l, 1) := by decide +kernel
theorem dX10_quiet_35 : decode cX10_quiet 35 = .ok (.lmul, 1) := by decide +kernel
theorem dX10_quiet_36 : decode cX10_quiet 36 = .ok (.ldc2_w 248, 3) := by decide +kernel
theorem dX10_quiet_39 : decode cX10_quiet 39 = .ok (.ldiv, 1) := by decide +kernel
theorem dX10_quiet_40 : decode cX10_quiet 40 = .ok (.lstore_n 2, 1) := by decide +kernel
theorem dX10_quiet_41 : decode cX10_quiet 41 = .ok (.iinc 4 1, 3) := by decide +kernel
theorem dX10_quiet_44 : decode cX10_quiet 44 = .ok (.goto (-24), 3) := by decide +kernel
theorem dX10_quiet_47 : decode cX10_quiet 47 = .ok (.lload_n 2, 1) := by decide +kernel
theorem dX10_quiet_48 : decode cX10_quiet 48 = .ok (.l2i, 1) := by decide +kernel
theorem dX10_quiet_49 : decode cX10_quiet 49 = .ok (.ireturn, 1) := by decide +kernel
theorem dX10_trial_0 : decode cX10_trial 0 = .ok (.aload_n 0, 1) := by decide +kernel
theorem dX10_trial_1 : decode cX10_trial 1 = .ok (.iload_n 1, 1) := by decide +kernel
theorem dX10_trial_2 : decode cX10_trial 2 = .ok (.invokevirtual 189, 3) := by decide +kernel
theorem dX10_trial_5 : decode cX10_trial 5 = .ok (.ifCond .eq 11, 3) := by decide +kernel
theorem dX10_trial_8 : decode cX10_trial 8 = .ok (.aload_n 0, 1) := by decide +kernel
theorem dX10_trial_9 : decode cX10_trial 9 = .ok (.iload_n 2, 1) := by decide +kernel
theorem dX10_trial_10 : decode cX10_trial 10 = .ok (.invokevirtual 193, 3) := by decide +kernel
theorem dX10_trial_13 : decode cX10_trial 13 = .ok (.ifCond .ne 6, 3) := by decide +kernel
theorem dX10_trial_16 : decode cX10_trial 16 = .ok (.ldc 192, 2) := by decide +kernel
theorem dX10_trial_18 : decode cX10_trial 18 = .ok (.ireturn, 1) := by decide +kernel
theorem dX10_trial_19 : decode cX10_trial 19 = .ok (.aload_n 0, 1) := by decide +kernel
theorem dX10_trial_20 : decode cX10_trial 20 = .ok (.getfield 161, 3) := by decide +kernel
theorem dX10_trial_23 : decode cX10_trial 23 = .ok (.bipush 8, 2) := by decide +kernel
theorem dX10_trial_25 : decode cX10_trial 25 = .ok (.if_icmp .ne 6, 3) := by decide +kernel
theorem dX10_trial_28 : decode cX10_trial 28 = .ok (.ldc 80, 2) := by decide +kernel
theorem dX10_trial_30 : decode cX10_trial 30 = .ok (.ireturn, 1) := by decide +kernel
theorem dX10_trial_31 : decode cX10_trial 31 = .ok (.aload_n 0, 1) := by decide +kernel
theorem dX10_trial_32 : decode cX10_trial 32 = .ok (.getfield 48, 3) := by decide +kernel
theorem dX10_trial_35 : decode cX10_trial 35 = .ok (.iconst 3, 1) := by decide +kernel
theorem dX10_trial_36 : decode cX10_trial 36 = .ok (.aload_n 0, 1) := by decide +kernel
theorem dX10_trial_37 : decode cX10_trial 37 = .ok (.getfield 161, 3) := by decide +kernel
theorem dX10_trial_40 : decode cX10_trial 40 = .ok (.imul, 1) := by decide +kernel
theorem dX10_trial_41 : decode cX10_trial 41 = .ok (.iload_n 1, 1) := by decide +kernel
theorem dX10_trial_42 : decode cX10_trial 42 = .ok (.iastore, 1) := by decide +kernel
theorem dX10_trial_43 : decode cX10_trial 43 = .ok (.aload_n 0, 1) := by decide +kernel
theorem dX10_trial_44 : decode cX10_trial 44 = .ok (.getfield 48, 3) := by decide +kernel
theorem dX10_trial_47 : decode cX10_trial 47 = .ok (.iconst 3, 1) := by decide +kernel
theorem dX10_trial_48 : decode cX10_trial 48 = .ok (.aload_n 0, 1) := by decide +kernel
theorem dX10_trial_49 : decode cX10_trial 49 = .ok (.getfield 161, 3) := by decide +kernel
theorem dX10_trial_52 : decode cX10_trial 52 = .ok (.imul, 1) := by decide +kernel
theorem dX10_trial_53 : decode cX10_trial 53 = .ok (.iconst 1, 1) := by decide +kernel
theorem dX10_trial_54 : decode cX10_trial 54 = .ok (.iadd, 1) := by decide +kernel
theorem dX10_trial_55 : decode cX10_trial 55 = .ok (.iload_n 2, 1) := by decide +kernel
theorem dX10_trial_56 : decode cX10_trial 56 = .ok (.iastore, 1) := by decide +kernel
theorem dX10_trial_57 : decode cX10_trial 57 = .ok (.aload_n 0, 1) := by decide +kernel
theorem dX10_trial_58 : decode cX10_trial 58 = .ok (.getfield 48, 3) := by decide +kernel
theorem dX10_trial_61 : decode cX10_trial 61 = .ok (.iconst 3, 1) := by decide +kernel
theorem dX10_trial_62 : decode cX10_trial 62 = .ok (.aload_n 0, 1) := by decide +kernel
theorem dX10_trial_63 : decode cX10_trial 63 = .ok (.getfield 161, 3) := by decide +kernel
theorem dX10_trial_66 : decode cX10_trial 66 = .ok (.imul, 1) := by decide +kernel
theorem dX10_trial_67 : decode cX10_trial 67 = .ok (.iconst 2, 1) := by decide +kernel
theorem dX10_trial_68 : decode cX10_trial 68 = .ok (.iadd, 1) := by decide +kernel
theorem dX10_trial_69 : decode cX10_trial 69 = .ok (.iload_n 3, 1) := by decide +kernel
theorem dX10_trial_70 : decode cX10_trial 70 = .ok (.ifCond .eq 7, 3) := by decide +kernel
theorem dX10_trial_73 : decode cX10_trial 73 = .ok (.iconst 1, 1) := by decide +kernel
theorem dX10_trial_74 : decode cX10_trial 74 = .ok (.goto 4, 3) := by decide +kernel
theorem dX10_trial_77 : decode cX10_trial 77 = .ok (.iconst 0, 1) := by decide +kernel
theorem dX10_trial_78 : decode cX10_trial 78 = .ok (.iastore, 1) := by decide +kernel
theorem dX10_trial_79 : decode cX10_trial 79 = .ok (.aload_n 0, 1) := by decide +kernel
theorem dX10_trial_80 : decode cX10_trial 80 = .ok (.dup, 1) := by decide +kernel
theorem dX10_trial_81 : decode cX10_trial 81 = .ok (.getfield 161, 3) := by decide +kernel
theorem dX10_trial_84 : decode cX10_trial 84 = .ok (.iconst 1, 1) := by decide +kernel
theorem dX10_trial_85 : decode cX10_trial 85 = .ok (.iadd, 1) := by decide +kernel
theorem dX10_trial_86 : decode cX10_trial 86 = .ok (.putfield 161, 3) := by decide +kernel
theorem dX10_trial_89 : decode cX10_trial 89 = .ok (.aload_n 0, 1) := by decide +kernel
theorem dX10_trial_90 : decode cX10_trial 90 = .ok (.getfield 161, 3) := by decide +kernel
theorem dX10_trial_93 : decode cX10_trial 93 = .ok (.ireturn, 1) := by decide +kernel
theorem dX10_ownings_0 : decode cX10_ownings 0 = .ok (.iconst 1, 1) := by decide +kernel
theorem dX10_ownings_1 : decode cX10_ownings 1 = .ok (.istore_n 1, 1) := by decide +kernel
theorem dX10_ownings_2 : decode cX10_ownings 2 = .ok (.iconst 0, 1) := by decide +kernel
theorem dX10_ownings_3 : decode cX10_ownings 3 = .ok (.istore_n 2, 1) := by decide +kernel
theorem dX10_ownings_4 : decode cX10_ownings 4 = .ok (.iload_n 2, 1) := by decide +kernel
theorem dX10_ownings_5 : decode cX10_ownings 5 = .ok (.aload_n 0, 1) := by decide +kernel
theorem dX10_ownings_6 : decode cX10_ownings 6 = .ok (.getfield 66, 3) := by decide +kernel
theorem dX10_ownings_9 : decode cX10_ownings 9 = .ok (.if_icmp .ge 16, 3) := by decide +kernel
theorem dX10_ownings_12 : decode cX10_ownings 12 = .ok (.iload_n 1, 1) := by decide +kernel
theorem dX10_ownings_13 : decode cX10_ownings 13 = .ok (.aload_n 0, 1) := by decide +kernel
theorem dX10_ownings_14 : decode cX10_ownings 14 = .ok (.getfield 73, 3) := by decide +kernel
theorem dX10_ownings_17 : decode cX10_ownings 17 = .ok (.imul, 1) := by decide +kernel
theorem dX10_ownings_18 : decode cX10_ownings 18 = .ok (.istore_n 1, 1) := by decide +kernel
theorem dX10_ownings_19 : decode cX10_ownings 19 = .ok (.iinc 2 1, 3) := by decide +kernel
theorem dX10_ownings_22 : decode cX10_ownings 22 = .ok (.goto (-18), 3) := by decide +kernel
theorem dX10_ownings_25 : decode cX10_ownings 25 = .ok (.iload_n 1, 1) := by decide +kernel
theorem dX10_ownings_26 : decode cX10_ownings 26 = .ok (.ireturn, 1) := by decide +kernel
theorem dX10_layOwning_0 : decode cX10_layOwning 0 = .ok (.iload_n 1, 1) := by decide +kernel
theorem dX10_layOwning_1 : decode cX10_layOwning 1 = .ok (.istore_n 2, 1) := by decide +kernel
theorem dX10_layOwning_2 : decode cX10_layOwning 2 = .ok (.iconst 0, 1) := by decide +kernel
theorem dX10_layOwning_3 : decode cX10_layOwning 3 = .ok (.istore_n 3, 1) := by decide +kernel
theorem dX10_layOwning_4 : decode cX10_layOwning 4 = .ok (.iconst 1, 1) := by decide +kernel
theorem dX10_layOwning_5 : decode cX10_layOwning 5 = .ok (.istore 4, 2) := by decide +kernel
theorem dX10_layOwning_7 : decode cX10_layOwning 7 = .ok (.aload_n 0, 1) := by decide +kernel
theorem dX10_layOwning_8 : decode cX10_layOwning 8 = .ok (.getfield 66, 3) := by decide +kernel
theorem dX10_layOwning_11 : decode cX10_layOwning 11 = .ok (.iconst 1, 1) := by decide +kernel
theorem dX10_layOwning_12 : decode cX10_layOwning 12 = .ok (.isub, 1) := by decide +kernel
theorem dX10_layOwning_13 : decode cX10_layOwning 13 = .ok (.istore 5, 2) := by decide +kernel
theorem dX10_layOwning_15 : decode cX10_layOwning 15 = .ok (.iload 5, 2) := by decide +kernel
theorem dX10_layOwning_17 : decode cX10_layOwning 17 = .ok (.ifCond .lt 67, 3) := by decide +kernel
theorem dX10_layOwning_20 : decode cX10_layOwning 20 = .ok (.aload_n 0, 1) := by decide +kernel
theorem dX10_layOwning_21 : decode cX10_layOwning 21 = .ok (.getfield 54, 3) := by decide +kernel
theorem dX10_layOwning_24 : decode cX10_layOwning 24 = .ok (.iload 5, 2) := by decide +kernel
theorem dX10_layOwning_26 : decode cX10_layOwning 26 = .ok (.iload_n 2, 1) := by decide +kernel
theorem dX10_layOwning_27 : decode cX10_layOwning 27 = .ok (.aload_n 0, 1) := by decide +kernel
theorem dX10_layOwning_28 : decode cX10_layOwning 28 = .ok (.getfield 73, 3) := by decide +kernel
theorem dX10_layOwning_31 : decode cX10_layOwning 31 = .ok (.irem, 1) := by decide +kernel
theorem dX10_layOwning_32 : decode cX10_layOwning 32 = .ok (.iastore, 1) := by decide +kernel
theorem dX10_layOwning_33 : decode cX10_layOwning 33 = .ok (.iload_n 2, 1) := by decide +kernel
theorem dX10_layOwning_34 : decode cX10_layOwning 34 = .ok (.aload_n 0, 1) := by decide +kernel
theorem dX10_layOwning_35 : decode cX10_layOwning 35 = .ok (.getfield 73, 3) := by decide +kernel
theorem dX10_layOwning_38 : decode cX10_layOwning 38 = .ok (.idiv, 1) := by decide +kernel
theorem dX10_layOwning_39 : decode cX10_layOwning 39 = .ok (.istore_n 2, 1) := by decide +kernel
theorem dX10_layOwning_40 : decode cX10_layOwning 40 = .ok (.iload 4, 2) := by decide +kernel
theorem dX10_layOwning_42 : decode cX10_layOwning 42 = .ok (.ifCond .eq 21, 3) := by decide +kernel
theorem dX10_layOwning_45 : decode cX10_layOwning 45 = .ok (.iload_n 3, 1) := by decide +kernel
theorem dX10_layOwning_46 : decode cX10_layOwning 46 = .ok (.aload_n 0, 1) := by decide +kernel
theorem dX10_layOwning_47 : decode cX10_layOwning 47 = .ok (.getfield 54, 3) := by decide +kernel
theorem dX10_layOwning_50 : decode cX10_layOwning 50 = .ok (.iload 5, 2) := by decide +kernel
theorem dX10_layOwning_52 : decode cX10_layOwning 52 = .ok (.iaload, 1) := by decide +kernel
theorem dX10_layOwning_53 : decode cX10_layOwning 53 = .ok (.invokestatic 200, 3) := by decide +kernel
theorem dX10_layOwning_56 : decode cX10_layOwning 56 = .ok (.ifCond .ne 7, 3) := by decide +kernel
theorem dX10_layOwning_59 : decode cX10_layOwning 59 = .ok (.iconst 1, 1) := by decide +kernel
theorem dX10_layOwning_60 : decode cX10_layOwning 60 = .ok (.goto 4, 3) := by decide +kernel
theorem dX10_layOwning_63 : decode cX10_layOwning 63 = .ok (.iconst 0, 1) := by decide +kernel
theorem dX10_layOwning_64 : decode cX10_layOwning 64 = .ok (.istore 4, 2) := by decide +kernel
theorem dX10_layOwning_66 : decode cX10_layOwning 66 = .ok (.iload_n 3, 1) := by decide +kernel
theorem dX10_layOwning_67 : decode cX10_layOwning 67 = .ok (.iconst 1, 1) := by decide +kernel
theorem dX10_layOwning_68 : decode cX10_layOwning 68 = .ok (.aload_n 0, 1) := by decide +kernel
theorem dX10_layOwning_69 : decode cX10_layOwning 69 = .ok (.getfield 54, 3) := by decide +kernel
theorem dX10_layOwning_72 : decode cX10_layOwning 72 = .ok (.iload 5, 2) := by decide +kernel
theorem dX10_layOwning_74 : decode cX10_layOwning 74 = .ok (.iaload, 1) := by decide +kernel
theorem dX10_layOwning_75 : decode cX10_layOwning 75 = .ok (.ishl, 1) := by decide +kernel
theorem dX10_layOwning_76 : decode cX10_layOwning 76 = .ok (.ior, 1) := by decide +kernel
theorem dX10_layOwning_77 : decode cX10_layOwning 77 = .ok (.istore_n 3, 1) := by decide +kernel
theorem dX10_layOwning_78 : decode cX10_layOwning 78 = .ok (.iinc 5 (-1), 3) := by decide +kernel
theorem dX10_layOwning_81 : decode cX10_layOwning 81 = .ok (.goto (-66), 3) := by decide +kernel
theorem dX10_layOwning_84 : decode cX10_layOwning 84 = .ok (.iconst 0, 1) := by decide +kernel
theorem dX10_layOwning_85 : decode cX10_layOwning 85 = .ok (.istore 5, 2) := by decide +kernel
theorem dX10_layOwning_87 : decode cX10_layOwning 87 = .ok (.iload 5, 2) := by decide +kernel
theorem dX10_layOwning_89 : decode cX10_layOwning 89 = .ok (.aload_n 0, 1) := by decide +kernel
theorem dX10_layOwning_90 : decode cX10_layOwning 90 = .ok (.getfield 161, 3) := by decide +kernel
theorem dX10_layOwning_93 : decode cX10_layOwning 93 = .ok (.if_icmp .ge 82, 3) := by decide +kernel
theorem dX10_layOwning_96 : decode cX10_layOwning 96 = .ok (.iload 4, 2) := by decide +kernel
theorem dX10_layOwning_98 : decode cX10_layOwning 98 = .ok (.ifCond .eq 77, 3) := by decide +kernel
theorem dX10_layOwning_101 : decode cX10_layOwning 101 = .ok (.aload_n 0, 1) := by decide +kernel
theorem dX10_layOwning_102 : decode cX10_layOwning 102 = .ok (.aload_n 0, 1) := by decide +kernel
theorem dX10_layOwning_103 : decode cX10_layOwning 103 = .ok (.getfield 48, 3) := by decide +kernel
theorem dX10_layOwning_106 : decode cX10_layOwning 106 = .ok (.iconst 3, 1) := by decide +kernel
theorem dX10_layOwning_107 : decode cX10_layOwning 107 = .ok (.iload 5, 2) := by decide +kernel
theorem dX10_layOwning_109 : decode cX10_layOwning 109 = .ok (.imul, 1) := by decide +kernel
theorem dX10_layOwning_110 : decode cX10_layOwning 110 = .ok (.iaload, 1) := by decide +kernel
theorem dX10_layOwning_111 : decode cX10_layOwning 111 = .ok (.aload_n 0, 1) := by decide +kernel
theorem dX10_layOwning_112 : decode cX10_layOwning 112 = .ok (.getfield 48, 3) := by decide +kernel
theorem dX10_layOwning_115 : decode cX10_layOwning 115 = .ok (.iconst 3, 1) := by decide +kernel
theorem dX10_layOwning_116 : decode cX10_layOwning 116 = .ok (.iload 5, 2) := by decide +kernel
theorem dX10_layOwning_118 : decode cX10_layOwning 118 = .ok (.imul, 1) := by decide +kernel
theorem dX10_layOwning_119 : decode cX10_layOwning 119 = .ok (.iconst 1, 1) := by decide +kernel
theorem dX10_layOwning_120 : decode cX10_layOwning 120 = .ok (.iadd, 1) := by decide +kernel
theorem dX10_layOwning_121 : decode cX10_layOwning 121 = .ok (.iaload, 1) := by decide +kernel
theorem dX10_layOwning_122 : decode cX10_layOwning 122 = .ok (.aload_n 0, 1) := by decide +kernel
theorem dX10_layOwning_123 : decode cX10_layOwning 123 = .ok (.getfield 54, 3) := by decide +kernel
theorem dX10_layOwning_126 : decode cX10_layOwning 126 = .ok (.aload_n 0, 1) := by decide +kernel
theorem dX10_layOwning_127 : decode cX10_layOwning 127 = .ok (.getfield 48, 3) := by decide +kernel
theorem dX10_layOwning_130 : decode cX10_layOwning 130 = .ok (.iconst 3, 1) := by decide +kernel
theorem dX10_layOwning_131 : decode cX10_layOwning 131 = .ok (.iload 5, 2) := by decide +kernel
theorem dX10_layOwning_133 : decode cX10_layOwning 133 = .ok (.imul, 1) := by decide +kernel
theorem dX10_layOwning_134 : decode cX10_layOwning 134 = .ok (.iaload, 1) := by decide +kernel
theorem dX10_layOwning_135 : decode cX10_layOwning 135 = .ok (.iaload, 1) := by decide +kernel
theorem dX10_layOwning_136 : decode cX10_layOwning 136 = .ok (.invokevirtual 170, 3) := by decide +kernel
theorem dX10_layOwning_139 : decode cX10_layOwning 139 = .ok (.aload_n 0, 1) := by decide +kernel
theorem dX10_layOwning_140 : decode cX10_layOwning 140 = .ok (.getfield 48, 3) := by decide +kernel
theorem dX10_layOwning_143 : decode cX10_layOwning 143 = .ok (.iconst 3, 1) := by decide +kernel
theorem dX10_layOwning_144 : decode cX10_layOwning 144 = .ok (.iload 5, 2) := by decide +kernel
theorem dX10_layOwning_146 : decode cX10_layOwning 146 = .ok (.imul, 1) := by decide +kernel
theorem dX10_layOwning_147 : decode cX10_layOwning 147 = .ok (.iconst 2, 1) := by decide +kernel
theorem dX10_layOwning_148 : decode cX10_layOwning 148 = .ok (.iadd, 1) := by decide +kernel
theorem dX10_layOwning_149 : decode cX10_layOwning 149 = .ok (.iaload, 1) := by decide +kernel
theorem dX10_layOwning_150 : decode cX10_layOwning 150 = .ok (.iconst 1, 1) := by decide +kernel
theorem dX10_layOwning_151 : decode cX10_layOwning 151 = .ok (.if_icmp .ne 7, 3) := by decide +kernel
theorem dX10_layOwning_154 : decode cX10_layOwning 154 = .ok (.iconst 1, 1) := by decide +kernel
theorem dX10_layOwning_155 : decode cX10_layOwning 155 = .ok (.goto 4, 3) := by decide +kernel
theorem dX10_layOwning_158 : decode cX10_layOwning 158 = .ok (.iconst 0, 1) := by decide +kernel
theorem dX10_layOwning_159 : decode cX10_layOwning 159 = .ok (.if_icmp .ne 7, 3) := by decide +kernel
theorem dX10_layOwning_162 : decode cX10_layOwning 162 = .ok (.iconst 1, 1) := by decide +kernel
theorem dX10_layOwning_163 : decode cX10_layOwning 163 = .ok (.goto 4, 3) := by decide +kernel
theorem dX10_layOwning_166 : decode cX10_layOwning 166 = .ok (.iconst 0, 1) := by decide +kernel
theorem dX10_layOwning_167 : decode cX10_layOwning 167 = .ok (.istore 4, 2) := by decide +kernel
theorem dX10_layOwning_169 : decode cX10_layOwning 169 = .ok (.iinc 5 1, 3) := by decide +kernel
theorem dX10_layOwning_172 : decode cX10_layOwning 172 = .ok (.goto (-85), 3) := by decide +kernel
theorem dX10_layOwning_175 : decode cX10_layOwning 175 = .ok (.iload 4, 2) := by decide +kernel
theorem dX10_layOwning_177 : decode cX10_layOwning 177 = .ok (.ireturn, 1) := by decide +kernel
theorem dX10_whose_0 : decode cX10_whose 0 = .ok (.iload_n 1, 1) := by decide +kernel
theorem dX10_whose_1 : decode cX10_whose 1 = .ok (.iconst (-1), 1) := by decide +kernel
theorem dX10_whose_2 : decode cX10_whose 2 = .ok (.if_icmp .eq 14, 3) := by decide +kernel
theorem dX10_whose_5 : decode cX10_whose 5 = .ok (.aload_n 0, 1) := by decide +kernel
theorem dX10_whose_6 : decode cX10_whose 6 = .ok (.iload_n 1, 1) := by decide +kernel
theorem dX10_whose_7 : decode cX10_whose 7 = .ok (.invokevirtual 189, 3) := by decide +kernel
theorem dX10_whose_10 : decode cX10_whose 10 = .ok (.ifCond .ne 6, 3) := by decide +kernel
theorem dX10_whose_13 : decode cX10_whose 13 = .ok (.ldc 192, 2) := by decide +kernel
theorem dX10_whose_15 : decode cX10_whose 15 = .ok (.ireturn, 1) := by decide +kernel
theorem dX10_whose_16 : decode cX10_whose 16 = .ok (.aload_n 0, 1) := by decide +kernel
theorem dX10_whose_17 : decode cX10_whose 17 = .ok (.getfield 73, 3) := by decide +kernel
theorem dX10_whose_20 : decode cX10_whose 20 = .ok (.aload_n 0, 1) := by decide +kernel
theorem dX10_whose_21 : decode cX10_whose 21 = .ok (.getfield 66, 3) := by decide +kernel
theorem dX10_whose_24 : decode cX10_whose 24 = .ok (.if_icmp .ge 6, 3) := by decide +kernel
theorem dX10_whose_27 : decode cX10_whose 27 = .ok (.ldc 203, 2) := by decide +kernel
theorem dX10_whose_29 : decode cX10_whose 29 = .ok (.ireturn, 1) := by decide +kernel
theorem dX10_whose_30 : decode cX10_whose 30 = .ok (.iconst 0, 1) := by decide +kernel
theorem dX10_whose_31 : decode cX10_whose 31 = .ok (.istore_n 2, 1) := by decide +kernel
theorem dX10_whose_32 : decode cX10_whose 32 = .ok (.iconst (-1), 1) := by decide +kernel
theorem dX10_whose_33 : decode cX10_whose 33 = .ok (.istore_n 3, 1) := by decide +kernel
theorem dX10_whose_34 : decode cX10_whose 34 = .ok (.iconst 0, 1) := by decide +kernel
theorem dX10_whose_35 : decode cX10_whose 35 = .ok (.istore 4, 2) := by decide +kernel
theorem dX10_whose_37 : decode cX10_whose 37 = .ok (.iload 4, 2) := by decide +kernel
theorem dX10_whose_39 : decode cX10_whose 39 = .ok (.aload_n 0, 1) := by decide +kernel
theorem dX10_whose_40 : decode cX10_whose 40 = .ok (.invokevirtual 250, 3) := by decide +kernel
theorem dX10_whose_43 : decode cX10_whose 43 = .ok (.if_icmp .ge 56, 3) := by decide +kernel
theorem dX10_whose_46 : decode cX10_whose 46 = .ok (.aload_n 0, 1) := by decide +kernel
theorem dX10_whose_47 : decode cX10_whose 47 = .ok (.iload 4, 2) := by decide +kernel
theorem dX10_whose_49 : decode cX10_whose 49 = .ok (.invokevirtual 253, 3) := by decide +kernel
theorem dX10_whose_52 : decode cX10_whose 52 = .ok (.ifCond .eq 41, 3) := by decide +kernel
theorem dX10_whose_55 : decode cX10_whose 55 = .ok (.iload_n 1, 1) := by decide +kernel
theorem dX10_whose_56 : decode cX10_whose 56 = .ok (.iconst (-1), 1) := by decide +kernel
theorem dX10_whose_57 : decode cX10_whose 57 = .ok (.if_icmp .ne 7, 3) := by decide +kernel
theorem dX10_whose_60 : decode cX10_whose 60 = .ok (.iconst (-1), 1) := by decide +kernel
theorem dX10_whose_61 : decode cX10_whose 61 = .ok (.goto 9, 3) := by decide +kernel
theorem dX10_whose_64 : decode cX10_whose 64 = .ok (.aload_n 0, 1) := by decide +kernel
theorem dX10_whose_65 : decode cX10_whose 65 = .ok (.getfield 54, 3) := by decide +kernel
theorem dX10_whose_68 : decode cX10_whose 68 = .ok (.iload_n 1, 1) := by decide +kernel
theorem dX10_whose_69 : decode cX10_whose 69 = .ok (.iaload, 1) := by decide +kernel
theorem dX10_whose_70 : decode cX10_whose 70 = .ok (.istore 5, 2) := by decide +kernel
theorem dX10_whose_72 : decode cX10_whose 72 = .ok (.iload_n 2, 1) := by decide +kernel
theorem dX10_whose_73 : decode cX10_whose 73 = .ok (.ifCond .eq 9, 3) := by decide +kernel
theorem dX10_whose_76 : decode cX10_whose 76 = .ok (.iload 5, 2) := by decide +kernel
theorem dX10_whose_78 : decode cX10_whose 78 = .ok (.iload_n 3, 1) := by decide +kernel
theorem dX10_whose_79 : decode cX10_whose 79 = .ok (.if_icmp .ne 8, 3) := by decide +kernel
theorem dX10_whose_82 : decode cX10_whose 82 = .ok (.iload 5, 2) := by decide +kernel
theorem dX10_whose_84 : decode cX10_whose 84 = .ok (.goto 5, 3) := by decide +kernel
theorem dX10_whose_87 : decode cX10_whose 87 = .ok (.bipush (-2), 2) := by decide +kernel
theorem dX10_whose_89 : decode cX10_whose 89 = .ok (.istore_n 3, 1) := by decide +kernel
theorem dX10_whose_90 : decode cX10_whose 90 = .ok (.iinc 2 1, 3) := by decide +kernel
theorem dX10_whose_93 : decode cX10_whose 93 = .ok (.iinc 4 1, 3) := by decide +kernel
theorem dX10_whose_96 : decode cX10_whose 96 = .ok (.goto (-59), 3) := by decide +kernel
theorem dX10_whose_99 : decode cX10_whose 99 = .ok (.iload_n 1, 1) := by decide +kernel
theorem dX10_whose_100 : decode cX10_whose 100 = .ok (.iconst (-1), 1) := by decide +kernel
theorem dX10_whose_101 : decode cX10_whose 101 = .ok (.if_icmp .ne 7, 3) := by decide +kernel
theorem dX10_whose_104 : decode cX10_whose 104 = .ok (.iload_n 2, 1) := by decide +kernel
theorem dX10_whose_105 : decode cX10_whose 105 = .ok (.goto 14, 3) := by decide +kernel
theorem dX10_whose_108 : decode cX10_whose 108 = .ok (.iload_n 3, 1) := by decide +kernel
theorem dX10_whose_109 : decode cX10_whose 109 = .ok (.bipush (-2), 2) := by decide +kernel
theorem dX10_whose_111 : decode cX10_whose 111 = .ok (.if_icmp .ne 7, 3) := by decide +kernel
theorem dX10_whose_114 : decode cX10_whose 114 = .ok (.iconst (-1), 1) := by decide +kernel
theorem dX10_whose_115 : decode cX10_whose 115 = .ok (.goto 4, 3) := by decide +kernel
theorem dX10_whose_118 : decode cX10_whose 118 = .ok (.iload_n 3, 1) := by decide +kernel
theorem dX10_whose_119 : decode cX10_whose 119 = .ok (.ireturn, 1) := by decide +kernel
theorem dX10_next_0 : decode cX10_next 0 = .ok (.aload_n 0, 1) := by decide +kernel
theorem dX10_next_1 : decode cX10_next 1 = .ok (.getfield 73, 3) := by decide +kernel
theorem dX10_next_4 : decode cX10_next 4 = .ok (.aload_n 0, 1) := by decide +kernel
theorem dX10_next_5 : decode cX10_next 5 = .ok (.getfield 66, 3) := by decide +kernel
theorem dX10_next_8 : decode cX10_next 8 = .ok (.if_icmp .ge 6, 3) := by decide +kernel
theorem dX10_next_11 : decode cX10_next 11 = .ok (.ldc 203, 2) := by decide +kernel
theorem dX10_next_13 : decode cX10_next 13 = .ok (.ireturn, 1) := by decide +kernel
theorem dX10_next_14 : decode cX10_next 14 = .ok (.iconst 0, 1) := by decide +kernel
theorem dX10_next_15 : decode cX10_next 15 = .ok (.istore_n 1, 1) := by decide +kernel
theorem dX10_next_16 : decode cX10_next 16 = .ok (.iconst 0, 1) := by decide +kernel
theorem dX10_next_17 : decode cX10_next 17 = .ok (.istore_n 2, 1) := by decide +kernel
theorem dX10_next_18 : decode cX10_next 18 = .ok (.iload_n 2, 1) := by decide +kernel
theorem dX10_next_19 : decode cX10_next 19 = .ok (.bipush 36, 2) := by decide +kernel
theorem dX10_next_21 : decode cX10_next 21 = .ok (.if_icmp .ge 16, 3) := by decide +kernel
theorem dX10_next_24 : decode cX10_next 24 = .ok (.aload_n 0, 1) := by decide +kernel
theorem dX10_next_25 : decode cX10_next 25 = .ok (.getfield 63, 3) := by decide +kernel
theorem dX10_next_28 : decode cX10_next 28 = .ok (.iload_n 2, 1) := by decide +kernel
theorem dX10_next_29 : decode cX10_next 29 = .ok (.iconst 0, 1) := by decide +kernel
theorem dX10_next_30 : decode cX10_next 30 = .ok (.iastore, 1) := by decide +kernel
theorem dX10_next_31 : decode cX10_next 31 = .ok (.iinc 2 1, 3) := by decide +kernel
theorem dX10_next_34 : decode cX10_next 34 = .ok (.goto (-16), 3) := by decide +kernel
theorem dX10_next_37 : decode cX10_next 37 = .ok (.iconst 0, 1) := by decide +kernel
theorem dX10_next_38 : decode cX10_next 38 = .ok (.istore_n 2, 1) := by decide +kernel
theorem dX10_next_39 : decode cX10_next 39 = .ok (.iload_n 2, 1) := by decide +kernel
theorem dX10_next_40 : decode cX10_next 40 = .ok (.aload_n 0, 1) := by decide +kernel
theorem dX10_next_41 : decode cX10_next 41 = .ok (.invokevirtual 250, 3) := by decide +kernel
theorem dX10_next_44 : decode cX10_next 44 = .ok (.if_icmp .ge 106, 3) := by decide +kernel
theorem dX10_next_47 : decode cX10_next 47 = .ok (.aload_n 0, 1) := by decide +kernel
theorem dX10_next_48 : decode cX10_next 48 = .ok (.iload_n 2, 1) := by decide +kernel
theorem dX10_next_49 : decode cX10_next 49 = .ok (.invokevirtual 253, 3) := by decide +kernel
theorem dX10_next_52 : decode cX10_next 52 = .ok (.ifCond .eq 92, 3) := by decide +kernel
theorem dX10_next_55 : decode cX10_next 55 = .ok (.iinc 1 1, 3) := by decide +kernel
theorem dX10_next_58 : decode cX10_next 58 = .ok (.iconst 0, 1) := by decide +kernel
theorem dX10_next_59 : decode cX10_next 59 = .ok (.istore_n 3, 1) := by decide +kernel
theorem dX10_next_60 : decode cX10_next 60 = .ok (.iload_n 3, 1) := by decide +kernel
theorem dX10_next_61 : decode cX10_next 61 = .ok (.bipush 36, 2) := by decide +kernel
theorem dX10_next_63 : decode cX10_next 63 = .ok (.if_icmp .ge 81, 3) := by decide +kernel
theorem dX10_next_66 : decode cX10_next 66 = .ok (.iload_n 3, 1) := by decide +kernel
theorem dX10_next_67 : decode cX10_next 67 = .ok (.bipush 6, 2) := by decide +kernel
theorem dX10_next_69 : decode cX10_next 69 = .ok (.idiv, 1) := by decide +kernel
theorem dX10_next_70 : decode cX10_next 70 = .ok (.aload_n 0, 1) := by decide +kernel
theorem dX10_next_71 : decode cX10_next 71 = .ok (.getfield 66, 3) := by decide +kernel
theorem dX10_next_74 : decode cX10_next 74 = .ok (.if_icmp .ge 42, 3) := by decide +kernel
theorem dX10_next_77 : decode cX10_next 77 = .ok (.iload_n 3, 1) := by decide +kernel
theorem dX10_next_78 : decode cX10_next 78 = .ok (.bipush 6, 2) := by decide +kernel
theorem dX10_next_80 : decode cX10_next 80 = .ok (.irem, 1) := by decide +kernel
theorem dX10_next_81 : decode cX10_next 81 = .ok (.aload_n 0, 1) := by decide +kernel
theorem dX10_next_82 : decode cX10_next 82 = .ok (.getfield 73, 3) := by decide +kernel
theorem dX10_next_85 : decode cX10_next 85 = .ok (.if_icmp .ge 31, 3) := by decide +kernel
theorem dX10_next_88 : decode cX10_next 88 = .ok (.aload_n 0, 1) := by decide +kernel
theorem dX10_next_89 : decode cX10_next 89 = .ok (.iload_n 3, 1) := by decide +kernel
theorem dX10_next_90 : decode cX10_next 90 = .ok (.bipush 6, 2) := by decide +kernel
theorem dX10_next_92 : decode cX10_next 92 = .ok (.idiv, 1) := by decide +kernel
theorem dX10_next_93 : decode cX10_next 93 = .ok (.iload_n 3, 1) := by decide +kernel
theorem dX10_next_94 : decode cX10_next 94 = .ok (.bipush 6, 2) := by decide +kernel
theorem dX10_next_96 : decode cX10_next 96 = .ok (.irem, 1) := by decide +kernel
theorem dX10_next_97 : decode cX10_next 97 = .ok (.aload_n 0, 1) := by decide +kernel
theorem dX10_next_98 : decode cX10_next 98 = .ok (.getfield 54, 3) := by decide +kernel
theorem dX10_next_101 : decode cX10_next 101 = .ok (.iload_n 3, 1) := by decide +kernel
theorem dX10_next_102 : decode cX10_next 102 = .ok (.bipush 6, 2) := by decide +kernel
theorem dX10_next_104 : decode cX10_next 104 = .ok (.idiv, 1) := by decide +kernel
theorem dX10_next_105 : decode cX10_next 105 = .ok (.iaload, 1) := by decide +kernel
theorem dX10_next_106 : decode cX10_next 106 = .ok (.invokevirtual 170, 3) := by decide +kernel
theorem dX10_next_109 : decode cX10_next 109 = .ok (.ifCond .eq 7, 3) := by decide +kernel
theorem dX10_next_112 : decode cX10_next 112 = .ok (.iconst 1, 1) := by decide +kernel
theorem dX10_next_113 : decode cX10_next 113 = .ok (.goto 4, 3) := by decide +kernel
theorem dX10_next_116 : decode cX10_next 116 = .ok (.iconst 0, 1) := by decide +kernel
theorem dX10_next_117 : decode cX10_next 117 = .ok (.istore 4, 2) := by decide +kernel
theorem dX10_next_119 : decode cX10_next 119 = .ok (.aload_n 0, 1) := by decide +kernel
theorem dX10_next_120 : decode cX10_next 120 = .ok (.getfield 63, 3) := by decide +kernel
theorem dX10_next_123 : decode cX10_next 123 = .ok (.iload_n 3, 1) := by decide +kernel
theorem dX10_next_124 : decode cX10_next 124 = .ok (.dup2, 1) := by decide +kernel
theorem dX10_next_125 : decode cX10_next 125 = .ok (.iaload, 1) := by decide +kernel
theorem dX10_next_126 : decode cX10_next 126 = .ok (.iload 4, 2) := by decide +kernel
theorem dX10_next_128 : decode cX10_next 128 = .ok (.ifCond .eq 7, 3) := by decide +kernel
theorem dX10_next_131 : decode cX10_next 131 = .ok (.iconst 1, 1) := by decide +kernel
theorem dX10_next_132 : decode cX10_next 132 = .ok (.goto 4, 3) := by decide +kernel
theorem dX10_next_135 : decode cX10_next 135 = .ok (.iconst 0, 1) := by decide +kernel
theorem dX10_next_136 : decode cX10_next 136 = .ok (.iadd, 1) := by decide +kernel
theorem dX10_next_137 : decode cX10_next 137 = .ok (.iastore, 1) := by decide +kernel
theorem dX10_next_138 : decode cX10_next 138 = .ok (.iinc 3 1, 3) := by decide +kernel
theorem dX10_next_141 : decode cX10_next 141 = .ok (.goto (-81), 3) := by decide +kernel
theorem dX10_next_144 : decode cX10_next 144 = .ok (.iinc 2 1, 3) := by decide +kernel
theorem dX10_next_147 : decode cX10_next 147 = .ok (.goto (-108), 3) := by decide +kernel
theorem dX10_next_150 : decode cX10_next 150 = .ok (.iconst (-1), 1) := by decide +kernel
theorem dX10_next_151 : decode cX10_next 151 = .ok (.istore_n 2, 1) := by decide +kernel
theorem dX10_next_152 : decode cX10_next 152 = .ok (.iload_n 1, 1) := by decide +kernel
theorem dX10_next_153 : decode cX10_next 153 = .ok (.istore_n 3, 1) := by decide +kernel
theorem dX10_next_154 : decode cX10_next 154 = .ok (.iconst 0, 1) := by decide +kernel
theorem dX10_next_155 : decode cX10_next 155 = .ok (.istore 4, 2) := by decide +kernel
theorem dX10_next_157 : decode cX10_next 157 = .ok (.iload 4, 2) := by decide +kernel
theorem dX10_next_159 : decode cX10_next 159 = .ok (.bipush 36, 2) := by decide +kernel
theorem dX10_next_161 : decode cX10_next 161 = .ok (.if_icmp .ge 87, 3) := by decide +kernel
theorem dX10_next_164 : decode cX10_next 164 = .ok (.aload_n 0, 1) := by decide +kernel
theorem dX10_next_165 : decode cX10_next 165 = .ok (.getfield 63, 3) := by decide +kernel
theorem dX10_next_168 : decode cX10_next 168 = .ok (.iload 4, 2) := by decide +kernel
theorem dX10_next_170 : decode cX10_next 170 = .ok (.iaload, 1) := by decide +kernel
theorem dX10_next_171 : decode cX10_next 171 = .ok (.iload_n 1, 1) := by decide +kernel
theorem dX10_next_172 : decode cX10_next 172 = .ok (.aload_n 0, 1) := by decide +kernel
theorem dX10_next_173 : decode cX10_next 173 = .ok (.getfield 63, 3) := by decide +kernel
theorem dX10_next_176 : decode cX10_next 176 = .ok (.iload 4, 2) := by decide +kernel
theorem dX10_next_178 : decode cX10_next 178 = .ok (.iaload, 1) := by decide +kernel
theorem dX10_next_179 : decode cX10_next 179 = .ok (.isub, 1) := by decide +kernel
theorem dX10_next_180 : decode cX10_next 180 = .ok (.if_icmp .le 13, 3) := by decide +kernel
theorem dX10_next_183 : decode cX10_next 183 = .ok (.aload_n 0, 1) := by decide +kernel
theorem dX10_next_184 : decode cX10_next 184 = .ok (.getfield 63, 3) := by decide +kernel
theorem dX10_next_187 : decode cX10_next 187 = .ok (.iload 4, 2) := by decide +kernel
theorem dX10_next_189 : decode cX10_next 189 = .ok (.iaload, 1) := by decide +kernel
theorem dX10_next_190 : decode cX10_next 190 = .ok (.goto 12, 3) := by decide +kernel
theorem dX10_next_193 : decode cX10_next 193 = .ok (.iload_n 1, 1) := by decide +kernel
theorem dX10_next_194 : decode cX10_next 194 = .ok (.aload_n 0, 1) := by decide +kernel
theorem dX10_next_195 : decode cX10_next 195 = .ok (.getfield 63, 3) := by decide +kernel
theorem dX10_next_198 : decode cX10_next 198 = .ok (.iload 4, 2) := by decide +kernel
theorem dX10_next_200 : decode cX10_next 200 = .ok (.iaload, 1) := by decide +kernel
theorem dX10_next_201 : decode cX10_next 201 = .ok (.isub, 1) := by decide +kernel
theorem dX10_next_202 : decode cX10_next 202 = .ok (.istore 5, 2) := by decide +kernel
theorem dX10_next_204 : decode cX10_next 204 = .ok (.iload 5, 2) := by decide +kernel
theorem dX10_next_206 : decode cX10_next 206 = .ok (.iload_n 3, 1) := by decide +kernel
theorem dX10_next_207 : decode cX10_next 207 = .ok (.if_icmp .ge 20, 3) := by decide +kernel
theorem dX10_next_210 : decode cX10_next 210 = .ok (.bipush 10, 2) := by decide +kernel
theorem dX10_next_212 : decode cX10_next 212 = .ok (.iload 4, 2) := by decide +kernel
theorem dX10_next_214 : decode cX10_next 214 = .ok (.bipush 6, 2) := by decide +kernel
theorem dX10_next_216 : decode cX10_next 216 = .ok (.idiv, 1) := by decide +kernel
theorem dX10_next_217 : decode cX10_next 217 = .ok (.imul, 1) := by decide +kernel
theorem dX10_next_218 : decode cX10_next 218 = .ok (.iload 4, 2) := by decide +kernel
theorem dX10_next_220 : decode cX10_next 220 = .ok (.bipush 6, 2) := by decide +kernel
theorem dX10_next_222 : decode cX10_next 222 = .ok (.irem, 1) := by decide +kernel
theorem dX10_next_223 : decode cX10_next 223 = .ok (.iadd, 1) := by decide +kernel
theorem dX10_next_224 : decode cX10_next 224 = .ok (.goto 4, 3) := by decide +kernel
theorem dX10_next_227 : decode cX10_next 227 = .ok (.iload_n 2, 1) := by decide +kernel
theorem dX10_next_228 : decode cX10_next 228 = .ok (.istore_n 2, 1) := by decide +kernel
theorem dX10_next_229 : decode cX10_next 229 = .ok (.iload 5, 2) := by decide +kernel
theorem dX10_next_231 : decode cX10_next 231 = .ok (.iload_n 3, 1) := by decide +kernel
theorem dX10_next_232 : decode cX10_next 232 = .ok (.if_icmp .ge 8, 3) := by decide +kernel
theorem dX10_next_235 : decode cX10_next 235 = .ok (.iload 5, 2) := by decide +kernel
theorem dX10_next_237 : decode cX10_next 237 = .ok (.goto 4, 3) := by decide +kernel
theorem dX10_next_240 : decode cX10_next 240 = .ok (.iload_n 3, 1) := by decide +kernel
theorem dX10_next_241 : decode cX10_next 241 = .ok (.istore_n 3, 1) := by decide +kernel
theorem dX10_next_242 : decode cX10_next 242 = .ok (.iinc 4 1, 3) := by decide +kernel
theorem dX10_next_245 : decode cX10_next 245 = .ok (.goto (-88), 3) := by decide +kernel
theorem dX10_next_248 : decode cX10_next 248 = .ok (.iload_n 2, 1) := by decide +kernel
theorem dX10_next_249 : decode cX10_next 249 = .ok (.ireturn, 1) := by decide +kernel
theorem dX10_write_0 : decode cX10_write 0 = .ok (.aload_n 0, 1) := by decide +kernel
theorem dX10_write_1 : decode cX10_write 1 = .ok (.iload_n 1, 1) := by decide +kernel
theorem dX10_write_2 : decode cX10_write 2 = .ok (.invokevirtual 193, 3) := by decide +kernel
theorem dX10_write_5 : decode cX10_write 5 = .ok (.ifCond .eq 16, 3) := by decide +kernel
theorem dX10_write_8 : decode cX10_write 8 = .ok (.iload_n 2, 1) := by decide +kernel
theorem dX10_write_9 : decode cX10_write 9 = .ok (.iconst (-1), 1) := by decide +kernel
theorem dX10_write_10 : decode cX10_write 10 = .ok (.if_icmp .eq 14, 3) := by decide +kernel
theorem dX10_write_13 : decode cX10_write 13 = .ok (.aload_n 0, 1) := by decide +kernel
theorem dX10_write_14 : decode cX10_write 14 = .ok (.iload_n 2, 1) := by decide +kernel
theorem dX10_write_15 : decode cX10_write 15 = .ok (.invokevirtual 189, 3) := by decide +kernel
theorem dX10_write_18 : decode cX10_write 18 = .ok (.ifCond .ne 6, 3) := by decide +kernel
theorem dX10_write_21 : decode cX10_write 21 = .ok (.ldc 192, 2) := by decide +kernel
theorem dX10_write_23 : decode cX10_write 23 = .ok (.ireturn, 1) := by decide +kernel
theorem dX10_write_24 : decode cX10_write 24 = .ok (.aload_n 0, 1) := by decide +kernel
theorem dX10_write_25 : decode cX10_write 25 = .ok (.getfield 164, 3) := by decide +kernel
theorem dX10_write_28 : decode cX10_write 28 = .ok (.bipush 15, 2) := by decide +kernel
theorem dX10_write_30 : decode cX10_write 30 = .ok (.if_icmp .ne 6, 3) := by decide +kernel
theorem dX10_write_33 : decode cX10_write 33 = .ok (.ldc 80, 2) := by decide +kernel
theorem dX10_write_35 : decode cX10_write 35 = .ok (.ireturn, 1) := by decide +kernel
theorem dX10_write_36 : decode cX10_write 36 = .ok (.aload_n 0, 1) := by decide +kernel
theorem dX10_write_37 : decode cX10_write 37 = .ok (.getfield 51, 3) := by decide +kernel
theorem dX10_write_40 : decode cX10_write 40 = .ok (.iconst 2, 1) := by decide +kernel
theorem dX10_write_41 : decode cX10_write 41 = .ok (.aload_n 0, 1) := by decide +kernel
theorem dX10_write_42 : decode cX10_write 42 = .ok (.getfield 164, 3) := by decide +kernel
theorem dX10_write_45 : decode cX10_write 45 = .ok (.imul, 1) := by decide +kernel
theorem dX10_write_46 : decode cX10_write 46 = .ok (.iload_n 1, 1) := by decide +kernel
theorem dX10_write_47 : decode cX10_write 47 = .ok (.iastore, 1) := by decide +kernel
theorem dX10_write_48 : decode cX10_write 48 = .ok (.aload_n 0, 1) := by decide +kernel
theorem dX10_write_49 : decode cX10_write 49 = .ok (.getfield 51, 3) := by decide +kernel
theorem dX10_write_52 : decode cX10_write 52 = .ok (.iconst 2, 1) := by decide +kernel
theorem dX10_write_53 : decode cX10_write 53 = .ok (.aload_n 0, 1) := by decide +kernel
theorem dX10_write_54 : decode cX10_write 54 = .ok (.getfield 164, 3) := by decide +kernel
theorem dX10_write_57 : decode cX10_write 57 = .ok (.imul, 1) := by decide +kernel
theorem dX10_write_58 : decode cX10_write 58 = .ok (.iconst 1, 1) := by decide +kernel
theorem dX10_write_59 : decode cX10_write 59 = .ok (.iadd, 1) := by decide +kernel
theorem dX10_write_60 : decode cX10_write 60 = .ok (.iload_n 2, 1) := by decide +kernel
theorem dX10_write_61 : decode cX10_write 61 = .ok (.iastore, 1) := by decide +kernel
theorem dX10_write_62 : decode cX10_write 62 = .ok (.aload_n 0, 1) := by decide +kernel
theorem dX10_write_63 : decode cX10_write 63 = .ok (.dup, 1) := by decide +kernel
theorem dX10_write_64 : decode cX10_write 64 = .ok (.getfield 164, 3) := by decide +kernel
theorem dX10_write_67 : decode cX10_write 67 = .ok (.iconst 1, 1) := by decide +kernel
theorem dX10_write_68 : decode cX10_write 68 = .ok (.iadd, 1) := by decide +kernel
theorem dX10_write_69 : decode cX10_write 69 = .ok (.putfield 164, 3) := by decide +kernel
theorem dX10_write_72 : decode cX10_write 72 = .ok (.aload_n 0, 1) := by decide +kernel
theorem dX10_write_73 : decode cX10_write 73 = .ok (.getfield 164, 3) := by decide +kernel
theorem dX10_write_76 : decode cX10_write 76 = .ok (.ireturn, 1) := by decide +kernel
theorem dX10_tear_0 : decode cX10_tear 0 = .ok (.aload_n 0, 1) := by decide +kernel
theorem dX10_tear_1 : decode cX10_tear 1 = .ok (.getfield 161, 3) := by decide +kernel
theorem dX10_tear_4 : decode cX10_tear 4 = .ok (.aload_n 0, 1) := by decide +kernel
theorem dX10_tear_5 : decode cX10_tear 5 = .ok (.getfield 164, 3) := by decide +kernel
theorem dX10_tear_8 : decode cX10_tear 8 = .ok (.iadd, 1) := by decide +kernel
theorem dX10_tear_9 : decode cX10_tear 9 = .ok (.istore_n 1, 1) := by decide +kernel
theorem dX10_tear_10 : decode cX10_tear 10 = .ok (.aload_n 0, 1) := by decide +kernel
theorem dX10_tear_11 : decode cX10_tear 11 = .ok (.iconst 0, 1) := by decide +kernel
theorem dX10_tear_12 : decode cX10_tear 12 = .ok (.putfield 161, 3) := by decide +kernel
theorem dX10_tear_15 : decode cX10_tear 15 = .ok (.aload_n 0, 1) := by decide +kernel
theorem dX10_tear_16 : decode cX10_tear 16 = .ok (.iconst 0, 1) := by decide +kernel
theorem dX10_tear_17 : decode cX10_tear 17 = .ok (.putfield 164, 3) := by decide +kernel
theorem dX10_tear_20 : decode cX10_tear 20 = .ok (.iload_n 1, 1) := by decide +kernel
theorem dX10_tear_21 : decode cX10_tear 21 = .ok (.ireturn, 1) := by decide +kernel
theorem dX10_judge_0 : decode cX10_judge 0 = .ok (.iconst 0, 1) := by decide +kernel
theorem dX10_judge_1 : decode cX10_judge 1 = .ok (.istore_n 1, 1) := by decide +kernel
theorem dX10_judge_2 : decode cX10_judge 2 = .ok (.iload_n 1, 1) := by decide +kernel
theorem dX10_judge_3 : decode cX10_judge 3 = .ok (.aload_n 0, 1) := by decide +kernel
theorem dX10_judge_4 : decode cX10_judge 4 = .ok (.getfield 164, 3) := by decide +kernel
theorem dX10_judge_7 : decode cX10_judge 7 = .ok (.if_icmp .ge 36, 3) := by decide +kernel
theorem dX10_judge_10 : decode cX10_judge 10 = .ok (.aload_n 0, 1) := by decide +kernel
theorem dX10_judge_11 : decode cX10_judge 11 = .ok (.aload_n 0, 1) := by decide +kernel
theorem dX10_judge_12 : decode cX10_judge 12 = .ok (.getfield 51, 3) := by decide +kernel
theorem dX10_judge_15 : decode cX10_judge 15 = .ok (.iconst 2, 1) := by decide +kernel
theorem dX10_judge_16 : decode cX10_judge 16 = .ok (.iload_n 1, 1) := by decide +kernel
theorem dX10_judge_17 : decode cX10_judge 17 = .ok (.imul, 1) := by decide +kernel
theorem dX10_judge_18 : decode cX10_judge 18 = .ok (.iaload, 1) := by decide +kernel
theorem dX10_judge_19 : decode cX10_judge 19 = .ok (.invokevirtual 196, 3) := by decide +kernel
theorem dX10_judge_22 : decode cX10_judge 22 = .ok (.aload_n 0, 1) := by decide +kernel
theorem dX10_judge_23 : decode cX10_judge 23 = .ok (.getfield 51, 3) := by decide +kernel
theorem dX10_judge_26 : decode cX10_judge 26 = .ok (.iconst 2, 1) := by decide +kernel
theorem dX10_judge_27 : decode cX10_judge 27 = .ok (.iload_n 1, 1) := by decide +kernel
theorem dX10_judge_28 : decode cX10_judge 28 = .ok (.imul, 1) := by decide +kernel
theorem dX10_judge_29 : decode cX10_judge 29 = .ok (.iconst 1, 1) := by decide +kernel
theorem dX10_judge_30 : decode cX10_judge 30 = .ok (.iadd, 1) := by decide +kernel
theorem dX10_judge_31 : decode cX10_judge 31 = .ok (.iaload, 1) := by decide +kernel
theorem dX10_judge_32 : decode cX10_judge 32 = .ok (.if_icmp .eq 5, 3) := by decide +kernel
theorem dX10_judge_35 : decode cX10_judge 35 = .ok (.iload_n 1, 1) := by decide +kernel
theorem dX10_judge_36 : decode cX10_judge 36 = .ok (.ireturn, 1) := by decide +kernel
theorem dX10_judge_37 : decode cX10_judge 37 = .ok (.iinc 1 1, 3) := by decide +kernel
theorem dX10_judge_40 : decode cX10_judge 40 = .ok (.goto (-38), 3) := by decide +kernel
theorem dX10_judge_43 : decode cX10_judge 43 = .ok (.iconst (-1), 1) := by decide +kernel
theorem dX10_judge_44 : decode cX10_judge 44 = .ok (.ireturn, 1) := by decide +kernel
theorem dX10_seed_0 : decode cX10_seed 0 = .ok (.iload_n 1, 1) := by decide +kernel
theorem dX10_seed_1 : decode cX10_seed 1 = .ok (.ifCond .ge 6, 3) := by decide +kernel
theorem dX10_seed_4 : decode cX10_seed 4 = .ok (.ldc 76, 2) := by decide +kernel
theorem dX10_seed_6 : decode cX10_seed 6 = .ok (.ireturn, 1) := by decide +kernel
theorem dX10_seed_7 : decode cX10_seed 7 = .ok (.aload_n 0, 1) := by decide +kernel
theorem dX10_seed_8 : decode cX10_seed 8 = .ok (.getfield 223, 3) := by decide +kernel
theorem dX10_seed_11 : decode cX10_seed 11 = .ok (.istore_n 2, 1) := by decide +kernel
theorem dX10_seed_12 : decode cX10_seed 12 = .ok (.aload_n 0, 1) := by decide +kernel
theorem dX10_seed_13 : decode cX10_seed 13 = .ok (.iload_n 1, 1) := by decide +kernel
theorem dX10_seed_14 : decode cX10_seed 14 = .ok (.putfield 223, 3) := by decide +kernel
theorem dX10_seed_17 : decode cX10_seed 17 = .ok (.iload_n 2, 1) := by decide +kernel
theorem dX10_seed_18 : decode cX10_seed 18 = .ok (.ireturn, 1) := by decide +kernel
theorem dX10_keep_0 : decode cX10_keep 0 = .ok (.iload_n 1, 1) := by decide +kernel
theorem dX10_keep_1 : decode cX10_keep 1 = .ok (.iconst 0, 1) := by decide +kernel
theorem dX10_keep_2 : decode cX10_keep 2 = .ok (.iconst 1, 1) := by decide +kernel
theorem dX10_keep_3 : decode cX10_keep 3 = .ok (.invokestatic 69, 3) := by decide +kernel
theorem dX10_keep_6 : decode cX10_keep 6 = .ok (.ifCond .ne 6, 3) := by decide +kernel
theorem dX10_keep_9 : decode cX10_keep 9 = .ok (.ldc 192, 2) := by decide +kernel
theorem dX10_keep_11 : decode cX10_keep 11 = .ok (.ireturn, 1) := by decide +kernel
theorem dX10_keep_12 : decode cX10_keep 12 = .ok (.aload_n 0, 1) := by decide +kernel
theorem dX10_keep_13 : decode cX10_keep 13 = .ok (.getfield 32, 3) := by decide +kernel
theorem dX10_keep_16 : decode cX10_keep 16 = .ok (.iconst 0, 1) := by decide +kernel
theorem dX10_keep_17 : decode cX10_keep 17 = .ok (.aload_n 0, 1) := by decide +kernel
theorem dX10_keep_18 : decode cX10_keep 18 = .ok (.getfield 38, 3) := by decide +kernel
theorem dX10_keep_21 : decode cX10_keep 21 = .ok (.bipush 32, 2) := by decide +kernel
theorem dX10_keep_23 : decode cX10_keep 23 = .ok (.iload_n 1, 1) := by decide +kernel
theorem dX10_keep_24 : decode cX10_keep 24 = .ok (.imul, 1) := by decide +kernel
theorem dX10_keep_25 : decode cX10_keep 25 = .ok (.bipush 32, 2) := by decide +kernel
theorem dX10_keep_27 : decode cX10_keep 27 = .ok (.invokestatic 157, 3) := by decide +kernel
theorem dX10_keep_30 : decode cX10_keep 30 = .ok (.aload_n 0, 1) := by decide +kernel
theorem dX10_keep_31 : decode cX10_keep 31 = .ok (.getfield 41, 3) := by decide +kernel
theorem dX10_keep_34 : decode cX10_keep 34 = .ok (.iload_n 1, 1) := by decide +kernel
theorem dX10_keep_35 : decode cX10_keep 35 = .ok (.aload_n 0, 1) := by decide +kernel
theorem dX10_keep_36 : decode cX10_keep 36 = .ok (.getfield 223, 3) := by decide +kernel
theorem dX10_keep_39 : decode cX10_keep 39 = .ok (.iastore, 1) := by decide +kernel
theorem dX10_keep_40 : decode cX10_keep 40 = .ok (.aload_n 0, 1) := by decide +kernel
theorem dX10_keep_41 : decode cX10_keep 41 = .ok (.getfield 44, 3) := by decide +kernel
theorem dX10_keep_44 : decode cX10_keep 44 = .ok (.iload_n 1, 1) := by decide +kernel
theorem dX10_keep_45 : decode cX10_keep 45 = .ok (.iconst 1, 1) := by decide +kernel
theorem dX10_keep_46 : decode cX10_keep 46 = .ok (.bastore, 1) := by decide +kernel
theorem dX10_keep_47 : decode cX10_keep 47 = .ok (.aload_n 0, 1) := by decide +kernel
theorem dX10_keep_48 : decode cX10_keep 48 = .ok (.iconst 0, 1) := by decide +kernel
theorem dX10_keep_49 : decode cX10_keep 49 = .ok (.putfield 167, 3) := by decide +kernel
theorem dX10_keep_52 : decode cX10_keep 52 = .ok (.iconst 1, 1) := by decide +kernel
theorem dX10_keep_53 : decode cX10_keep 53 = .ok (.ireturn, 1) := by decide +kernel
theorem dX10_goBack_0 : decode cX10_goBack 0 = .ok (.iload_n 1, 1) := by decide +kernel
theorem dX10_goBack_1 : decode cX10_goBack 1 = .ok (.iconst 0, 1) := by decide +kernel
theorem dX10_goBack_2 : decode cX10_goBack 2 = .ok (.iconst 1, 1) := by decide +kernel
theorem dX10_goBack_3 : decode cX10_goBack 3 = .ok (.invokestatic 69, 3) := by decide +kernel
theorem dX10_goBack_6 : decode cX10_goBack 6 = .ok (.ifCond .ne 6, 3) := by decide +kernel
theorem dX10_goBack_9 : decode cX10_goBack 9 = .ok (.ldc 192, 2) := by decide +kernel
theorem dX10_goBack_11 : decode cX10_goBack 11 = .ok (.ireturn, 1) := by decide +kernel
theorem dX10_goBack_12 : decode cX10_goBack 12 = .ok (.aload_n 0, 1) := by decide +kernel
theorem dX10_goBack_13 : decode cX10_goBack 13 = .ok (.getfield 44, 3) := by decide +kernel
theorem dX10_goBack_16 : decode cX10_goBack 16 = .ok (.iload_n 1, 1) := by decide +kernel
theorem dX10_goBack_17 : decode cX10_goBack 17 = .ok (.baload, 1) := by decide +kernel
theorem dX10_goBack_18 : decode cX10_goBack 18 = .ok (.ifCond .ne 6, 3) := by decide +kernel
theorem dX10_goBack_21 : decode cX10_goBack 21 = .ok (.ldc 203, 2) := by decide +kernel
theorem dX10_goBack_23 : decode cX10_goBack 23 = .ok (.ireturn, 1) := by decide +kernel
theorem dX10_goBack_24 : decode cX10_goBack 24 = .ok (.aload_n 0, 1) := by decide +kernel
theorem dX10_goBack_25 : decode cX10_goBack 25 = .ok (.getfield 38, 3) := by decide +kernel
theorem dX10_goBack_28 : decode cX10_goBack 28 = .ok (.bipush 32, 2) := by decide +kernel
theorem dX10_goBack_30 : decode cX10_goBack 30 = .ok (.iload_n 1, 1) := by decide +kernel
theorem dX10_goBack_31 : decode cX10_goBack 31 = .ok (.imul, 1) := by decide +kernel
theorem dX10_goBack_32 : decode cX10_goBack 32 = .ok (.aload_n 0, 1) := by decide +kernel
theorem dX10_goBack_33 : decode cX10_goBack 33 = .ok (.getfield 32, 3) := by decide +kernel
theorem dX10_goBack_36 : decode cX10_goBack 36 = .ok (.iconst 0, 1) := by decide +kernel
theorem dX10_goBack_37 : decode cX10_goBack 37 = .ok (.bipush 32, 2) := by decide +kernel
theorem dX10_goBack_39 : decode cX10_goBack 39 = .ok (.invokestatic 157, 3) := by decide +kernel
theorem dX10_goBack_42 : decode cX10_goBack 42 = .ok (.aload_n 0, 1) := by decide +kernel
theorem dX10_goBack_43 : decode cX10_goBack 43 = .ok (.aload_n 0, 1) := by decide +kernel
theorem dX10_goBack_44 : decode cX10_goBack 44 = .ok (.getfield 41, 3) := by decide +kernel
theorem dX10_goBack_47 : decode cX10_goBack 47 = .ok (.iload_n 1, 1) := by decide +kernel
theorem dX10_goBack_48 : decode cX10_goBack 48 = .ok (.iaload, 1) := by decide +kernel
theorem dX10_goBack_49 : decode cX10_goBack 49 = .ok (.putfield 223, 3) := by decide +kernel
theorem dX10_goBack_52 : decode cX10_goBack 52 = .ok (.aload_n 0, 1) := by decide +kernel
theorem dX10_goBack_53 : decode cX10_goBack 53 = .ok (.iconst 0, 1) := by decide +kernel
theorem dX10_goBack_54 : decode cX10_goBack 54 = .ok (.putfield 167, 3) := by decide +kernel
theorem dX10_goBack_57 : decode cX10_goBack 57 = .ok (.iconst 1, 1) := by decide +kernel
theorem dX10_goBack_58 : decode cX10_goBack 58 = .ok (.ireturn, 1) := by decide +kernel
theorem dJ6_bitCount_0f7a4_0 : decode cJ6_bitCount_0f7a4 0 = .ok (.iload_n 0, 1) := by decide +kernel
theorem dJ6_bitCount_0f7a4_1 : decode cJ6_bitCount_0f7a4 1 = .ok (.iload_n 0, 1) := by decide +kernel
theorem dJ6_bitCount_0f7a4_2 : decode cJ6_bitCount_0f7a4 2 = .ok (.iconst 1, 1) := by decide +kernel
theorem dJ6_bitCount_0f7a4_3 : decode cJ6_bitCount_0f7a4 3 = .ok (.iushr, 1) := by decide +kernel
theorem dJ6_bitCount_0f7a4_4 : decode cJ6_bitCount_0f7a4 4 = .ok (.ldc_w 265, 3) := by decide +kernel
theorem dJ6_bitCount_0f7a4_7 : decode cJ6_bitCount_0f7a4 7 = .ok (.iand, 1) := by decide +kernel
theorem dJ6_bitCount_0f7a4_8 : decode cJ6_bitCount_0f7a4 8 = .ok (.isub, 1) := by decide +kernel
theorem dJ6_bitCount_0f7a4_9 : decode cJ6_bitCount_0f7a4 9 = .ok (.istore_n 0, 1) := by decide +kernel
theorem dJ6_bitCount_0f7a4_10 : decode cJ6_bitCount_0f7a4 10 = .ok (.iload_n 0, 1) := by decide +kernel
theorem dJ6_bitCount_0f7a4_11 : decode cJ6_bitCount_0f7a4 11 = .ok (.ldc_w 266, 3) := by decide +kernel
theorem dJ6_bitCount_0f7a4_14 : decode cJ6_bitCount_0f7a4 14 = .ok (.iand, 1) := by decide +kernel
theorem dJ6_bitCount_0f7a4_15 : decode cJ6_bitCount_0f7a4 15 = .ok (.iload_n 0, 1) := by decide +kernel
theorem dJ6_bitCount_0f7a4_16 : decode cJ6_bitCount_0f7a4 16 = .ok (.iconst 2, 1) := by decide +kernel
theorem dJ6_bitCount_0f7a4_17 : decode cJ6_bitCount_0f7a4 17 = .ok (.iushr, 1) := by decide +kernel
theorem dJ6_bitCount_0f7a4_18 : decode cJ6_bitCount_0f7a4 18 = .ok (.ldc_w 266, 3) := by decide +kernel
theorem dJ6_bitCount_0f7a4_21 : decode cJ6_bitCount_0f7a4 21 = .ok (.iand, 1) := by decide +kernel
theorem dJ6_bitCount_0f7a4_22 : decode cJ6_bitCount_0f7a4 22 = .ok (.iadd, 1) := by decide +kernel
theorem dJ6_bitCount_0f7a4_23 : decode cJ6_bitCount_0f7a4 23 = .ok (.istore_n 0, 1) := by decide +kernel
theorem dJ6_bitCount_0f7a4_24 : decode cJ6_bitCount_0f7a4 24 = .ok (.iload_n 0, 1) := by decide +kernel
theorem dJ6_bitCount_0f7a4_25 : decode cJ6_bitCount_0f7a4 25 = .ok (.iload_n 0, 1) := by decide +kernel
theorem dJ6_bitCount_0f7a4_26 : decode cJ6_bitCount_0f7a4 26 = .ok (.iconst 4, 1) := by decide +kernel
theorem dJ6_bitCount_0f7a4_27 : decode cJ6_bitCount_0f7a4 27 = .ok (.iushr, 1) := by decide +kernel
theorem dJ6_bitCount_0f7a4_28 : decode cJ6_bitCount_0f7a4 28 = .ok (.iadd, 1) := by decide +kernel
theorem dJ6_bitCount_0f7a4_29 : decode cJ6_bitCount_0f7a4 29 = .ok (.ldc_w 267, 3) := by decide +kernel
theorem dJ6_bitCount_0f7a4_32 : decode cJ6_bitCount_0f7a4 32 = .ok (.iand, 1) := by decide +kernel
theorem dJ6_bitCount_0f7a4_33 : decode cJ6_bitCount_0f7a4 33 = .ok (.istore_n 0, 1) := by decide +kernel
theorem dJ6_bitCount_0f7a4_34 : decode cJ6_bitCount_0f7a4 34 = .ok (.iload_n 0, 1) := by decide +kernel
theorem dJ6_bitCount_0f7a4_35 : decode cJ6_bitCount_0f7a4 35 = .ok (.iload_n 0, 1) := by decide +kernel
theorem dJ6_bitCount_0f7a4_36 : decode cJ6_bitCount_0f7a4 36 = .ok (.bipush 8, 2) := by decide +kernel
theorem dJ6_bitCount_0f7a4_38 : decode cJ6_bitCount_0f7a4 38 = .ok (.iushr, 1) := by decide +kernel
theorem dJ6_bitCount_0f7a4_39 : decode cJ6_bitCount_0f7a4 39 = .ok (.iadd, 1) := by decide +kernel
theorem dJ6_bitCount_0f7a4_40 : decode cJ6_bitCount_0f7a4 40 = .ok (.istore_n 0, 1) := by decide +kernel
theorem dJ6_bitCount_0f7a4_41 : decode cJ6_bitCount_0f7a4 41 = .ok (.iload_n 0, 1) := by decide +kernel
theorem dJ6_bitCount_0f7a4_42 : decode cJ6_bitCount_0f7a4 42 = .ok (.iload_n 0, 1) := by decide +kernel
