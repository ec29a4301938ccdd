theorem dX10_waysOf_53 : decode cX10_waysOf 53 = .ok (.iload_n 2, 1) := by decide +kernel
theorem dX10_waysOf_54 : decode cX10_waysOf 54 = .ok (.iload_n 1, 1) := by decide +kernel
theorem dX10_waysOf_55 : decode cX10_waysOf 55 = .ok (.isub, 1) := by decide +kernel
theorem dX10_waysOf_56 : decode cX10_waysOf 56 = .ok (.invokestatic 247, 3) := by decide +kernel
theorem dX10_waysOf_59 : decode cX10_waysOf 59 = .ok (.lmul, 1) := by decide +kernel
theorem dX10_waysOf_60 : decode cX10_waysOf 60 = .ok (.lreturn, 1) := by decide +kernel
theorem dX10_ways_0 : decode cX10_ways 0 = .ok (.aload_n 0, 1) := by decide +kernel
theorem dX10_ways_1 : decode cX10_ways 1 = .ok (.getfield 13, 3) := by decide +kernel
theorem dX10_ways_4 : decode cX10_ways 4 = .ok (.iconst 0, 1) := by decide +kernel
theorem dX10_ways_5 : decode cX10_ways 5 = .ok (.iaload, 1) := by decide +kernel
theorem dX10_ways_6 : decode cX10_ways 6 = .ok (.ifCond .le 24, 3) := by decide +kernel
theorem dX10_ways_9 : decode cX10_ways 9 = .ok (.iload_n 1, 1) := by decide +kernel
theorem dX10_ways_10 : decode cX10_ways 10 = .ok (.i2l, 1) := by decide +kernel
theorem dX10_ways_11 : decode cX10_ways 11 = .ok (.lconst 0, 1) := by decide +kernel
theorem dX10_ways_12 : decode cX10_ways 12 = .ok (.ldc2_w 100, 3) := by decide +kernel
theorem dX10_ways_15 : decode cX10_ways 15 = .ok (.invokestatic 66, 3) := by decide +kernel
theorem dX10_ways_18 : decode cX10_ways 18 = .ok (.ifCond .eq 12, 3) := by decide +kernel
theorem dX10_ways_21 : decode cX10_ways 21 = .ok (.aload_n 0, 1) := by decide +kernel
theorem dX10_ways_22 : decode cX10_ways 22 = .ok (.iload_n 1, 1) := by decide +kernel
theorem dX10_ways_23 : decode cX10_ways 23 = .ok (.invokevirtual 251, 3) := by decide +kernel
theorem dX10_ways_26 : decode cX10_ways 26 = .ok (.l2i, 1) := by decide +kernel
theorem dX10_ways_27 : decode cX10_ways 27 = .ok (.goto 4, 3) := by decide +kernel
theorem dX10_ways_30 : decode cX10_ways 30 = .ok (.iconst (-1), 1) := by decide +kernel
theorem dX10_ways_31 : decode cX10_ways 31 = .ok (.ireturn, 1) := by decide +kernel
theorem dX10_movesOf_0 : decode cX10_movesOf 0 = .ok (.lconst 0, 1) := by decide +kernel
theorem dX10_movesOf_1 : decode cX10_movesOf 1 = .ok (.lstore_n 3, 1) := by decide +kernel
theorem dX10_movesOf_2 : decode cX10_movesOf 2 = .ok (.iconst 0, 1) := by decide +kernel
theorem dX10_movesOf_3 : decode cX10_movesOf 3 = .ok (.istore 5, 2) := by decide +kernel
theorem dX10_movesOf_5 : decode cX10_movesOf 5 = .ok (.iload 5, 2) := by decide +kernel
theorem dX10_movesOf_7 : decode cX10_movesOf 7 = .ok (.iconst 4, 1) := by decide +kernel
theorem dX10_movesOf_8 : decode cX10_movesOf 8 = .ok (.if_icmp .ge 29, 3) := by decide +kernel
theorem dX10_movesOf_11 : decode cX10_movesOf 11 = .ok (.aload_n 0, 1) := by decide +kernel
theorem dX10_movesOf_12 : decode cX10_movesOf 12 = .ok (.iload_n 1, 1) := by decide +kernel
theorem dX10_movesOf_13 : decode cX10_movesOf 13 = .ok (.iload 5, 2) := by decide +kernel
theorem dX10_movesOf_15 : decode cX10_movesOf 15 = .ok (.invokevirtual 118, 3) := by decide +kernel
theorem dX10_movesOf_18 : decode cX10_movesOf 18 = .ok (.iload_n 2, 1) := by decide +kernel
theorem dX10_movesOf_19 : decode cX10_movesOf 19 = .ok (.if_icmp .ne 12, 3) := by decide +kernel
theorem dX10_movesOf_22 : decode cX10_movesOf 22 = .ok (.lload_n 3, 1) := by decide +kernel
theorem dX10_movesOf_23 : decode cX10_movesOf 23 = .ok (.aload_n 0, 1) := by decide +kernel
theorem dX10_movesOf_24 : decode cX10_movesOf 24 = .ok (.iload 5, 2) := by decide +kernel
theorem dX10_movesOf_26 : decode cX10_movesOf 26 = .ok (.invokevirtual 251, 3) := by decide +kernel
theorem dX10_movesOf_29 : decode cX10_movesOf 29 = .ok (.ladd, 1) := by decide +kernel
theorem dX10_movesOf_30 : decode cX10_movesOf 30 = .ok (.lstore_n 3, 1) := by decide +kernel
theorem dX10_movesOf_31 : decode cX10_movesOf 31 = .ok (.iinc 5 1, 3) := by decide +kernel
theorem dX10_movesOf_34 : decode cX10_movesOf 34 = .ok (.goto (-29), 3) := by decide +kernel
theorem dX10_movesOf_37 : decode cX10_movesOf 37 = .ok (.lload_n 3, 1) := by decide +kernel
theorem dX10_movesOf_38 : decode cX10_movesOf 38 = .ok (.lreturn, 1) := by decide +kernel
theorem dX10_moves_0 : decode cX10_moves 0 = .ok (.aload_n 0, 1) := by decide +kernel
theorem dX10_moves_1 : decode cX10_moves 1 = .ok (.iload_n 1, 1) := by decide +kernel
theorem dX10_moves_2 : decode cX10_moves 2 = .ok (.invokevirtual 84, 3) := by decide +kernel
theorem dX10_moves_5 : decode cX10_moves 5 = .ok (.ifCond .eq 21, 3) := by decide +kernel
theorem dX10_moves_8 : decode cX10_moves 8 = .ok (.aload_n 0, 1) := by decide +kernel
theorem dX10_moves_9 : decode cX10_moves 9 = .ok (.iload_n 2, 1) := by decide +kernel
theorem dX10_moves_10 : decode cX10_moves 10 = .ok (.invokevirtual 84, 3) := by decide +kernel
theorem dX10_moves_13 : decode cX10_moves 13 = .ok (.ifCond .eq 13, 3) := by decide +kernel
theorem dX10_moves_16 : decode cX10_moves 16 = .ok (.aload_n 0, 1) := by decide +kernel
theorem dX10_moves_17 : decode cX10_moves 17 = .ok (.iload_n 1, 1) := by decide +kernel
theorem dX10_moves_18 : decode cX10_moves 18 = .ok (.iload_n 2, 1) := by decide +kernel
theorem dX10_moves_19 : decode cX10_moves 19 = .ok (.invokevirtual 255, 3) := by decide +kernel
theorem dX10_moves_22 : decode cX10_moves 22 = .ok (.l2i, 1) := by decide +kernel
theorem dX10_moves_23 : decode cX10_moves 23 = .ok (.goto 4, 3) := by decide +kernel
theorem dX10_moves_26 : decode cX10_moves 26 = .ok (.iconst (-1), 1) := by decide +kernel
theorem dX10_moves_27 : decode cX10_moves 27 = .ok (.ireturn, 1) := by decide +kernel
theorem dX10_spread_0 : decode cX10_spread 0 = .ok (.aload_n 0, 1) := by decide +kernel
theorem dX10_spread_1 : decode cX10_spread 1 = .ok (.iload_n 2, 1) := by decide +kernel
theorem dX10_spread_2 : decode cX10_spread 2 = .ok (.invokevirtual 84, 3) := by decide +kernel
theorem dX10_spread_5 : decode cX10_spread 5 = .ok (.ifCond .eq 30, 3) := by decide +kernel
theorem dX10_spread_8 : decode cX10_spread 8 = .ok (.aload_n 0, 1) := by decide +kernel
theorem dX10_spread_9 : decode cX10_spread 9 = .ok (.iload_n 3, 1) := by decide +kernel
theorem dX10_spread_10 : decode cX10_spread 10 = .ok (.invokevirtual 84, 3) := by decide +kernel
theorem dX10_spread_13 : decode cX10_spread 13 = .ok (.ifCond .eq 22, 3) := by decide +kernel
theorem dX10_spread_16 : decode cX10_spread 16 = .ok (.iload_n 1, 1) := by decide +kernel
theorem dX10_spread_17 : decode cX10_spread 17 = .ok (.i2l, 1) := by decide +kernel
theorem dX10_spread_18 : decode cX10_spread 18 = .ok (.lconst 0, 1) := by decide +kernel
theorem dX10_spread_19 : decode cX10_spread 19 = .ok (.bipush 16, 2) := by decide +kernel
theorem dX10_spread_21 : decode cX10_spread 21 = .ok (.aload_n 0, 1) := by decide +kernel
theorem dX10_spread_22 : decode cX10_spread 22 = .ok (.getfield 13, 3) := by decide +kernel
theorem dX10_spread_25 : decode cX10_spread 25 = .ok (.iconst 2, 1) := by decide +kernel
theorem dX10_spread_26 : decode cX10_spread 26 = .ok (.iaload, 1) := by decide +kernel
theorem dX10_spread_27 : decode cX10_spread 27 = .ok (.idiv, 1) := by decide +kernel
theorem dX10_spread_28 : decode cX10_spread 28 = .ok (.i2l, 1) := by decide +kernel
theorem dX10_spread_29 : decode cX10_spread 29 = .ok (.invokestatic 66, 3) := by decide +kernel
theorem dX10_spread_32 : decode cX10_spread 32 = .ok (.ifCond .ne 7, 3) := by decide +kernel
theorem dX10_spread_35 : decode cX10_spread 35 = .ok (.ldc2_w 233, 3) := by decide +kernel
theorem dX10_spread_38 : decode cX10_spread 38 = .ok (.lreturn, 1) := by decide +kernel
theorem dX10_spread_39 : decode cX10_spread 39 = .ok (.iconst 0, 1) := by decide +kernel
theorem dX10_spread_40 : decode cX10_spread 40 = .ok (.istore 4, 2) := by decide +kernel
theorem dX10_spread_42 : decode cX10_spread 42 = .ok (.iload 4, 2) := by decide +kernel
theorem dX10_spread_44 : decode cX10_spread 44 = .ok (.bipush 8, 2) := by decide +kernel
theorem dX10_spread_46 : decode cX10_spread 46 = .ok (.if_icmp .ge 27, 3) := by decide +kernel
theorem dX10_spread_49 : decode cX10_spread 49 = .ok (.aload_n 0, 1) := by decide +kernel
theorem dX10_spread_50 : decode cX10_spread 50 = .ok (.getfield 37, 3) := by decide +kernel
theorem dX10_spread_53 : decode cX10_spread 53 = .ok (.iload 4, 2) := by decide +kernel
theorem dX10_spread_55 : decode cX10_spread 55 = .ok (.iload 4, 2) := by decide +kernel
theorem dX10_spread_57 : decode cX10_spread 57 = .ok (.iload_n 2, 1) := by decide +kernel
theorem dX10_spread_58 : decode cX10_spread 58 = .ok (.if_icmp .ne 7, 3) := by decide +kernel
theorem dX10_spread_61 : decode cX10_spread 61 = .ok (.lconst 1, 1) := by decide +kernel
theorem dX10_spread_62 : decode cX10_spread 62 = .ok (.goto 4, 3) := by decide +kernel
theorem dX10_spread_65 : decode cX10_spread 65 = .ok (.lconst 0, 1) := by decide +kernel
theorem dX10_spread_66 : decode cX10_spread 66 = .ok (.lastore, 1) := by decide +kernel
theorem dX10_spread_67 : decode cX10_spread 67 = .ok (.iinc 4 1, 3) := by decide +kernel
theorem dX10_spread_70 : decode cX10_spread 70 = .ok (.goto (-28), 3) := by decide +kernel
theorem dX10_spread_73 : decode cX10_spread 73 = .ok (.iconst 0, 1) := by decide +kernel
theorem dX10_spread_74 : decode cX10_spread 74 = .ok (.istore 4, 2) := by decide +kernel
theorem dX10_spread_76 : decode cX10_spread 76 = .ok (.iload 4, 2) := by decide +kernel
theorem dX10_spread_78 : decode cX10_spread 78 = .ok (.iload_n 1, 1) := by decide +kernel
theorem dX10_spread_79 : decode cX10_spread 79 = .ok (.if_icmp .ge 129, 3) := by decide +kernel
theorem dX10_spread_82 : decode cX10_spread 82 = .ok (.iconst 0, 1) := by decide +kernel
theorem dX10_spread_83 : decode cX10_spread 83 = .ok (.istore 5, 2) := by decide +kernel
theorem dX10_spread_85 : decode cX10_spread 85 = .ok (.iload 5, 2) := by decide +kernel
theorem dX10_spread_87 : decode cX10_spread 87 = .ok (.bipush 8, 2) := by decide +kernel
theorem dX10_spread_89 : decode cX10_spread 89 = .ok (.if_icmp .ge 17, 3) := by decide +kernel
theorem dX10_spread_92 : decode cX10_spread 92 = .ok (.aload_n 0, 1) := by decide +kernel
theorem dX10_spread_93 : decode cX10_spread 93 = .ok (.getfield 40, 3) := by decide +kernel
theorem dX10_spread_96 : decode cX10_spread 96 = .ok (.iload 5, 2) := by decide +kernel
theorem dX10_spread_98 : decode cX10_spread 98 = .ok (.lconst 0, 1) := by decide +kernel
theorem dX10_spread_99 : decode cX10_spread 99 = .ok (.lastore, 1) := by decide +kernel
theorem dX10_spread_100 : decode cX10_spread 100 = .ok (.iinc 5 1, 3) := by decide +kernel
theorem dX10_spread_103 : decode cX10_spread 103 = .ok (.goto (-18), 3) := by decide +kernel
theorem dX10_spread_106 : decode cX10_spread 106 = .ok (.iconst 0, 1) := by decide +kernel
theorem dX10_spread_107 : decode cX10_spread 107 = .ok (.istore 5, 2) := by decide +kernel
theorem dX10_spread_109 : decode cX10_spread 109 = .ok (.iload 5, 2) := by decide +kernel
theorem dX10_spread_111 : decode cX10_spread 111 = .ok (.aload_n 0, 1) := by decide +kernel
theorem dX10_spread_112 : decode cX10_spread 112 = .ok (.getfield 13, 3) := by decide +kernel
theorem dX10_spread_115 : decode cX10_spread 115 = .ok (.iconst 0, 1) := by decide +kernel
theorem dX10_spread_116 : decode cX10_spread 116 = .ok (.iaload, 1) := by decide +kernel
theorem dX10_spread_117 : decode cX10_spread 117 = .ok (.if_icmp .ge 55, 3) := by decide +kernel
theorem dX10_spread_120 : decode cX10_spread 120 = .ok (.iconst 0, 1) := by decide +kernel
theorem dX10_spread_121 : decode cX10_spread 121 = .ok (.istore 6, 2) := by decide +kernel
theorem dX10_spread_123 : decode cX10_spread 123 = .ok (.iload 6, 2) := by decide +kernel
theorem dX10_spread_125 : decode cX10_spread 125 = .ok (.aload_n 0, 1) := by decide +kernel
theorem dX10_spread_126 : decode cX10_spread 126 = .ok (.getfield 13, 3) := by decide +kernel
theorem dX10_spread_129 : decode cX10_spread 129 = .ok (.iconst 0, 1) := by decide +kernel
theorem dX10_spread_130 : decode cX10_spread 130 = .ok (.iaload, 1) := by decide +kernel
theorem dX10_spread_131 : decode cX10_spread 131 = .ok (.if_icmp .ge 35, 3) := by decide +kernel
theorem dX10_spread_134 : decode cX10_spread 134 = .ok (.aload_n 0, 1) := by decide +kernel
theorem dX10_spread_135 : decode cX10_spread 135 = .ok (.getfield 40, 3) := by decide +kernel
theorem dX10_spread_138 : decode cX10_spread 138 = .ok (.iload 6, 2) := by decide +kernel
theorem dX10_spread_140 : decode cX10_spread 140 = .ok (.dup2, 1) := by decide +kernel
theorem dX10_spread_141 : decode cX10_spread 141 = .ok (.laload, 1) := by decide +kernel
theorem dX10_spread_142 : decode cX10_spread 142 = .ok (.aload_n 0, 1) := by decide +kernel
theorem dX10_spread_143 : decode cX10_spread 143 = .ok (.getfield 37, 3) := by decide +kernel
theorem dX10_spread_146 : decode cX10_spread 146 = .ok (.iload 5, 2) := by decide +kernel
theorem dX10_spread_148 : decode cX10_spread 148 = .ok (.laload, 1) := by decide +kernel
theorem dX10_spread_149 : decode cX10_spread 149 = .ok (.aload_n 0, 1) := by decide +kernel
theorem dX10_spread_150 : decode cX10_spread 150 = .ok (.iload 5, 2) := by decide +kernel
theorem dX10_spread_152 : decode cX10_spread 152 = .ok (.iload 6, 2) := by decide +kernel
theorem dX10_spread_154 : decode cX10_spread 154 = .ok (.invokevirtual 255, 3) := by decide +kernel
theorem dX10_spread_157 : decode cX10_spread 157 = .ok (.lmul, 1) := by decide +kernel
theorem dX10_spread_158 : decode cX10_spread 158 = .ok (.ladd, 1) := by decide +kernel
theorem dX10_spread_159 : decode cX10_spread 159 = .ok (.lastore, 1) := by decide +kernel
theorem dX10_spread_160 : decode cX10_spread 160 = .ok (.iinc 6 1, 3) := by decide +kernel
theorem dX10_spread_163 : decode cX10_spread 163 = .ok (.goto (-40), 3) := by decide +kernel
theorem dX10_spread_166 : decode cX10_spread 166 = .ok (.iinc 5 1, 3) := by decide +kernel
theorem dX10_spread_169 : decode cX10_spread 169 = .ok (.goto (-60), 3) := by decide +kernel
theorem dX10_spread_172 : decode cX10_spread 172 = .ok (.iconst 0, 1) := by decide +kernel
theorem dX10_spread_173 : decode cX10_spread 173 = .ok (.istore 5, 2) := by decide +kernel
theorem dX10_spread_175 : decode cX10_spread 175 = .ok (.iload 5, 2) := by decide +kernel
theorem dX10_spread_177 : decode cX10_spread 177 = .ok (.bipush 8, 2) := by decide +kernel
theorem dX10_spread_179 : decode cX10_spread 179 = .ok (.if_icmp .ge 23, 3) := by decide +kernel
theorem dX10_spread_182 : decode cX10_spread 182 = .ok (.aload_n 0, 1) := by decide +kernel
theorem dX10_spread_183 : decode cX10_spread 183 = .ok (.getfield 37, 3) := by decide +kernel
theorem dX10_spread_186 : decode cX10_spread 186 = .ok (.iload 5, 2) := by decide +kernel
theorem dX10_spread_188 : decode cX10_spread 188 = .ok (.aload_n 0, 1) := by decide +kernel
theorem dX10_spread_189 : decode cX10_spread 189 = .ok (.getfield 40, 3) := by decide +kernel
theorem dX10_spread_192 : decode cX10_spread 192 = .ok (.iload 5, 2) := by decide +kernel
theorem dX10_spread_194 : decode cX10_spread 194 = .ok (.laload, 1) := by decide +kernel
theorem dX10_spread_195 : decode cX10_spread 195 = .ok (.lastore, 1) := by decide +kernel
theorem dX10_spread_196 : decode cX10_spread 196 = .ok (.iinc 5 1, 3) := by decide +kernel
theorem dX10_spread_199 : decode cX10_spread 199 = .ok (.goto (-24), 3) := by decide +kernel
theorem dX10_spread_202 : decode cX10_spread 202 = .ok (.iinc 4 1, 3) := by decide +kernel
theorem dX10_spread_205 : decode cX10_spread 205 = .ok (.goto (-129), 3) := by decide +kernel
theorem dX10_spread_208 : decode cX10_spread 208 = .ok (.aload_n 0, 1) := by decide +kernel
theorem dX10_spread_209 : decode cX10_spread 209 = .ok (.getfield 37, 3) := by decide +kernel
theorem dX10_spread_212 : decode cX10_spread 212 = .ok (.iload_n 3, 1) := by decide +kernel
theorem dX10_spread_213 : decode cX10_spread 213 = .ok (.laload, 1) := by decide +kernel
theorem dX10_spread_214 : decode cX10_spread 214 = .ok (.lreturn, 1) := by decide +kernel
theorem dX10_slotOf_0 : decode cX10_slotOf 0 = .ok (.bipush 9, 2) := by decide +kernel
theorem dX10_slotOf_2 : decode cX10_slotOf 2 = .ok (.iload_n 0, 1) := by decide +kernel
theorem dX10_slotOf_3 : decode cX10_slotOf 3 = .ok (.imul, 1) := by decide +kernel
theorem dX10_slotOf_4 : decode cX10_slotOf 4 = .ok (.iconst 3, 1) := by decide +kernel
theorem dX10_slotOf_5 : decode cX10_slotOf 5 = .ok (.iload_n 1, 1) := by decide +kernel
theorem dX10_slotOf_6 : decode cX10_slotOf 6 = .ok (.imul, 1) := by decide +kernel
theorem dX10_slotOf_7 : decode cX10_slotOf 7 = .ok (.iadd, 1) := by decide +kernel
theorem dX10_slotOf_8 : decode cX10_slotOf 8 = .ok (.iload_n 2, 1) := by decide +kernel
theorem dX10_slotOf_9 : decode cX10_slotOf 9 = .ok (.iadd, 1) := by decide +kernel
theorem dX10_slotOf_10 : decode cX10_slotOf 10 = .ok (.ireturn, 1) := by decide +kernel
theorem dX10_more_0 : decode cX10_more 0 = .ok (.iload_n 0, 1) := by decide +kernel
theorem dX10_more_1 : decode cX10_more 1 = .ok (.iconst 2, 1) := by decide +kernel
theorem dX10_more_2 : decode cX10_more 2 = .ok (.if_icmp .ge 9, 3) := by decide +kernel
theorem dX10_more_5 : decode cX10_more 5 = .ok (.iload_n 0, 1) := by decide +kernel
theorem dX10_more_6 : decode cX10_more 6 = .ok (.iconst 1, 1) := by decide +kernel
theorem dX10_more_7 : decode cX10_more 7 = .ok (.iadd, 1) := by decide +kernel
theorem dX10_more_8 : decode cX10_more 8 = .ok (.goto 4, 3) := by decide +kernel
theorem dX10_more_11 : decode cX10_more 11 = .ok (.iconst 2, 1) := by decide +kernel
theorem dX10_more_12 : decode cX10_more 12 = .ok (.ireturn, 1) := by decide +kernel
theorem dX10_bothChance_0 : decode cX10_bothChance 0 = .ok (.aload_n 0, 1) := by decide +kernel
theorem dX10_bothChance_1 : decode cX10_bothChance 1 = .ok (.invokevirtual 135, 3) := by decide +kernel
theorem dX10_bothChance_4 : decode cX10_bothChance 4 = .ok (.istore 4, 2) := by decide +kernel
theorem dX10_bothChance_6 : decode cX10_bothChance 6 = .ok (.aload_n 0, 1) := by decide +kernel
theorem dX10_bothChance_7 : decode cX10_bothChance 7 = .ok (.getfield 46, 3) := by decide +kernel
theorem dX10_bothChance_10 : decode cX10_bothChance 10 = .ok (.iload_n 1, 1) := by decide +kernel
theorem dX10_bothChance_11 : decode cX10_bothChance 11 = .ok (.iconst 1, 1) := by decide +kernel
theorem dX10_bothChance_12 : decode cX10_bothChance 12 = .ok (.iadd, 1) := by decide +kernel
theorem dX10_bothChance_13 : decode cX10_bothChance 13 = .ok (.iload_n 2, 1) := by decide +kernel
theorem dX10_bothChance_14 : decode cX10_bothChance 14 = .ok (.iload_n 3, 1) := by decide +kernel
theorem dX10_bothChance_15 : decode cX10_bothChance 15 = .ok (.invokestatic 258, 3) := by decide +kernel
theorem dX10_bothChance_18 : decode cX10_bothChance 18 = .ok (.laload, 1) := by decide +kernel
theorem dX10_bothChance_19 : decode cX10_bothChance 19 = .ok (.lstore 5, 2) := by decide +kernel
theorem dX10_bothChance_21 : decode cX10_bothChance 21 = .ok (.bipush 12, 2) := by decide +kernel
theorem dX10_bothChance_23 : decode cX10_bothChance 23 = .ok (.aload_n 0, 1) := by decide +kernel
theorem dX10_bothChance_24 : decode cX10_bothChance 24 = .ok (.getfield 13, 3) := by decide +kernel
theorem dX10_bothChance_27 : decode cX10_bothChance 27 = .ok (.iconst 3, 1) := by decide +kernel
theorem dX10_bothChance_28 : decode cX10_bothChance 28 = .ok (.iaload, 1) := by decide +kernel
theorem dX10_bothChance_29 : decode cX10_bothChance 29 = .ok (.isub, 1) := by decide +kernel
theorem dX10_bothChance_30 : decode cX10_bothChance 30 = .ok (.iload 4, 2) := by decide +kernel
theorem dX10_bothChance_32 : decode cX10_bothChance 32 = .ok (.imul, 1) := by decide +kernel
theorem dX10_bothChance_33 : decode cX10_bothChance 33 = .ok (.i2l, 1) := by decide +kernel
theorem dX10_bothChance_34 : decode cX10_bothChance 34 = .ok (.lload 5, 2) := by decide +kernel
theorem dX10_bothChance_36 : decode cX10_bothChance 36 = .ok (.lmul, 1) := by decide +kernel
theorem dX10_bothChance_37 : decode cX10_bothChance 37 = .ok (.lstore 7, 2) := by decide +kernel
theorem dX10_bothChance_39 : decode cX10_bothChance 39 = .ok (.iconst 0, 1) := by decide +kernel
theorem dX10_bothChance_40 : decode cX10_bothChance 40 = .ok (.istore 9, 2) := by decide +kernel
theorem dX10_bothChance_42 : decode cX10_bothChance 42 = .ok (.iload 9, 2) := by decide +kernel
theorem dX10_bothChance_44 : decode cX10_bothChance 44 = .ok (.aload_n 0, 1) := by decide +kernel
theorem dX10_bothChance_45 : decode cX10_bothChance 45 = .ok (.getfield 13, 3) := by decide +kernel
theorem dX10_bothChance_48 : decode cX10_bothChance 48 = .ok (.iconst 1, 1) := by decide +kernel
theorem dX10_bothChance_49 : decode cX10_bothChance 49 = .ok (.iaload, 1) := by decide +kernel
theorem dX10_bothChance_50 : decode cX10_bothChance 50 = .ok (.if_icmp .ge 104, 3) := by decide +kernel
theorem dX10_bothChance_53 : decode cX10_bothChance 53 = .ok (.aload_n 0, 1) := by decide +kernel
theorem dX10_bothChance_54 : decode cX10_bothChance 54 = .ok (.iload 9, 2) := by decide +kernel
theorem dX10_bothChance_56 : decode cX10_bothChance 56 = .ok (.invokevirtual 124, 3) := by decide +kernel
theorem dX10_bothChance_59 : decode cX10_bothChance 59 = .ok (.i2l, 1) := by decide +kernel
theorem dX10_bothChance_60 : decode cX10_bothChance 60 = .ok (.ldc2_w 179, 3) := by decide +kernel
theorem dX10_bothChance_63 : decode cX10_bothChance 63 = .ok (.lmul, 1) := by decide +kernel
theorem dX10_bothChance_64 : decode cX10_bothChance 64 = .ok (.lstore 10, 2) := by decide +kernel
theorem dX10_bothChance_66 : decode cX10_bothChance 66 = .ok (.lload 10, 2) := by decide +kernel
theorem dX10_bothChance_68 : decode cX10_bothChance 68 = .ok (.aload_n 0, 1) := by decide +kernel
theorem dX10_bothChance_69 : decode cX10_bothChance 69 = .ok (.getfield 46, 3) := by decide +kernel
theorem dX10_bothChance_72 : decode cX10_bothChance 72 = .ok (.iload_n 1, 1) := by decide +kernel
theorem dX10_bothChance_73 : decode cX10_bothChance 73 = .ok (.iconst 1, 1) := by decide +kernel
theorem dX10_bothChance_74 : decode cX10_bothChance 74 = .ok (.iadd, 1) := by decide +kernel
theorem dX10_bothChance_75 : decode cX10_bothChance 75 = .ok (.iload_n 2, 1) := by decide +kernel
theorem dX10_bothChance_76 : decode cX10_bothChance 76 = .ok (.invokestatic 261, 3) := by decide +kernel
theorem dX10_bothChance_79 : decode cX10_bothChance 79 = .ok (.iload_n 3, 1) := by decide +kernel
theorem dX10_bothChance_80 : decode cX10_bothChance 80 = .ok (.invokestatic 258, 3) := by decide +kernel
theorem dX10_bothChance_83 : decode cX10_bothChance 83 = .ok (.laload, 1) := by decide +kernel
theorem dX10_bothChance_84 : decode cX10_bothChance 84 = .ok (.ladd, 1) := by decide +kernel
theorem dX10_bothChance_85 : decode cX10_bothChance 85 = .ok (.lload 10, 2) := by decide +kernel
theorem dX10_bothChance_87 : decode cX10_bothChance 87 = .ok (.aload_n 0, 1) := by decide +kernel
theorem dX10_bothChance_88 : decode cX10_bothChance 88 = .ok (.getfield 46, 3) := by decide +kernel
theorem dX10_bothChance_91 : decode cX10_bothChance 91 = .ok (.iload_n 1, 1) := by decide +kernel
theorem dX10_bothChance_92 : decode cX10_bothChance 92 = .ok (.iconst 1, 1) := by decide +kernel
theorem dX10_bothChance_93 : decode cX10_bothChance 93 = .ok (.iadd, 1) := by decide +kernel
theorem dX10_bothChance_94 : decode cX10_bothChance 94 = .ok (.iload_n 2, 1) := by decide +kernel
theorem dX10_bothChance_95 : decode cX10_bothChance 95 = .ok (.iload_n 3, 1) := by decide +kernel
theorem dX10_bothChance_96 : decode cX10_bothChance 96 = .ok (.invokestatic 261, 3) := by decide +kernel
theorem dX10_bothChance_99 : decode cX10_bothChance 99 = .ok (.invokestatic 258, 3) := by decide +kernel
theorem dX10_bothChance_102 : decode cX10_bothChance 102 = .ok (.laload, 1) := by decide +kernel
theorem dX10_bothChance_103 : decode cX10_bothChance 103 = .ok (.ladd, 1) := by decide +kernel
theorem dX10_bothChance_104 : decode cX10_bothChance 104 = .ok (.invokestatic 264, 3) := by decide +kernel
theorem dX10_bothChance_107 : decode cX10_bothChance 107 = .ok (.lstore 12, 2) := by decide +kernel
theorem dX10_bothChance_109 : decode cX10_bothChance 109 = .ok (.lload 7, 2) := by decide +kernel
theorem dX10_bothChance_111 : decode cX10_bothChance 111 = .ok (.aload_n 0, 1) := by decide +kernel
theorem dX10_bothChance_112 : decode cX10_bothChance 112 = .ok (.getfield 13, 3) := by decide +kernel
theorem dX10_bothChance_115 : decode cX10_bothChance 115 = .ok (.iconst 3, 1) := by decide +kernel
theorem dX10_bothChance_116 : decode cX10_bothChance 116 = .ok (.iaload, 1) := by decide +kernel
theorem dX10_bothChance_117 : decode cX10_bothChance 117 = .ok (.aload_n 0, 1) := by decide +kernel
theorem dX10_bothChance_118 : decode cX10_bothChance 118 = .ok (.iload 9, 2) := by decide +kernel
theorem dX10_bothChance_120 : decode cX10_bothChance 120 = .ok (.invokevirtual 70, 3) := by decide +kernel
theorem dX10_bothChance_123 : decode cX10_bothChance 123 = .ok (.imul, 1) := by decide +kernel
theorem dX10_bothChance_124 : decode cX10_bothChance 124 = .ok (.i2l, 1) := by decide +kernel
theorem dX10_bothChance_125 : decode cX10_bothChance 125 = .ok (.lload 12, 2) := by decide +kernel
theorem dX10_bothChance_127 : decode cX10_bothChance 127 = .ok (.aload_n 0, 1) := by decide +kernel
theorem dX10_bothChance_128 : decode cX10_bothChance 128 = .ok (.iload 9, 2) := by decide +kernel
theorem dX10_bothChance_130 : decode cX10_bothChance 130 = .ok (.invokevirtual 78, 3) := by decide +kernel
theorem dX10_bothChance_133 : decode cX10_bothChance 133 = .ok (.i2l, 1) := by decide +kernel
theorem dX10_bothChance_134 : decode cX10_bothChance 134 = .ok (.ldc2_w 179, 3) := by decide +kernel
theorem dX10_bothChance_137 : decode cX10_bothChance 137 = .ok (.lmul, 1) := by decide +kernel
theorem dX10_bothChance_138 : decode cX10_bothChance 138 = .ok (.lload 5, 2) := by decide +kernel
theorem dX10_bothChance_140 : decode cX10_bothChance 140 = .ok (.ladd, 1) := by decide +kernel
theorem dX10_bothChance_141 : decode cX10_bothChance 141 = .ok (.invokestatic 264, 3) := by decide +kernel
theorem dX10_bothChance_144 : decode cX10_bothChance 144 = .ok (.lmul, 1) := by decide +kernel
theorem dX10_bothChance_145 : decode cX10_bothChance 145 = .ok (.ladd, 1) := by decide +kernel
theorem dX10_bothChance_146 : decode cX10_bothChance 146 = .ok (.lstore 7, 2) := by decide +kernel
theorem dX10_bothChance_148 : decode cX10_bothChance 148 = .ok (.iinc 9 1, 3) := by decide +kernel
theorem dX10_bothChance_151 : decode cX10_bothChance 151 = .ok (.goto (-109), 3) := by decide +kernel
theorem dX10_bothChance_154 : decode cX10_bothChance 154 = .ok (.lload 7, 2) := by decide +kernel
theorem dX10_bothChance_156 : decode cX10_bothChance 156 = .ok (.bipush 12, 2) := by decide +kernel
theorem dX10_bothChance_158 : decode cX10_bothChance 158 = .ok (.iload 4, 2) := by decide +kernel
theorem dX10_bothChance_160 : decode cX10_bothChance 160 = .ok (.imul, 1) := by decide +kernel
theorem dX10_bothChance_161 : decode cX10_bothChance 161 = .ok (.i2l, 1) := by decide +kernel
theorem dX10_bothChance_162 : decode cX10_bothChance 162 = .ok (.ldiv, 1) := by decide +kernel
theorem dX10_bothChance_163 : decode cX10_bothChance 163 = .ok (.lreturn, 1) := by decide +kernel
theorem dX10_bothYear_0 : decode cX10_bothYear 0 = .ok (.iconst 2, 1) := by decide +kernel
theorem dX10_bothYear_1 : decode cX10_bothYear 1 = .ok (.aload_n 0, 1) := by decide +kernel
theorem dX10_bothYear_2 : decode cX10_bothYear 2 = .ok (.getfield 13, 3) := by decide +kernel
theorem dX10_bothYear_5 : decode cX10_bothYear 5 = .ok (.iconst 2, 1) := by decide +kernel
theorem dX10_bothYear_6 : decode cX10_bothYear 6 = .ok (.iaload, 1) := by decide +kernel
theorem dX10_bothYear_7 : decode cX10_bothYear 7 = .ok (.imul, 1) := by decide +kernel
theorem dX10_bothYear_8 : decode cX10_bothYear 8 = .ok (.istore 4, 2) := by decide +kernel
theorem dX10_bothYear_10 : decode cX10_bothYear 10 = .ok (.iconst 0, 1) := by decide +kernel
theorem dX10_bothYear_11 : decode cX10_bothYear 11 = .ok (.istore 5, 2) := by decide +kernel
theorem dX10_bothYear_13 : decode cX10_bothYear 13 = .ok (.iload 5, 2) := by decide +kernel
theorem dX10_bothYear_15 : decode cX10_bothYear 15 = .ok (.iconst 3, 1) := by decide +kernel
theorem dX10_bothYear_16 : decode cX10_bothYear 16 = .ok (.if_icmp .ge 68, 3) := by decide +kernel
theorem dX10_bothYear_19 : decode cX10_bothYear 19 = .ok (.iconst 0, 1) := by decide +kernel
theorem dX10_bothYear_20 : decode cX10_bothYear 20 = .ok (.istore 6, 2) := by decide +kernel
theorem dX10_bothYear_22 : decode cX10_bothYear 22 = .ok (.iload 6, 2) := by decide +kernel
theorem dX10_bothYear_24 : decode cX10_bothYear 24 = .ok (.iconst 3, 1) := by decide +kernel
theorem dX10_bothYear_25 : decode cX10_bothYear 25 = .ok (.if_icmp .ge 53, 3) := by decide +kernel
theorem dX10_bothYear_28 : decode cX10_bothYear 28 = .ok (.aload_n 0, 1) := by decide +kernel
theorem dX10_bothYear_29 : decode cX10_bothYear 29 = .ok (.getfield 46, 3) := by decide +kernel
theorem dX10_bothYear_32 : decode cX10_bothYear 32 = .ok (.iload 4, 2) := by decide +kernel
theorem dX10_bothYear_34 : decode cX10_bothYear 34 = .ok (.iload 5, 2) := by decide +kernel
theorem dX10_bothYear_36 : decode cX10_bothYear 36 = .ok (.iload 6, 2) := by decide +kernel
theorem dX10_bothYear_38 : decode cX10_bothYear 38 = .ok (.invokestatic 258, 3) := by decide +kernel
theorem dX10_bothYear_41 : decode cX10_bothYear 41 = .ok (.aload_n 0, 1) := by decide +kernel
theorem dX10_bothYear_42 : decode cX10_bothYear 42 = .ok (.getfield 43, 3) := by decide +kernel
theorem dX10_bothYear_45 : decode cX10_bothYear 45 = .ok (.bipush 64, 2) := by decide +kernel
theorem dX10_bothYear_47 : decode cX10_bothYear 47 = .ok (.iload_n 1, 1) := by decide +kernel
theorem dX10_bothYear_48 : decode cX10_bothYear 48 = .ok (.iconst 1, 1) := by decide +kernel
theorem dX10_bothYear_49 : decode cX10_bothYear 49 = .ok (.isub, 1) := by decide +kernel
theorem dX10_bothYear_50 : decode cX10_bothYear 50 = .ok (.imul, 1) := by decide +kernel
theorem dX10_bothYear_51 : decode cX10_bothYear 51 = .ok (.bipush 8, 2) := by decide +kernel
theorem dX10_bothYear_53 : decode cX10_bothYear 53 = .ok (.aload_n 0, 1) := by decide +kernel
theorem dX10_bothYear_54 : decode cX10_bothYear 54 = .ok (.iload_n 2, 1) := by decide +kernel
theorem dX10_bothYear_55 : decode cX10_bothYear 55 = .ok (.iload 5, 2) := by decide +kernel
theorem dX10_bothYear_57 : decode cX10_bothYear 57 = .ok (.invokevirtual 118, 3) := by decide +kernel
theorem dX10_bothYear_60 : decode cX10_bothYear 60 = .ok (.imul, 1) := by decide +kernel
theorem dX10_bothYear_61 : decode cX10_bothYear 61 = .ok (.iadd, 1) := by decide +kernel
theorem dX10_bothYear_62 : decode cX10_bothYear 62 = .ok (.aload_n 0, 1) := by decide +kernel
theorem dX10_bothYear_63 : decode cX10_bothYear 63 = .ok (.iload_n 3, 1) := by decide +kernel
theorem dX10_bothYear_64 : decode cX10_bothYear 64 = .ok (.iload 6, 2) := by decide +kernel
theorem dX10_bothYear_66 : decode cX10_bothYear 66 = .ok (.invokevirtual 118, 3) := by decide +kernel
theorem dX10_bothYear_69 : decode cX10_bothYear 69 = .ok (.iadd, 1) := by decide +kernel
theorem dX10_bothYear_70 : decode cX10_bothYear 70 = .ok (.laload, 1) := by decide +kernel
theorem dX10_bothYear_71 : decode cX10_bothYear 71 = .ok (.lastore, 1) := by decide +kernel
theorem dX10_bothYear_72 : decode cX10_bothYear 72 = .ok (.iinc 6 1, 3) := by decide +kernel
theorem dX10_bothYear_75 : decode cX10_bothYear 75 = .ok (.goto (-53), 3) := by decide +kernel
theorem dX10_bothYear_78 : decode cX10_bothYear 78 = .ok (.iinc 5 1, 3) := by decide +kernel
theorem dX10_bothYear_81 : decode cX10_bothYear 81 = .ok (.goto (-68), 3) := by decide +kernel
theorem dX10_bothYear_84 : decode cX10_bothYear 84 = .ok (.iload 4, 2) := by decide +kernel
theorem dX10_bothYear_86 : decode cX10_bothYear 86 = .ok (.iconst 1, 1) := by decide +kernel
theorem dX10_bothYear_87 : decode cX10_bothYear 87 = .ok (.isub, 1) := by decide +kernel
theorem dX10_bothYear_88 : decode cX10_bothYear 88 = .ok (.istore 5, 2) := by decide +kernel
theorem dX10_bothYear_90 : decode cX10_bothYear 90 = .ok (.iload 5, 2) := by decide +kernel
theorem dX10_bothYear_92 : decode cX10_bothYear 92 = .ok (.ifCond .lt 63, 3) := by decide +kernel
theorem dX10_bothYear_95 : decode cX10_bothYear 95 = .ok (.iconst 0, 1) := by decide +kernel
theorem dX10_bothYear_96 : decode cX10_bothYear 96 = .ok (.istore 6, 2) := by decide +kernel
theorem dX10_bothYear_98 : decode cX10_bothYear 98 = .ok (.iload 6, 2) := by decide +kernel
theorem dX10_bothYear_100 : decode cX10_bothYear 100 = .ok (.iconst 3, 1) := by decide +kernel
theorem dX10_bothYear_101 : decode cX10_bothYear 101 = .ok (.if_icmp .ge 48, 3) := by decide +kernel
theorem dX10_bothYear_104 : decode cX10_bothYear 104 = .ok (.iconst 0, 1) := by decide +kernel
theorem dX10_bothYear_105 : decode cX10_bothYear 105 = .ok (.istore 7, 2) := by decide +kernel
theorem dX10_bothYear_107 : decode cX10_bothYear 107 = .ok (.iload 7, 2) := by decide +kernel
theorem dX10_bothYear_109 : decode cX10_bothYear 109 = .ok (.iconst 3, 1) := by decide +kernel
theorem dX10_bothYear_110 : decode cX10_bothYear 110 = .ok (.if_icmp .ge 33, 3) := by decide +kernel
theorem dX10_bothYear_113 : decode cX10_bothYear 113 = .ok (.aload_n 0, 1) := by decide +kernel
theorem dX10_bothYear_114 : decode cX10_bothYear 114 = .ok (.getfield 46, 3) := by decide +kernel
theorem dX10_bothYear_117 : decode cX10_bothYear 117 = .ok (.iload 5, 2) := by decide +kernel
theorem dX10_bothYear_119 : decode cX10_bothYear 119 = .ok (.iload 6, 2) := by decide +kernel
theorem dX10_bothYear_121 : decode cX10_bothYear 121 = .ok (.iload 7, 2) := by decide +kernel
theorem dX10_bothYear_123 : decode cX10_bothYear 123 = .ok (.invokestatic 258, 3) := by decide +kernel
theorem dX10_bothYear_126 : decode cX10_bothYear 126 = .ok (.aload_n 0, 1) := by decide +kernel
theorem dX10_bothYear_127 : decode cX10_bothYear 127 = .ok (.iload 5, 2) := by decide +kernel
theorem dX10_bothYear_129 : decode cX10_bothYear 129 = .ok (.iload 6, 2) := by decide +kernel
theorem dX10_bothYear_131 : decode cX10_bothYear 131 = .ok (.iload 7, 2) := by decide +kernel
theorem dX10_bothYear_133 : decode cX10_bothYear 133 = .ok (.invokevirtual 267, 3) := by decide +kernel
theorem dX10_bothYear_136 : decode cX10_bothYear 136 = .ok (.lastore, 1) := by decide +kernel
theorem dX10_bothYear_137 : decode cX10_bothYear 137 = .ok (.iinc 7 1, 3) := by decide +kernel
theorem dX10_bothYear_140 : decode cX10_bothYear 140 = .ok (.goto (-33), 3) := by decide +kernel
theorem dX10_bothYear_143 : decode cX10_bothYear 143 = .ok (.iinc 6 1, 3) := by decide +kernel
theorem dX10_bothYear_146 : decode cX10_bothYear 146 = .ok (.goto (-48), 3) := by decide +kernel
theorem dX10_bothYear_149 : decode cX10_bothYear 149 = .ok (.iinc 5 (-1), 3) := by decide +kernel
theorem dX10_bothYear_152 : decode cX10_bothYear 152 = .ok (.goto (-62), 3) := by decide +kernel
theorem dX10_bothYear_155 : decode cX10_bothYear 155 = .ok (.aload_n 0, 1) := by decide +kernel
theorem dX10_bothYear_156 : decode cX10_bothYear 156 = .ok (.iload_n 2, 1) := by decide +kernel
theorem dX10_bothYear_157 : decode cX10_bothYear 157 = .ok (.iconst 0, 1) := by decide +kernel
theorem dX10_bothYear_158 : decode cX10_bothYear 158 = .ok (.invokevirtual 74, 3) := by decide +kernel
theorem dX10_bothYear_161 : decode cX10_bothYear 161 = .ok (.aload_n 0, 1) := by decide +kernel
theorem dX10_bothYear_162 : decode cX10_bothYear 162 = .ok (.iload_n 3, 1) := by decide +kernel
theorem dX10_bothYear_163 : decode cX10_bothYear 163 = .ok (.iconst 0, 1) := by decide +kernel
theorem dX10_bothYear_164 : decode cX10_bothYear 164 = .ok (.invokevirtual 74, 3) := by decide +kernel
theorem dX10_bothYear_167 : decode cX10_bothYear 167 = .ok (.iadd, 1) := by decide +kernel
theorem dX10_bothYear_168 : decode cX10_bothYear 168 = .ok (.i2l, 1) := by decide +kernel
theorem dX10_bothYear_169 : decode cX10_bothYear 169 = .ok (.ldc2_w 179, 3) := by decide +kernel
theorem dX10_bothYear_172 : decode cX10_bothYear 172 = .ok (.lmul, 1) := by decide +kernel
theorem dX10_bothYear_173 : decode cX10_bothYear 173 = .ok (.aload_n 0, 1) := by decide +kernel
theorem dX10_bothYear_174 : decode cX10_bothYear 174 = .ok (.getfield 46, 3) := by decide +kernel
theorem dX10_bothYear_177 : decode cX10_bothYear 177 = .ok (.iconst 0, 1) := by decide +kernel
theorem dX10_bothYear_178 : decode cX10_bothYear 178 = .ok (.laload, 1) := by decide +kernel
theorem dX10_bothYear_179 : decode cX10_bothYear 179 = .ok (.ladd, 1) := by decide +kernel
theorem dX10_bothYear_180 : decode cX10_bothYear 180 = .ok (.lreturn, 1) := by decide +kernel
theorem dX10_shared_0 : decode cX10_shared 0 = .ok (.iload_n 1, 1) := by decide +kernel
theorem dX10_shared_1 : decode cX10_shared 1 = .ok (.invokestatic 227, 3) := by decide +kernel
theorem dX10_shared_4 : decode cX10_shared 4 = .ok (.ifCond .eq 19, 3) := by decide +kernel
theorem dX10_shared_7 : decode cX10_shared 7 = .ok (.aload_n 0, 1) := by decide +kernel
theorem dX10_shared_8 : decode cX10_shared 8 = .ok (.iload_n 2, 1) := by decide +kernel
theorem dX10_shared_9 : decode cX10_shared 9 = .ok (.invokevirtual 84, 3) := by decide +kernel
theorem dX10_shared_12 : decode cX10_shared 12 = .ok (.ifCond .eq 11, 3) := by decide +kernel
theorem dX10_shared_15 : decode cX10_shared 15 = .ok (.aload_n 0, 1) := by decide +kernel
theorem dX10_shared_16 : decode cX10_shared 16 = .ok (.iload_n 3, 1) := by decide +kernel
theorem dX10_shared_17 : decode cX10_shared 17 = .ok (.invokevirtual 84, 3) := by decide +kernel
theorem dX10_shared_20 : decode cX10_shared 20 = .ok (.ifCond .ne 7, 3) := by decide +kernel
theorem dX10_shared_23 : decode cX10_shared 23 = .ok (.ldc2_w 233, 3) := by decide +kernel
theorem dX10_shared_26 : decode cX10_shared 26 = .ok (.lreturn, 1) := by decide +kernel
theorem dX10_shared_27 : decode cX10_shared 27 = .ok (.iconst 0, 1) := by decide +kernel
theorem dX10_shared_28 : decode cX10_shared 28 = .ok (.istore 4, 2) := by decide +kernel
theorem dX10_shared_30 : decode cX10_shared 30 = .ok (.iload 4, 2) := by decide +kernel
theorem dX10_shared_32 : decode cX10_shared 32 = .ok (.bipush 64, 2) := by decide +kernel
theorem dX10_shared_34 : decode cX10_shared 34 = .ok (.if_icmp .ge 17, 3) := by decide +kernel
theorem dX10_shared_37 : decode cX10_shared 37 = .ok (.aload_n 0, 1) := by decide +kernel
theorem dX10_shared_38 : decode cX10_shared 38 = .ok (.getfield 43, 3) := by decide +kernel
theorem dX10_shared_41 : decode cX10_shared 41 = .ok (.iload 4, 2) := by decide +kernel
theorem dX10_shared_43 : decode cX10_shared 43 = .ok (.lconst 0, 1) := by decide +kernel
theorem dX10_shared_44 : decode cX10_shared 44 = .ok (.lastore, 1) := by decide +kernel
theorem dX10_shared_45 : decode cX10_shared 45 = .ok (.iinc 4 1, 3) := by decide +kernel
theorem dX10_shared_48 : decode cX10_shared 48 = .ok (.goto (-18), 3) := by decide +kernel
theorem dX10_shared_51 : decode cX10_shared 51 = .ok (.iconst 1, 1) := by decide +kernel
theorem dX10_shared_52 : decode cX10_shared 52 = .ok (.istore 4, 2) := by decide +kernel
theorem dX10_shared_54 : decode cX10_shared 54 = .ok (.iload 4, 2) := by decide +kernel
theorem dX10_shared_56 : decode cX10_shared 56 = .ok (.iload_n 1, 1) := by decide +kernel
theorem dX10_shared_57 : decode cX10_shared 57 = .ok (.if_icmp .gt 78, 3) := by decide +kernel
theorem dX10_shared_60 : decode cX10_shared 60 = .ok (.iconst 0, 1) := by decide +kernel
theorem dX10_shared_61 : decode cX10_shared 61 = .ok (.istore 5, 2) := by decide +kernel
theorem dX10_shared_63 : decode cX10_shared 63 = .ok (.iload 5, 2) := by decide +kernel
theorem dX10_shared_65 : decode cX10_shared 65 = .ok (.aload_n 0, 1) := by decide +kernel
theorem dX10_shared_66 : decode cX10_shared 66 = .ok (.getfield 13, 3) := by decide +kernel
theorem dX10_shared_69 : decode cX10_shared 69 = .ok (.iconst 0, 1) := by decide +kernel
theorem dX10_shared_70 : decode cX10_shared 70 = .ok (.iaload, 1) := by decide +kernel
theorem dX10_shared_71 : decode cX10_shared 71 = .ok (.if_icmp .ge 58, 3) := by decide +kernel
theorem dX10_shared_74 : decode cX10_shared 74 = .ok (.iconst 0, 1) := by decide +kernel
theorem dX10_shared_75 : decode cX10_shared 75 = .ok (.istore 6, 2) := by decide +kernel
theorem dX10_shared_77 : decode cX10_shared 77 = .ok (.iload 6, 2) := by decide +kernel
theorem dX10_shared_79 : decode cX10_shared 79 = .ok (.aload_n 0, 1) := by decide +kernel
theorem dX10_shared_80 : decode cX10_shared 80 = .ok (.getfield 13, 3) := by decide +kernel
theorem dX10_shared_83 : decode cX10_shared 83 = .ok (.iconst 0, 1) := by decide +kernel
theorem dX10_shared_84 : decode cX10_shared 84 = .ok (.iaload, 1) := by decide +kernel
theorem dX10_shared_85 : decode cX10_shared 85 = .ok (.if_icmp .ge 38, 3) := by decide +kernel
theorem dX10_shared_88 : decode cX10_shared 88 = .ok (.aload_n 0, 1) := by decide +kernel
theorem dX10_shared_89 : decode cX10_shared 89 = .ok (.getfield 43, 3) := by decide +kernel
theorem dX10_shared_92 : decode cX10_shared 92 = .ok (.bipush 64, 2) := by decide +kernel
theorem dX10_shared_94 : decode cX10_shared 94 = .ok (.iload 4, 2) := by decide +kernel
theorem dX10_shared_96 : decode cX10_shared 96 = .ok (.imul, 1) := by decide +kernel
theorem dX10_shared_97 : decode cX10_shared 97 = .ok (.bipush 8, 2) := by decide +kernel
theorem dX10_shared_99 : decode cX10_shared 99 = .ok (.iload 5, 2) := by decide +kernel
theorem dX10_shared_101 : decode cX10_shared 101 = .ok (.imul, 1) := by decide +kernel
theorem dX10_shared_102 : decode cX10_shared 102 = .ok (.iadd, 1) := by decide +kernel
theorem dX10_shared_103 : decode cX10_shared 103 = .ok (.iload 6, 2) := by decide +kernel
theorem dX10_shared_105 : decode cX10_shared 105 = .ok (.iadd, 1) := by decide +kernel
theorem dX10_shared_106 : decode cX10_shared 106 = .ok (.aload_n 0, 1) := by decide +kernel
theorem dX10_shared_107 : decode cX10_shared 107 = .ok (.iload 4, 2) := by decide +kernel
theorem dX10_shared_109 : decode cX10_shared 109 = .ok (.iload 5, 2) := by decide +kernel
theorem dX10_shared_111 : decode cX10_shared 111 = .ok (.iload 6, 2) := by decide +kernel
theorem dX10_shared_113 : decode cX10_shared 113 = .ok (.invokevirtual 270, 3) := by decide +kernel
theorem dX10_shared_116 : decode cX10_shared 116 = .ok (.lastore, 1) := by decide +kernel
theorem dX10_shared_117 : decode cX10_shared 117 = .ok (.iinc 6 1, 3) := by decide +kernel
theorem dX10_shared_120 : decode cX10_shared 120 = .ok (.goto (-43), 3) := by decide +kernel
theorem dX10_shared_123 : decode cX10_shared 123 = .ok (.iinc 5 1, 3) := by decide +kernel
theorem dX10_shared_126 : decode cX10_shared 126 = .ok (.goto (-63), 3) := by decide +kernel
theorem dX10_shared_129 : decode cX10_shared 129 = .ok (.iinc 4 1, 3) := by decide +kernel
theorem dX10_shared_132 : decode cX10_shared 132 = .ok (.goto (-78), 3) := by decide +kernel
theorem dX10_shared_135 : decode cX10_shared 135 = .ok (.aload_n 0, 1) := by decide +kernel
theorem dX10_shared_136 : decode cX10_shared 136 = .ok (.getfield 43, 3) := by decide +kernel
theorem dX10_shared_139 : decode cX10_shared 139 = .ok (.bipush 64, 2) := by decide +kernel
theorem dX10_shared_141 : decode cX10_shared 141 = .ok (.iload_n 1, 1) := by decide +kernel
theorem dX10_shared_142 : decode cX10_shared 142 = .ok (.imul, 1) := by decide +kernel
theorem dX10_shared_143 : decode cX10_shared 143 = .ok (.bipush 8, 2) := by decide +kernel
theorem dX10_shared_145 : decode cX10_shared 145 = .ok (.iload_n 2, 1) := by decide +kernel
theorem dX10_shared_146 : decode cX10_shared 146 = .ok (.imul, 1) := by decide +kernel
theorem dX10_shared_147 : decode cX10_shared 147 = .ok (.iadd, 1) := by decide +kernel
theorem dX10_shared_148 : decode cX10_shared 148 = .ok (.iload_n 3, 1) := by decide +kernel
theorem dX10_shared_149 : decode cX10_shared 149 = .ok (.iadd, 1) := by decide +kernel
theorem dX10_shared_150 : decode cX10_shared 150 = .ok (.laload, 1) := by decide +kernel
theorem dX10_shared_151 : decode cX10_shared 151 = .ok (.lreturn, 1) := by decide +kernel
theorem dX10_joinedCost_0 : decode cX10_joinedCost 0 = .ok (.aload_n 0, 1) := by decide +kernel
theorem dX10_joinedCost_1 : decode cX10_joinedCost 1 = .ok (.iconst 0, 1) := by decide +kernel
theorem dX10_joinedCost_2 : decode cX10_joinedCost 2 = .ok (.putfield 191, 3) := by decide +kernel
theorem dX10_joinedCost_5 : decode cX10_joinedCost 5 = .ok (.aload_n 0, 1) := by decide +kernel
theorem dX10_joinedCost_6 : decode cX10_joinedCost 6 = .ok (.iconst 0, 1) := by decide +kernel
theorem dX10_joinedCost_7 : decode cX10_joinedCost 7 = .ok (.putfield 197, 3) := by decide +kernel
theorem dX10_joinedCost_10 : decode cX10_joinedCost 10 = .ok (.aload_n 0, 1) := by decide +kernel
theorem dX10_joinedCost_11 : decode cX10_joinedCost 11 = .ok (.iload_n 1, 1) := by decide +kernel
theorem dX10_joinedCost_12 : decode cX10_joinedCost 12 = .ok (.iconst 0, 1) := by decide +kernel
theorem dX10_joinedCost_13 : decode cX10_joinedCost 13 = .ok (.iconst 2, 1) := by decide +kernel
theorem dX10_joinedCost_14 : decode cX10_joinedCost 14 = .ok (.aload_n 0, 1) := by decide +kernel
theorem dX10_joinedCost_15 : decode cX10_joinedCost 15 = .ok (.getfield 13, 3) := by decide +kernel
theorem dX10_joinedCost_18 : decode cX10_joinedCost 18 = .ok (.iconst 2, 1) := by decide +kernel
theorem dX10_joinedCost_19 : decode cX10_joinedCost 19 = .ok (.iaload, 1) := by decide +kernel
theorem dX10_joinedCost_20 : decode cX10_joinedCost 20 = .ok (.imul, 1) := by decide +kernel
theorem dX10_joinedCost_21 : decode cX10_joinedCost 21 = .ok (.iconst 2, 1) := by decide +kernel
theorem dX10_joinedCost_22 : decode cX10_joinedCost 22 = .ok (.iload 4, 2) := by decide +kernel
theorem dX10_joinedCost_24 : decode cX10_joinedCost 24 = .ok (.invokevirtual 223, 3) := by decide +kernel
theorem dX10_joinedCost_27 : decode cX10_joinedCost 27 = .ok (.aload_n 0, 1) := by decide +kernel
theorem dX10_joinedCost_28 : decode cX10_joinedCost 28 = .ok (.iload_n 1, 1) := by decide +kernel
theorem dX10_joinedCost_29 : decode cX10_joinedCost 29 = .ok (.aload_n 0, 1) := by decide +kernel
theorem dX10_joinedCost_30 : decode cX10_joinedCost 30 = .ok (.iload_n 3, 1) := by decide +kernel
theorem dX10_joinedCost_31 : decode cX10_joinedCost 31 = .ok (.iconst 0, 1) := by decide +kernel
theorem dX10_joinedCost_32 : decode cX10_joinedCost 32 = .ok (.invokevirtual 74, 3) := by decide +kernel
theorem dX10_joinedCost_35 : decode cX10_joinedCost 35 = .ok (.aload_n 0, 1) := by decide +kernel
theorem dX10_joinedCost_36 : decode cX10_joinedCost 36 = .ok (.iload_n 2, 1) := by decide +kernel
theorem dX10_joinedCost_37 : decode cX10_joinedCost 37 = .ok (.iconst 0, 1) := by decide +kernel
theorem dX10_joinedCost_38 : decode cX10_joinedCost 38 = .ok (.invokevirtual 74, 3) := by decide +kernel
theorem dX10_joinedCost_41 : decode cX10_joinedCost 41 = .ok (.if_icmp .le 7, 3) := by decide +kernel
theorem dX10_joinedCost_44 : decode cX10_joinedCost 44 = .ok (.iload_n 3, 1) := by decide +kernel
theorem dX10_joinedCost_45 : decode cX10_joinedCost 45 = .ok (.goto 4, 3) := by decide +kernel
theorem dX10_joinedCost_48 : decode cX10_joinedCost 48 = .ok (.iload_n 2, 1) := by decide +kernel
theorem dX10_joinedCost_49 : decode cX10_joinedCost 49 = .ok (.invokevirtual 210, 3) := by decide +kernel
theorem dX10_joinedCost_52 : decode cX10_joinedCost 52 = .ok (.lreturn, 1) := by decide +kernel
theorem dX10_joined_0 : decode cX10_joined 0 = .ok (.iload_n 1, 1) := by decide +kernel
theorem dX10_joined_1 : decode cX10_joined 1 = .ok (.invokestatic 227, 3) := by decide +kernel
theorem dX10_joined_4 : decode cX10_joined 4 = .ok (.ifCond .eq 44, 3) := by decide +kernel
theorem dX10_joined_7 : decode cX10_joined 7 = .ok (.aload_n 0, 1) := by decide +kernel
theorem dX10_joined_8 : decode cX10_joined 8 = .ok (.iload_n 2, 1) := by decide +kernel
theorem dX10_joined_9 : decode cX10_joined 9 = .ok (.invokevirtual 84, 3) := by decide +kernel
theorem dX10_joined_12 : decode cX10_joined 12 = .ok (.ifCond .eq 36, 3) := by decide +kernel
theorem dX10_joined_15 : decode cX10_joined 15 = .ok (.aload_n 0, 1) := by decide +kernel
theorem dX10_joined_16 : decode cX10_joined 16 = .ok (.iload_n 3, 1) := by decide +kernel
theorem dX10_joined_17 : decode cX10_joined 17 = .ok (.invokevirtual 84, 3) := by decide +kernel
theorem dX10_joined_20 : decode cX10_joined 20 = .ok (.ifCond .eq 28, 3) := by decide +kernel
theorem dX10_joined_23 : decode cX10_joined 23 = .ok (.iload 4, 2) := by decide +kernel
theorem dX10_joined_25 : decode cX10_joined 25 = .ok (.i2l, 1) := by decide +kernel
theorem dX10_joined_26 : decode cX10_joined 26 = .ok (.lconst 0, 1) := by decide +kernel
theorem dX10_joined_27 : decode cX10_joined 27 = .ok (.ldc2_w 273, 3) := by decide +kernel
theorem dX10_joined_30 : decode cX10_joined 30 = .ok (.invokestatic 66, 3) := by decide +kernel
theorem dX10_joined_33 : decode cX10_joined 33 = .ok (.ifCond .eq 15, 3) := by decide +kernel
theorem dX10_joined_36 : decode cX10_joined 36 = .ok (.aload_n 0, 1) := by decide +kernel
theorem dX10_joined_37 : decode cX10_joined 37 = .ok (.iload_n 1, 1) := by decide +kernel
theorem dX10_joined_38 : decode cX10_joined 38 = .ok (.iload_n 2, 1) := by decide +kernel
theorem dX10_joined_39 : decode cX10_joined 39 = .ok (.iload_n 3, 1) := by decide +kernel
theorem dX10_joined_40 : decode cX10_joined 40 = .ok (.iload 4, 2) := by decide +kernel
theorem dX10_joined_42 : decode cX10_joined 42 = .ok (.invokevirtual 275, 3) := by decide +kernel
theorem dX10_joined_45 : decode cX10_joined 45 = .ok (.goto 6, 3) := by decide +kernel
theorem dX10_joined_48 : decode cX10_joined 48 = .ok (.ldc2_w 233, 3) := by decide +kernel
theorem dX10_joined_51 : decode cX10_joined 51 = .ok (.lreturn, 1) := by decide +kernel
theorem dX10_rebate_0 : decode cX10_rebate 0 = .ok (.iload_n 1, 1) := by decide +kernel
theorem dX10_rebate_1 : decode cX10_rebate 1 = .ok (.invokestatic 227, 3) := by decide +kernel
theorem dX10_rebate_4 : decode cX10_rebate 4 = .ok (.ifCond .eq 19, 3) := by decide +kernel
theorem dX10_rebate_7 : decode cX10_rebate 7 = .ok (.aload_n 0, 1) := by decide +kernel
theorem dX10_rebate_8 : decode cX10_rebate 8 = .ok (.iload_n 2, 1) := by decide +kernel
theorem dX10_rebate_9 : decode cX10_rebate 9 = .ok (.invokevirtual 84, 3) := by decide +kernel
theorem dX10_rebate_12 : decode cX10_rebate 12 = .ok (.ifCond .eq 11, 3) := by decide +kernel
theorem dX10_rebate_15 : decode cX10_rebate 15 = .ok (.aload_n 0, 1) := by decide +kernel
theorem dX10_rebate_16 : decode cX10_rebate 16 = .ok (.iload_n 3, 1) := by decide +kernel
theorem dX10_rebate_17 : decode cX10_rebate 17 = .ok (.invokevirtual 84, 3) := by decide +kernel
theorem dX10_rebate_20 : decode cX10_rebate 20 = .ok (.ifCond .ne 5, 3) := by decide +kernel
theorem dX10_rebate_23 : decode cX10_rebate 23 = .ok (.iconst (-1), 1) := by decide +kernel
theorem dX10_rebate_24 : decode cX10_rebate 24 = .ok (.ireturn, 1) := by decide +kernel
theorem dX10_rebate_25 : decode cX10_rebate 25 = .ok (.aload_n 0, 1) := by decide +kernel
theorem dX10_rebate_26 : decode cX10_rebate 26 = .ok (.iload_n 1, 1) := by decide +kernel
theorem dX10_rebate_27 : decode cX10_rebate 27 = .ok (.iload_n 2, 1) := by decide +kernel
theorem dX10_rebate_28 : decode cX10_rebate 28 = .ok (.invokevirtual 244, 3) := by decide +kernel
theorem dX10_rebate_31 : decode cX10_rebate 31 = .ok (.aload_n 0, 1) := by decide +kernel
theorem dX10_rebate_32 : decode cX10_rebate 32 = .ok (.iload_n 1, 1) := by decide +kernel
theorem dX10_rebate_33 : decode cX10_rebate 33 = .ok (.iload_n 3, 1) := by decide +kernel
theorem dX10_rebate_34 : decode cX10_rebate 34 = .ok (.invokevirtual 244, 3) := by decide +kernel
theorem dX10_rebate_37 : decode cX10_rebate 37 = .ok (.ladd, 1) := by decide +kernel
theorem dX10_rebate_38 : decode cX10_rebate 38 = .ok (.lstore 4, 2) := by decide +kernel
theorem dX10_rebate_40 : decode cX10_rebate 40 = .ok (.iconst 0, 1) := by decide +kernel
theorem dX10_rebate_41 : decode cX10_rebate 41 = .ok (.istore 6, 2) := by decide +kernel
theorem dX10_rebate_43 : decode cX10_rebate 43 = .ok (.iload 6, 2) := by decide +kernel
theorem dX10_rebate_45 : decode cX10_rebate 45 = .ok (.bipush 50, 2) := by decide +kernel
theorem dX10_rebate_47 : decode cX10_rebate 47 = .ok (.if_icmp .gt 27, 3) := by decide +kernel
theorem dX10_rebate_50 : decode cX10_rebate 50 = .ok (.aload_n 0, 1) := by decide +kernel
theorem dX10_rebate_51 : decode cX10_rebate 51 = .ok (.iload_n 1, 1) := by decide +kernel
theorem dX10_rebate_52 : decode cX10_rebate 52 = .ok (.iload_n 2, 1) := by decide +kernel
theorem dX10_rebate_53 : decode cX10_rebate 53 = .ok (.iload_n 3, 1) := by decide +kernel
theorem dX10_rebate_54 : decode cX10_rebate 54 = .ok (.iload 6, 2) := by decide +kernel
theorem dX10_rebate_56 : decode cX10_rebate 56 = .ok (.invokevirtual 275, 3) := by decide +kernel
theorem dX10_rebate_59 : decode cX10_rebate 59 = .ok (.lload 4, 2) := by decide +kernel
theorem dX10_rebate_61 : decode cX10_rebate 61 = .ok (.lcmp, 1) := by decide +kernel
theorem dX10_rebate_62 : decode cX10_rebate 62 = .ok (.ifCond .ge 6, 3) := by decide +kernel
theorem dX10_rebate_65 : decode cX10_rebate 65 = .ok (.iload 6, 2) := by decide +kernel
theorem dX10_rebate_67 : decode cX10_rebate 67 = .ok (.ireturn, 1) := by decide +kernel
theorem dX10_rebate_68 : decode cX10_rebate 68 = .ok (.iinc 6 1, 3) := by decide +kernel
theorem dX10_rebate_71 : decode cX10_rebate 71 = .ok (.goto (-28), 3) := by decide +kernel
theorem dX10_rebate_74 : decode cX10_rebate 74 = .ok (.bipush (-2), 2) := by decide +kernel
theorem dX10_rebate_76 : decode cX10_rebate 76 = .ok (.ireturn, 1) := by decide +kernel
theorem dX10_advice_0 : decode cX10_advice 0 = .ok (.aload_n 0, 1) := by decide +kernel
theorem dX10_advice_1 : decode cX10_advice 1 = .ok (.getfield 13, 3) := by decide +kernel
theorem dX10_advice_4 : decode cX10_advice 4 = .ok (.bipush 56, 2) := by decide +kernel
theorem dX10_advice_6 : decode cX10_advice 6 = .ok (.iaload, 1) := by decide +kernel
theorem dX10_advice_7 : decode cX10_advice 7 = .ok (.ifCond .eq 23, 3) := by decide +kernel
theorem dX10_advice_10 : decode cX10_advice 10 = .ok (.iload_n 1, 1) := by decide +kernel
theorem dX10_advice_11 : decode cX10_advice 11 = .ok (.i2l, 1) := by decide +kernel
theorem dX10_advice_12 : decode cX10_advice 12 = .ok (.lconst 1, 1) := by decide +kernel
theorem dX10_advice_13 : decode cX10_advice 13 = .ok (.ldc2_w 163, 3) := by decide +kernel
theorem dX10_advice_16 : decode cX10_advice 16 = .ok (.invokestatic 66, 3) := by decide +kernel
theorem dX10_advice_19 : decode cX10_advice 19 = .ok (.ifCond .eq 11, 3) := by decide +kernel
theorem dX10_advice_22 : decode cX10_advice 22 = .ok (.aload_n 0, 1) := by decide +kernel
theorem dX10_advice_23 : decode cX10_advice 23 = .ok (.iload_n 2, 1) := by decide +kernel
theorem dX10_advice_24 : decode cX10_advice 24 = .ok (.invokevirtual 93, 3) := by decide +kernel
theorem dX10_advice_27 : decode cX10_advice 27 = .ok (.ifCond .ne 5, 3) := by decide +kernel
theorem dX10_advice_30 : decode cX10_advice 30 = .ok (.iconst (-1), 1) := by decide +kernel
theorem dX10_advice_31 : decode cX10_advice 31 = .ok (.ireturn, 1) := by decide +kernel
theorem dX10_advice_32 : decode cX10_advice 32 = .ok (.aload_n 0, 1) := by decide +kernel
theorem dX10_advice_33 : decode cX10_advice 33 = .ok (.iload_n 1, 1) := by decide +kernel
theorem dX10_advice_34 : decode cX10_advice 34 = .ok (.iconst 1, 1) := by decide +kernel
theorem dX10_advice_35 : decode cX10_advice 35 = .ok (.iconst 0, 1) := by decide +kernel
theorem dX10_advice_36 : decode cX10_advice 36 = .ok (.iconst 0, 1) := by decide +kernel
theorem dX10_advice_37 : decode cX10_advice 37 = .ok (.invokevirtual 142, 3) := by decide +kernel
theorem dX10_advice_40 : decode cX10_advice 40 = .ok (.aload_n 0, 1) := by decide +kernel
theorem dX10_advice_41 : decode cX10_advice 41 = .ok (.iload_n 1, 1) := by decide +kernel
theorem dX10_advice_42 : decode cX10_advice 42 = .ok (.aload_n 0, 1) := by decide +kernel
theorem dX10_advice_43 : decode cX10_advice 43 = .ok (.getfield 13, 3) := by decide +kernel
theorem dX10_advice_46 : decode cX10_advice 46 = .ok (.bipush 55, 2) := by decide +kernel
theorem dX10_advice_48 : decode cX10_advice 48 = .ok (.iaload, 1) := by decide +kernel
theorem dX10_advice_49 : decode cX10_advice 49 = .ok (.invokevirtual 152, 3) := by decide +kernel
theorem dX10_advice_52 : decode cX10_advice 52 = .ok (.aload_n 0, 1) := by decide +kernel
theorem dX10_advice_53 : decode cX10_advice 53 = .ok (.iload_n 2, 1) := by decide +kernel
theorem dX10_advice_54 : decode cX10_advice 54 = .ok (.aload_n 0, 1) := by decide +kernel
theorem dX10_advice_55 : decode cX10_advice 55 = .ok (.getfield 13, 3) := by decide +kernel
theorem dX10_advice_58 : decode cX10_advice 58 = .ok (.bipush 57, 2) := by decide +kernel
theorem dX10_advice_60 : decode cX10_advice 60 = .ok (.iaload, 1) := by decide +kernel
theorem dX10_advice_61 : decode cX10_advice 61 = .ok (.aload_n 0, 1) := by decide +kernel
theorem dX10_advice_62 : decode cX10_advice 62 = .ok (.invokevirtual 156, 3) := by decide +kernel
theorem dX10_advice_65 : decode cX10_advice 65 = .ok (.aload_n 0, 1) := by decide +kernel
theorem dX10_advice_66 : decode cX10_advice 66 = .ok (.getfield 13, 3) := by decide +kernel
theorem dX10_advice_69 : decode cX10_advice 69 = .ok (.bipush 59, 2) := by decide +kernel
theorem dX10_advice_71 : decode cX10_advice 71 = .ok (.iaload, 1) := by decide +kernel
theorem dX10_advice_72 : decode cX10_advice 72 = .ok (.invokevirtual 159, 3) := by decide +kernel
theorem dX10_advice_75 : decode cX10_advice 75 = .ok (.lconst 0, 1) := by decide +kernel
theorem dX10_advice_76 : decode cX10_advice 76 = .ok (.lcmp, 1) := by decide +kernel
theorem dX10_advice_77 : decode cX10_advice 77 = .ok (.ifCond .le 7, 3) := by decide +kernel
theorem dX10_advice_80 : decode cX10_advice 80 = .ok (.iconst 1, 1) := by decide +kernel
theorem dX10_advice_81 : decode cX10_advice 81 = .ok (.goto 4, 3) := by decide +kernel
theorem dX10_advice_84 : decode cX10_advice 84 = .ok (.iconst 0, 1) := by decide +kernel
theorem dX10_advice_85 : decode cX10_advice 85 = .ok (.ireturn, 1) := by decide +kernel
theorem dX10_rest_0 : decode cX10_rest 0 = .ok (.aload_n 0, 1) := by decide +kernel
theorem dX10_rest_1 : decode cX10_rest 1 = .ok (.iload_n 1, 1) := by decide +kernel
theorem dX10_rest_2 : decode cX10_rest 2 = .ok (.invokevirtual 84, 3) := by decide +kernel
theorem dX10_rest_5 : decode cX10_rest 5 = .ok (.ifCond .ne 5, 3) := by decide +kernel
theorem dX10_rest_8 : decode cX10_rest 8 = .ok (.iconst (-1), 1) := by decide +kernel
theorem dX10_rest_9 : decode cX10_rest 9 = .ok (.ireturn, 1) := by decide +kernel
theorem dX10_rest_10 : decode cX10_rest 10 = .ok (.iconst 0, 1) := by decide +kernel
theorem dX10_rest_11 : decode cX10_rest 11 = .ok (.istore_n 2, 1) := by decide +kernel
theorem dX10_rest_12 : decode cX10_rest 12 = .ok (.iload_n 1, 1) := by decide +kernel
theorem dX10_rest_13 : decode cX10_rest 13 = .ok (.istore_n 3, 1) := by decide +kernel
theorem dX10_rest_14 : decode cX10_rest 14 = .ok (.iload_n 2, 1) := by decide +kernel
theorem dX10_rest_15 : decode cX10_rest 15 = .ok (.iload_n 3, 1) := by decide +kernel
theorem dX10_rest_16 : decode cX10_rest 16 = .ok (.ishr, 1) := by decide +kernel
theorem dX10_rest_17 : decode cX10_rest 17 = .ok (.iconst 1, 1) := by decide +kernel
theorem dX10_rest_18 : decode cX10_rest 18 = .ok (.iand, 1) := by decide +kernel
theorem dX10_rest_19 : decode cX10_rest 19 = .ok (.ifCond .ne 19, 3) := by decide +kernel
theorem dX10_rest_22 : decode cX10_rest 22 = .ok (.iload_n 2, 1) := by decide +kernel
theorem dX10_rest_23 : decode cX10_rest 23 = .ok (.iconst 1, 1) := by decide +kernel
theorem dX10_rest_24 : decode cX10_rest 24 = .ok (.iload_n 3, 1) := by decide +kernel
theorem dX10_rest_25 : decode cX10_rest 25 = .ok (.ishl, 1) := by decide +kernel
theorem dX10_rest_26 : decode cX10_rest 26 = .ok (.ior, 1) := by decide +kernel
theorem dX10_rest_27 : decode cX10_rest 27 = .ok (.istore_n 2, 1) := by decide +kernel
theorem dX10_rest_28 : decode cX10_rest 28 = .ok (.aload_n 0, 1) := by decide +kernel
theorem dX10_rest_29 : decode cX10_rest 29 = .ok (.iload_n 3, 1) := by decide +kernel
theorem dX10_rest_30 : decode cX10_rest 30 = .ok (.iconst 0, 1) := by decide +kernel
theorem dX10_rest_31 : decode cX10_rest 31 = .ok (.invokevirtual 118, 3) := by decide +kernel
theorem dX10_rest_34 : decode cX10_rest 34 = .ok (.istore_n 3, 1) := by decide +kernel
theorem dX10_rest_35 : decode cX10_rest 35 = .ok (.goto (-21), 3) := by decide +kernel
theorem dX10_rest_38 : decode cX10_rest 38 = .ok (.iload_n 3, 1) := by decide +kernel
theorem dX10_rest_39 : decode cX10_rest 39 = .ok (.ireturn, 1) := by decide +kernel
theorem dX10_were_0 : decode cX10_were 0 = .ok (.iload_n 1, 1) := by decide +kernel
theorem dX10_were_1 : decode cX10_were 1 = .ok (.iload_n 2, 1) := by decide +kernel
theorem dX10_were_2 : decode cX10_were 2 = .ok (.invokestatic 106, 3) := by decide +kernel
theorem dX10_were_5 : decode cX10_were 5 = .ok (.ifCond .eq 19, 3) := by decide +kernel
theorem dX10_were_8 : decode cX10_were 8 = .ok (.iload_n 3, 1) := by decide +kernel
theorem dX10_were_9 : decode cX10_were 9 = .ok (.invokestatic 227, 3) := by decide +kernel
theorem dX10_were_12 : decode cX10_were 12 = .ok (.ifCond .eq 12, 3) := by decide +kernel
theorem dX10_were_15 : decode cX10_were 15 = .ok (.aload_n 0, 1) := by decide +kernel
theorem dX10_were_16 : decode cX10_were 16 = .ok (.iload 4, 2) := by decide +kernel
theorem dX10_were_18 : decode cX10_were 18 = .ok (.invokevirtual 84, 3) := by decide +kernel
theorem dX10_were_21 : decode cX10_were 21 = .ok (.ifCond .ne 7, 3) := by decide +kernel
theorem dX10_were_24 : decode cX10_were 24 = .ok (.ldc2_w 233, 3) := by decide +kernel
theorem dX10_were_27 : decode cX10_were 27 = .ok (.lreturn, 1) := by decide +kernel
theorem dX10_were_28 : decode cX10_were 28 = .ok (.aload_n 0, 1) := by decide +kernel
theorem dX10_were_29 : decode cX10_were 29 = .ok (.getfield 13, 3) := by decide +kernel
theorem dX10_were_32 : decode cX10_were 32 = .ok (.iconst 2, 1) := by decide +kernel
theorem dX10_were_33 : decode cX10_were 33 = .ok (.iload_n 1, 1) := by decide +kernel
theorem dX10_were_34 : decode cX10_were 34 = .ok (.iadd, 1) := by decide +kernel
theorem dX10_were_35 : decode cX10_were 35 = .ok (.iaload, 1) := by decide +kernel
theorem dX10_were_36 : decode cX10_were 36 = .ok (.istore 5, 2) := by decide +kernel
theorem dX10_were_38 : decode cX10_were 38 = .ok (.aload_n 0, 1) := by decide +kernel
theorem dX10_were_39 : decode cX10_were 39 = .ok (.getfield 13, 3) := by decide +kernel
theorem dX10_were_42 : decode cX10_were 42 = .ok (.iconst 2, 1) := by decide +kernel
theorem dX10_were_43 : decode cX10_were 43 = .ok (.iload_n 1, 1) := by decide +kernel
theorem dX10_were_44 : decode cX10_were 44 = .ok (.iadd, 1) := by decide +kernel
theorem dX10_were_45 : decode cX10_were 45 = .ok (.iload_n 2, 1) := by decide +kernel
theorem dX10_were_46 : decode cX10_were 46 = .ok (.iastore, 1) := by decide +kernel
theorem dX10_were_47 : decode cX10_were 47 = .ok (.aload_n 0, 1) := by decide +kernel
theorem dX10_were_48 : decode cX10_were 48 = .ok (.iload_n 3, 1) := by decide +kernel
theorem dX10_were_49 : decode cX10_were 49 = .ok (.iload 4, 2) := by decide +kernel
theorem dX10_were_51 : decode cX10_were 51 = .ok (.invokevirtual 230, 3) := by decide +kernel
theorem dX10_were_54 : decode cX10_were 54 = .ok (.lstore 6, 2) := by decide +kernel
theorem dX10_were_56 : decode cX10_were 56 = .ok (.aload_n 0, 1) := by decide +kernel
theorem dX10_were_57 : decode cX10_were 57 = .ok (.getfield 13, 3) := by decide +kernel
theorem dX10_were_60 : decode cX10_were 60 = .ok (.iconst 2, 1) := by decide +kernel
theorem dX10_were_61 : decode cX10_were 61 = .ok (.iload_n 1, 1) := by decide +kernel
theorem dX10_were_62 : decode cX10_were 62 = .ok (.iadd, 1) := by decide +kernel
theorem dX10_were_63 : decode cX10_were 63 = .ok (.iload 5, 2) := by decide +kernel
theorem dX10_were_65 : decode cX10_were 65 = .ok (.iastore, 1) := by decide +kernel
theorem dX10_were_66 : decode cX10_were 66 = .ok (.lload 6, 2) := by decide +kernel
theorem dX10_were_68 : decode cX10_were 68 = .ok (.lreturn, 1) := by decide +kernel
theorem dX10_lacking_0 : decode cX10_lacking 0 = .ok (.aload_n 0, 1) := by decide +kernel
theorem dX10_lacking_1 : decode cX10_lacking 1 = .ok (.iload_n 1, 1) := by decide +kernel
theorem dX10_lacking_2 : decode cX10_lacking 2 = .ok (.invokevirtual 93, 3) := by decide +kernel
theorem dX10_lacking_5 : decode cX10_lacking 5 = .ok (.ifCond .eq 28, 3) := by decide +kernel
theorem dX10_lacking_8 : decode cX10_lacking 8 = .ok (.aload_n 0, 1) := by decide +kernel
theorem dX10_lacking_9 : decode cX10_lacking 9 = .ok (.getfield 13, 3) := by decide +kernel
theorem dX10_lacking_12 : decode cX10_lacking 12 = .ok (.iconst 1, 1) := by decide +kernel
theorem dX10_lacking_13 : decode cX10_lacking 13 = .ok (.iaload, 1) := by decide +kernel
theorem dX10_lacking_14 : decode cX10_lacking 14 = .ok (.iconst 1, 1) := by decide +kernel
theorem dX10_lacking_15 : decode cX10_lacking 15 = .ok (.if_icmp .eq 18, 3) := by decide +kernel
theorem dX10_lacking_18 : decode cX10_lacking 18 = .ok (.iload_n 2, 1) := by decide +kernel
theorem dX10_lacking_19 : decode cX10_lacking 19 = .ok (.invokestatic 227, 3) := by decide +kernel
theorem dX10_lacking_22 : decode cX10_lacking 22 = .ok (.ifCond .eq 11, 3) := by decide +kernel
theorem dX10_lacking_25 : decode cX10_lacking 25 = .ok (.aload_n 0, 1) := by decide +kernel
theorem dX10_lacking_26 : decode cX10_lacking 26 = .ok (.iload_n 3, 1) := by decide +kernel
theorem dX10_lacking_27 : decode cX10_lacking 27 = .ok (.invokevirtual 84, 3) := by decide +kernel
theorem dX10_lacking_30 : decode cX10_lacking 30 = .ok (.ifCond .ne 7, 3) := by decide +kernel
theorem dX10_lacking_33 : decode cX10_lacking 33 = .ok (.ldc2_w 233, 3) := by decide +kernel
theorem dX10_lacking_36 : decode cX10_lacking 36 = .ok (.lreturn, 1) := by decide +kernel
theorem dX10_lacking_37 : decode cX10_lacking 37 = .ok (.aload_n 0, 1) := by decide +kernel
theorem dX10_lacking_38 : decode cX10_lacking 38 = .ok (.getfield 13, 3) := by decide +kernel
theorem dX10_lacking_41 : decode cX10_lacking 41 = .ok (.aload_n 0, 1) := by decide +kernel
theorem dX10_lacking_42 : decode cX10_lacking 42 = .ok (.getfield 20, 3) := by decide +kernel
theorem dX10_lacking_45 : decode cX10_lacking 45 = .ok (.invokestatic 278, 3) := by decide +kernel
theorem dX10_lacking_48 : decode cX10_lacking 48 = .ok (.aload_n 0, 1) := by decide +kernel
theorem dX10_lacking_49 : decode cX10_lacking 49 = .ok (.iload_n 1, 1) := by decide +kernel
theorem dX10_lacking_50 : decode cX10_lacking 50 = .ok (.invokevirtual 175, 3) := by decide +kernel
theorem dX10_lacking_53 : decode cX10_lacking 53 = .ok (.aload_n 0, 1) := by decide +kernel
theorem dX10_lacking_54 : decode cX10_lacking 54 = .ok (.iload_n 2, 1) := by decide +kernel
theorem dX10_lacking_55 : decode cX10_lacking 55 = .ok (.iload_n 3, 1) := by decide +kernel
theorem dX10_lacking_56 : decode cX10_lacking 56 = .ok (.invokevirtual 230, 3) := by decide +kernel
theorem dX10_lacking_59 : decode cX10_lacking 59 = .ok (.lstore 4, 2) := by decide +kernel
theorem dX10_lacking_61 : decode cX10_lacking 61 = .ok (.aload_n 0, 1) := by decide +kernel
theorem dX10_lacking_62 : decode cX10_lacking 62 = .ok (.getfield 20, 3) := by decide +kernel
theorem dX10_lacking_65 : decode cX10_lacking 65 = .ok (.aload_n 0, 1) := by decide +kernel
theorem dX10_lacking_66 : decode cX10_lacking 66 = .ok (.getfield 13, 3) := by decide +kernel
theorem dX10_lacking_69 : decode cX10_lacking 69 = .ok (.invokestatic 278, 3) := by decide +kernel
theorem dX10_lacking_72 : decode cX10_lacking 72 = .ok (.lload 4, 2) := by decide +kernel
theorem dX10_lacking_74 : decode cX10_lacking 74 = .ok (.lreturn, 1) := by decide +kernel
theorem dX10_oddsFor_0 : decode cX10_oddsFor 0 = .ok (.iload_n 3, 1) := by decide +kernel
theorem dX10_oddsFor_1 : decode cX10_oddsFor 1 = .ok (.invokestatic 227, 3) := by decide +kernel
theorem dX10_oddsFor_4 : decode cX10_oddsFor 4 = .ok (.ifCond .eq 12, 3) := by decide +kernel
theorem dX10_oddsFor_7 : decode cX10_oddsFor 7 = .ok (.aload_n 0, 1) := by decide +kernel
theorem dX10_oddsFor_8 : decode cX10_oddsFor 8 = .ok (.iload 4, 2) := by decide +kernel
theorem dX10_oddsFor_10 : decode cX10_oddsFor 10 = .ok (.invokevirtual 84, 3) := by decide +kernel
theorem dX10_oddsFor_13 : decode cX10_oddsFor 13 = .ok (.ifCond .ne 5, 3) := by decide +kernel
theorem dX10_oddsFor_16 : decode cX10_oddsFor 16 = .ok (.iconst (-1), 1) := by decide +kernel
theorem dX10_oddsFor_17 : decode cX10_oddsFor 17 = .ok (.ireturn, 1) := by decide +kernel
theorem dX10_oddsFor_18 : decode cX10_oddsFor 18 = .ok (.aload_n 0, 1) := by decide +kernel
theorem dX10_oddsFor_19 : decode cX10_oddsFor 19 = .ok (.getfield 13, 3) := by decide +kernel
theorem dX10_oddsFor_22 : decode cX10_oddsFor 22 = .ok (.iconst 3, 1) := by decide +kernel
theorem dX10_oddsFor_23 : decode cX10_oddsFor 23 = .ok (.iaload, 1) := by decide +kernel
theorem dX10_oddsFor_24 : decode cX10_oddsFor 24 = .ok (.istore 5, 2) := by decide +kernel
theorem dX10_oddsFor_26 : decode cX10_oddsFor 26 = .ok (.bipush (-2), 2) := by decide +kernel
theorem dX10_oddsFor_28 : decode cX10_oddsFor 28 = .ok (.istore 6, 2) := by decide +kernel
theorem dX10_oddsFor_30 : decode cX10_oddsFor 30 = .ok (.iconst 0, 1) := by decide +kernel
theorem dX10_oddsFor_31 : decode cX10_oddsFor 31 = .ok (.istore 7, 2) := by decide +kernel
theorem dX10_oddsFor_33 : decode cX10_oddsFor 33 = .ok (.iload 7, 2) := by decide +kernel
theorem dX10_oddsFor_35 : decode cX10_oddsFor 35 = .ok (.bipush 12, 2) := by decide +kernel
theorem dX10_oddsFor_37 : decode cX10_oddsFor 37 = .ok (.if_icmp .gt 40, 3) := by decide +kernel
theorem dX10_oddsFor_40 : decode cX10_oddsFor 40 = .ok (.iload 6, 2) := by decide +kernel
theorem dX10_oddsFor_42 : decode cX10_oddsFor 42 = .ok (.bipush (-2), 2) := by decide +kernel
theorem dX10_oddsFor_44 : decode cX10_oddsFor 44 = .ok (.if_icmp .ne 33, 3) := by decide +kernel
theorem dX10_oddsFor_47 : decode cX10_oddsFor 47 = .ok (.aload_n 0, 1) := by decide +kernel
theorem dX10_oddsFor_48 : decode cX10_oddsFor 48 = .ok (.getfield 13, 3) := by decide +kernel
theorem dX10_oddsFor_51 : decode cX10_oddsFor 51 = .ok (.iconst 3, 1) := by decide +kernel
theorem dX10_oddsFor_52 : decode cX10_oddsFor 52 = .ok (.iload 7, 2) := by decide +kernel
theorem dX10_oddsFor_54 : decode cX10_oddsFor 54 = .ok (.iastore, 1) := by decide +kernel
theorem dX10_oddsFor_55 : decode cX10_oddsFor 55 = .ok (.aload_n 0, 1) := by decide +kernel
theorem dX10_oddsFor_56 : decode cX10_oddsFor 56 = .ok (.iload_n 3, 1) := by decide +kernel
theorem dX10_oddsFor_57 : decode cX10_oddsFor 57 = .ok (.iload 4, 2) := by decide +kernel
theorem dX10_oddsFor_59 : decode cX10_oddsFor 59 = .ok (.invokevirtual 230, 3) := by decide +kernel
theorem dX10_oddsFor_62 : decode cX10_oddsFor 62 = .ok (.lload_n 1, 1) := by decide +kernel
theorem dX10_oddsFor_63 : decode cX10_oddsFor 63 = .ok (.lcmp, 1) := by decide +kernel
theorem dX10_oddsFor_64 : decode cX10_oddsFor 64 = .ok (.ifCond .lt 7, 3) := by decide +kernel
theorem dX10_oddsFor_67 : decode cX10_oddsFor 67 = .ok (.iload 7, 2) := by decide +kernel
theorem dX10_oddsFor_69 : decode cX10_oddsFor 69 = .ok (.istore 6, 2) := by decide +kernel
theorem dX10_oddsFor_71 : decode cX10_oddsFor 71 = .ok (.iinc 7 1, 3) := by decide +kernel
theorem dX10_oddsFor_74 : decode cX10_oddsFor 74 = .ok (.goto (-41), 3) := by decide +kernel
theorem dX10_oddsFor_77 : decode cX10_oddsFor 77 = .ok (.aload_n 0, 1) := by decide +kernel
theorem dX10_oddsFor_78 : decode cX10_oddsFor 78 = .ok (.getfield 13, 3) := by decide +kernel
theorem dX10_oddsFor_81 : decode cX10_oddsFor 81 = .ok (.iconst 3, 1) := by decide +kernel
theorem dX10_oddsFor_82 : decode cX10_oddsFor 82 = .ok (.iload 5, 2) := by decide +kernel
theorem dX10_oddsFor_84 : decode cX10_oddsFor 84 = .ok (.iastore, 1) := by decide +kernel
theorem dX10_oddsFor_85 : decode cX10_oddsFor 85 = .ok (.iload 6, 2) := by decide +kernel
theorem dX10_oddsFor_87 : decode cX10_oddsFor 87 = .ok (.ireturn, 1) := by decide +kernel
theorem dX10_bestOwn_0 : decode cX10_bestOwn 0 = .ok (.iload_n 1, 1) := by decide +kernel
theorem dX10_bestOwn_1 : decode cX10_bestOwn 1 = .ok (.i2l, 1) := by decide +kernel
theorem dX10_bestOwn_2 : decode cX10_bestOwn 2 = .ok (.lconst 0, 1) := by decide +kernel
theorem dX10_bestOwn_3 : decode cX10_bestOwn 3 = .ok (.ldc2_w 282, 3) := by decide +kernel
theorem dX10_bestOwn_6 : decode cX10_bestOwn 6 = .ok (.invokestatic 66, 3) := by decide +kernel
theorem dX10_bestOwn_9 : decode cX10_bestOwn 9 = .ok (.ifCond .eq 18, 3) := by decide +kernel
theorem dX10_bestOwn_12 : decode cX10_bestOwn 12 = .ok (.iload_n 2, 1) := by decide +kernel
theorem dX10_bestOwn_13 : decode cX10_bestOwn 13 = .ok (.invokestatic 227, 3) := by decide +kernel
theorem dX10_bestOwn_16 : decode cX10_bestOwn 16 = .ok (.ifCond .eq 11, 3) := by decide +kernel
theorem dX10_bestOwn_19 : decode cX10_bestOwn 19 = .ok (.aload_n 0, 1) := by decide +kernel
theorem dX10_bestOwn_20 : decode cX10_bestOwn 20 = .ok (.iload_n 3, 1) := by decide +kernel
theorem dX10_bestOwn_21 : decode cX10_bestOwn 21 = .ok (.invokevirtual 84, 3) := by decide +kernel
theorem dX10_bestOwn_24 : decode cX10_bestOwn 24 = .ok (.ifCond .ne 5, 3) := by decide +kernel
theorem dX10_bestOwn_27 : decode cX10_bestOwn 27 = .ok (.iconst (-1), 1) := by decide +kernel
theorem dX10_bestOwn_28 : decode cX10_bestOwn 28 = .ok (.ireturn, 1) := by decide +kernel
theorem dX10_bestOwn_29 : decode cX10_bestOwn 29 = .ok (.aload_n 0, 1) := by decide +kernel
theorem dX10_bestOwn_30 : decode cX10_bestOwn 30 = .ok (.getfield 13, 3) := by decide +kernel
theorem dX10_bestOwn_33 : decode cX10_bestOwn 33 = .ok (.iconst 4, 1) := by decide +kernel
theorem dX10_bestOwn_34 : decode cX10_bestOwn 34 = .ok (.iaload, 1) := by decide +kernel
theorem dX10_bestOwn_35 : decode cX10_bestOwn 35 = .ok (.istore 4, 2) := by decide +kernel
theorem dX10_bestOwn_37 : decode cX10_bestOwn 37 = .ok (.iconst (-1), 1) := by decide +kernel
theorem dX10_bestOwn_38 : decode cX10_bestOwn 38 = .ok (.istore 5, 2) := by decide +kernel
theorem dX10_bestOwn_40 : decode cX10_bestOwn 40 = .ok (.lconst 0, 1) := by decide +kernel
theorem dX10_bestOwn_41 : decode cX10_bestOwn 41 = .ok (.lstore 6, 2) := by decide +kernel
theorem dX10_bestOwn_43 : decode cX10_bestOwn 43 = .ok (.iconst 0, 1) := by decide +kernel
theorem dX10_bestOwn_44 : decode cX10_bestOwn 44 = .ok (.istore 8, 2) := by decide +kernel
theorem dX10_bestOwn_46 : decode cX10_bestOwn 46 = .ok (.iload 8, 2) := by decide +kernel
theorem dX10_bestOwn_48 : decode cX10_bestOwn 48 = .ok (.bipush 100, 2) := by decide +kernel
theorem dX10_bestOwn_50 : decode cX10_bestOwn 50 = .ok (.if_icmp .ge 60, 3) := by decide +kernel
theorem dX10_bestOwn_53 : decode cX10_bestOwn 53 = .ok (.aload_n 0, 1) := by decide +kernel
theorem dX10_bestOwn_54 : decode cX10_bestOwn 54 = .ok (.getfield 13, 3) := by decide +kernel
theorem dX10_bestOwn_57 : decode cX10_bestOwn 57 = .ok (.iconst 4, 1) := by decide +kernel
theorem dX10_bestOwn_58 : decode cX10_bestOwn 58 = .ok (.iload 8, 2) := by decide +kernel
theorem dX10_bestOwn_60 : decode cX10_bestOwn 60 = .ok (.iastore, 1) := by decide +kernel
theorem dX10_bestOwn_61 : decode cX10_bestOwn 61 = .ok (.aload_n 0, 1) := by decide +kernel
theorem dX10_bestOwn_62 : decode cX10_bestOwn 62 = .ok (.iload_n 2, 1) := by decide +kernel
theorem dX10_bestOwn_63 : decode cX10_bestOwn 63 = .ok (.iload_n 3, 1) := by decide +kernel
theorem dX10_bestOwn_64 : decode cX10_bestOwn 64 = .ok (.invokevirtual 230, 3) := by decide +kernel
theorem dX10_bestOwn_67 : decode cX10_bestOwn 67 = .ok (.iload_n 1, 1) := by decide +kernel
theorem dX10_bestOwn_68 : decode cX10_bestOwn 68 = .ok (.i2l, 1) := by decide +kernel
theorem dX10_bestOwn_69 : decode cX10_bestOwn 69 = .ok (.iload 8, 2) := by decide +kernel
theorem dX10_bestOwn_71 : decode cX10_bestOwn 71 = .ok (.i2l, 1) := by decide +kernel
theorem dX10_bestOwn_72 : decode cX10_bestOwn 72 = .ok (.lmul, 1) := by decide +kernel
theorem dX10_bestOwn_73 : decode cX10_bestOwn 73 = .ok (.iload_n 2, 1) := by decide +kernel
theorem dX10_bestOwn_74 : decode cX10_bestOwn 74 = .ok (.i2l, 1) := by decide +kernel
theorem dX10_bestOwn_75 : decode cX10_bestOwn 75 = .ok (.lmul, 1) := by decide +kernel
theorem dX10_bestOwn_76 : decode cX10_bestOwn 76 = .ok (.lsub, 1) := by decide +kernel
theorem dX10_bestOwn_77 : decode cX10_bestOwn 77 = .ok (.lstore 9, 2) := by decide +kernel
theorem dX10_bestOwn_79 : decode cX10_bestOwn 79 = .ok (.iload 5, 2) := by decide +kernel
theorem dX10_bestOwn_81 : decode cX10_bestOwn 81 = .ok (.iconst (-1), 1) := by decide +kernel
theorem dX10_bestOwn_82 : decode cX10_bestOwn 82 = .ok (.if_icmp .eq 14, 3) := by decide +kernel
theorem dX10_bestOwn_85 : decode cX10_bestOwn 85 = .ok (.lload 9, 2) := by decide +kernel
theorem dX10_bestOwn_87 : decode cX10_bestOwn 87 = .ok (.lload 6, 2) := by decide +kernel
theorem dX10_bestOwn_89 : decode cX10_bestOwn 89 = .ok (.lcmp, 1) := by decide +kernel
theorem dX10_bestOwn_90 : decode cX10_bestOwn 90 = .ok (.ifCond .lt 6, 3) := by decide +kernel
theorem dX10_bestOwn_93 : decode cX10_bestOwn 93 = .ok (.goto 11, 3) := by decide +kernel
theorem dX10_bestOwn_96 : decode cX10_bestOwn 96 = .ok (.iload 8, 2) := by decide +kernel
theorem dX10_bestOwn_98 : decode cX10_bestOwn 98 = .ok (.istore 5, 2) := by decide +kernel
theorem dX10_bestOwn_100 : decode cX10_bestOwn 100 = .ok (.lload 9, 2) := by decide +kernel
theorem dX10_bestOwn_102 : decode cX10_bestOwn 102 = .ok (.lstore 6, 2) := by decide +kernel
theorem dX10_bestOwn_104 : decode cX10_bestOwn 104 = .ok (.iinc 8 1, 3) := by decide +kernel
theorem dX10_bestOwn_107 : decode cX10_bestOwn 107 = .ok (.goto (-61), 3) := by decide +kernel
theorem dX10_bestOwn_110 : decode cX10_bestOwn 110 = .ok (.aload_n 0, 1) := by decide +kernel
theorem dX10_bestOwn_111 : decode cX10_bestOwn 111 = .ok (.getfield 13, 3) := by decide +kernel
theorem dX10_bestOwn_114 : decode cX10_bestOwn 114 = .ok (.iconst 4, 1) := by decide +kernel
theorem dX10_bestOwn_115 : decode cX10_bestOwn 115 = .ok (.iload 4, 2) := by decide +kernel
theorem dX10_bestOwn_117 : decode cX10_bestOwn 117 = .ok (.iastore, 1) := by decide +kernel
theorem dX10_bestOwn_118 : decode cX10_bestOwn 118 = .ok (.iload 5, 2) := by decide +kernel
theorem dX10_bestOwn_120 : decode cX10_bestOwn 120 = .ok (.ireturn, 1) := by decide +kernel
theorem dX10_tries_0 : decode cX10_tries 0 = .ok (.aload_n 0, 1) := by decide +kernel
theorem dX10_tries_1 : decode cX10_tries 1 = .ok (.getfield 13, 3) := by decide +kernel
theorem dX10_tries_4 : decode cX10_tries 4 = .ok (.aload_n 0, 1) := by decide +kernel
theorem dX10_tries_5 : decode cX10_tries 5 = .ok (.getfield 20, 3) := by decide +kernel
theorem dX10_tries_8 : decode cX10_tries 8 = .ok (.invokestatic 278, 3) := by decide +kernel
theorem dX10_tries_11 : decode cX10_tries 11 = .ok (.aload_n 0, 1) := by decide +kernel
theorem dX10_tries_12 : decode cX10_tries 12 = .ok (.getfield 13, 3) := by decide +kernel
theorem dX10_tries_15 : decode cX10_tries 15 = .ok (.bipush 56, 2) := by decide +kernel
theorem dX10_tries_17 : decode cX10_tries 17 = .ok (.iconst 0, 1) := by decide +kernel
theorem dX10_tries_18 : decode cX10_tries 18 = .ok (.iastore, 1) := by decide +kernel
theorem dX10_tries_19 : decode cX10_tries 19 = .ok (.aload_n 0, 1) := by decide +kernel
theorem dX10_tries_20 : decode cX10_tries 20 = .ok (.invokevirtual 169, 3) := by decide +kernel
theorem dX10_tries_23 : decode cX10_tries 23 = .ok (.istore 6, 2) := by decide +kernel
theorem dX10_tries_25 : decode cX10_tries 25 = .ok (.aload_n 0, 1) := by decide +kernel
theorem dX10_tries_26 : decode cX10_tries 26 = .ok (.getfield 13, 3) := by decide +kernel
theorem dX10_tries_29 : decode cX10_tries 29 = .ok (.bipush 65, 2) := by decide +kernel
theorem dX10_tries_31 : decode cX10_tries 31 = .ok (.iaload, 1) := by decide +kernel
theorem dX10_tries_32 : decode cX10_tries 32 = .ok (.istore 7, 2) := by decide +kernel
theorem dX10_tries_34 : decode cX10_tries 34 = .ok (.aload_n 0, 1) := by decide +kernel
theorem dX10_tries_35 : decode cX10_tries 35 = .ok (.getfield 13, 3) := by decide +kernel
theorem dX10_tries_38 : decode cX10_tries 38 = .ok (.bipush 66, 2) := by decide +kernel
theorem dX10_tries_40 : decode cX10_tries 40 = .ok (.iaload, 1) := by decide +kernel
theorem dX10_tries_41 : decode cX10_tries 41 = .ok (.istore 8, 2) := by decide +kernel
theorem dX10_tries_43 : decode cX10_tries 43 = .ok (.aload_n 0, 1) := by decide +kernel
theorem dX10_tries_44 : decode cX10_tries 44 = .ok (.iload_n 1, 1) := by decide +kernel
theorem dX10_tries_45 : decode cX10_tries 45 = .ok (.iload_n 2, 1) := by decide +kernel
theorem dX10_tries_46 : decode cX10_tries 46 = .ok (.iload_n 3, 1) := by decide +kernel
theorem dX10_tries_47 : decode cX10_tries 47 = .ok (.iload 4, 2) := by decide +kernel
theorem dX10_tries_49 : decode cX10_tries 49 = .ok (.invokevirtual 172, 3) := by decide +kernel
theorem dX10_tries_52 : decode cX10_tries 52 = .ok (.iload 5, 2) := by decide +kernel
theorem dX10_tries_54 : decode cX10_tries 54 = .ok (.ifCond .ne 13, 3) := by decide +kernel
theorem dX10_tries_57 : decode cX10_tries 57 = .ok (.aload_n 0, 1) := by decide +kernel
theorem dX10_tries_58 : decode cX10_tries 58 = .ok (.invokevirtual 169, 3) := by decide +kernel
theorem dX10_tries_61 : decode cX10_tries 61 = .ok (.iload 6, 2) := by decide +kernel
theorem dX10_tries_63 : decode cX10_tries 63 = .ok (.isub, 1) := by decide +kernel
theorem dX10_tries_64 : decode cX10_tries 64 = .ok (.goto 48, 3) := by decide +kernel
theorem dX10_tries_67 : decode cX10_tries 67 = .ok (.iload 5, 2) := by decide +kernel
theorem dX10_tries_69 : decode cX10_tries 69 = .ok (.iconst 1, 1) := by decide +kernel
theorem dX10_tries_70 : decode cX10_tries 70 = .ok (.if_icmp .ne 16, 3) := by decide +kernel
theorem dX10_tries_73 : decode cX10_tries 73 = .ok (.aload_n 0, 1) := by decide +kernel
theorem dX10_tries_74 : decode cX10_tries 74 = .ok (.getfield 13, 3) := by decide +kernel
theorem dX10_tries_77 : decode cX10_tries 77 = .ok (.bipush 65, 2) := by decide +kernel
theorem dX10_tries_79 : decode cX10_tries 79 = .ok (.iaload, 1) := by decide +kernel
theorem dX10_tries_80 : decode cX10_tries 80 = .ok (.iload 7, 2) := by decide +kernel
theorem dX10_tries_82 : decode cX10_tries 82 = .ok (.isub, 1) := by decide +kernel
theorem dX10_tries_83 : decode cX10_tries 83 = .ok (.goto 29, 3) := by decide +kernel
theorem dX10_tries_86 : decode cX10_tries 86 = .ok (.iload 5, 2) := by decide +kernel
theorem dX10_tries_88 : decode cX10_tries 88 = .ok (.iconst 2, 1) := by decide +kernel
theorem dX10_tries_89 : decode cX10_tries 89 = .ok (.if_icmp .ne 16, 3) := by decide +kernel
theorem dX10_tries_92 : decode cX10_tries 92 = .ok (.aload_n 0, 1) := by decide +kernel
theorem dX10_tries_93 : decode cX10_tries 93 = .ok (.getfield 13, 3) := by decide +kernel
theorem dX10_tries_96 : decode cX10_tries 96 = .ok (.bipush 66, 2) := by decide +kernel
theorem dX10_tries_98 : decode cX10_tries 98 = .ok (.iaload, 1) := by decide +kernel
theorem dX10_tries_99 : decode cX10_tries 99 = .ok (.iload 8, 2) := by decide +kernel
theorem dX10_tries_101 : decode cX10_tries 101 = .ok (.isub, 1) := by decide +kernel
theorem dX10_tries_102 : decode cX10_tries 102 = .ok (.goto 10, 3) := by decide +kernel
theorem dX10_tries_105 : decode cX10_tries 105 = .ok (.aload_n 0, 1) := by decide +kernel
theorem dX10_tries_106 : decode cX10_tries 106 = .ok (.getfield 13, 3) := by decide +kernel
theorem dX10_tries_109 : decode cX10_tries 109 = .ok (.bipush 55, 2) := by decide +kernel
theorem dX10_tries_111 : decode cX10_tries 111 = .ok (.iaload, 1) := by decide +kernel
theorem dX10_tries_112 : decode cX10_tries 112 = .ok (.istore 9, 2) := by decide +kernel
theorem dX10_tries_114 : decode cX10_tries 114 = .ok (.aload_n 0, 1) := by decide +kernel
theorem dX10_tries_115 : decode cX10_tries 115 = .ok (.getfield 20, 3) := by decide +kernel
theorem dX10_tries_118 : decode cX10_tries 118 = .ok (.aload_n 0, 1) := by decide +kernel
theorem dX10_tries_119 : decode cX10_tries 119 = .ok (.getfield 13, 3) := by decide +kernel
theorem dX10_tries_122 : decode cX10_tries 122 = .ok (.invokestatic 278, 3) := by decide +kernel
theorem dX10_tries_125 : decode cX10_tries 125 = .ok (.iload 9, 2) := by decide +kernel
theorem dX10_tries_127 : decode cX10_tries 127 = .ok (.ireturn, 1) := by decide +kernel
theorem dX10_would_0 : decode cX10_would 0 = .ok (.aload_n 0, 1) := by decide +kernel
theorem dX10_would_1 : decode cX10_would 1 = .ok (.getfield 13, 3) := by decide +kernel
theorem dX10_would_4 : decode cX10_would 4 = .ok (.iconst 0, 1) := by decide +kernel
theorem dX10_would_5 : decode cX10_would 5 = .ok (.iaload, 1) := by decide +kernel
theorem dX10_would_6 : decode cX10_would 6 = .ok (.ifCond .le 39, 3) := by decide +kernel
theorem dX10_would_9 : decode cX10_would 9 = .ok (.iload_n 1, 1) := by decide +kernel
theorem dX10_would_10 : decode cX10_would 10 = .ok (.iload_n 2, 1) := by decide +kernel
theorem dX10_would_11 : decode cX10_would 11 = .ok (.iload_n 3, 1) := by decide +kernel
theorem dX10_would_12 : decode cX10_would 12 = .ok (.invokestatic 165, 3) := by decide +kernel
theorem dX10_would_15 : decode cX10_would 15 = .ok (.ifCond .eq 30, 3) := by decide +kernel
theorem dX10_would_18 : decode cX10_would 18 = .ok (.iload 5, 2) := by decide +kernel
theorem dX10_would_20 : decode cX10_would 20 = .ok (.i2l, 1) := by decide +kernel
theorem dX10_would_21 : decode cX10_would 21 = .ok (.lconst 0, 1) := by decide +kernel
theorem dX10_would_22 : decode cX10_would 22 = .ok (.ldc2_w 100, 3) := by decide +kernel
theorem dX10_would_25 : decode cX10_would 25 = .ok (.invokestatic 66, 3) := by decide +kernel
theorem dX10_would_28 : decode cX10_would 28 = .ok (.ifCond .eq 17, 3) := by decide +kernel
theorem dX10_would_31 : decode cX10_would 31 = .ok (.aload_n 0, 1) := by decide +kernel
theorem dX10_would_32 : decode cX10_would 32 = .ok (.iload_n 1, 1) := by decide +kernel
theorem dX10_would_33 : decode cX10_would 33 = .ok (.iload_n 2, 1) := by decide +kernel
theorem dX10_would_34 : decode cX10_would 34 = .ok (.iload_n 3, 1) := by decide +kernel
theorem dX10_would_35 : decode cX10_would 35 = .ok (.iload 4, 2) := by decide +kernel
theorem dX10_would_37 : decode cX10_would 37 = .ok (.iload 5, 2) := by decide +kernel
theorem dX10_would_39 : decode cX10_would 39 = .ok (.invokevirtual 284, 3) := by decide +kernel
theorem dX10_would_42 : decode cX10_would 42 = .ok (.goto 4, 3) := by decide +kernel
theorem dX10_would_45 : decode cX10_would 45 = .ok (.iconst (-1), 1) := by decide +kernel
theorem dX10_would_46 : decode cX10_would 46 = .ok (.ireturn, 1) := by decide +kernel
theorem dX10_bestRule_0 : decode cX10_bestRule 0 = .ok (.aload_n 0, 1) := by decide +kernel
theorem dX10_bestRule_1 : decode cX10_bestRule 1 = .ok (.getfield 13, 3) := by decide +kernel
theorem dX10_bestRule_4 : decode cX10_bestRule 4 = .ok (.iconst 0, 1) := by decide +kernel
theorem dX10_bestRule_5 : decode cX10_bestRule 5 = .ok (.iaload, 1) := by decide +kernel
theorem dX10_bestRule_6 : decode cX10_bestRule 6 = .ok (.ifCond .eq 15, 3) := by decide +kernel
theorem dX10_bestRule_9 : decode cX10_bestRule 9 = .ok (.iload_n 1, 1) := by decide +kernel
theorem dX10_bestRule_10 : decode cX10_bestRule 10 = .ok (.i2l, 1) := by decide +kernel
theorem dX10_bestRule_11 : decode cX10_bestRule 11 = .ok (.lconst 1, 1) := by decide +kernel
theorem dX10_bestRule_12 : decode cX10_bestRule 12 = .ok (.ldc2_w 163, 3) := by decide +kernel
theorem dX10_bestRule_15 : decode cX10_bestRule 15 = .ok (.invokestatic 66, 3) := by decide +kernel
theorem dX10_bestRule_18 : decode cX10_bestRule 18 = .ok (.ifCond .ne 5, 3) := by decide +kernel
theorem dX10_bestRule_21 : decode cX10_bestRule 21 = .ok (.iconst (-1), 1) := by decide +kernel
theorem dX10_bestRule_22 : decode cX10_bestRule 22 = .ok (.ireturn, 1) := by decide +kernel
theorem dX10_bestRule_23 : decode cX10_bestRule 23 = .ok (.iconst 0, 1) := by decide +kernel
theorem dX10_bestRule_24 : decode cX10_bestRule 24 = .ok (.istore_n 3, 1) := by decide +kernel
theorem dX10_bestRule_25 : decode cX10_bestRule 25 = .ok (.aload_n 0, 1) := by decide +kernel
theorem dX10_bestRule_26 : decode cX10_bestRule 26 = .ok (.iload_n 1, 1) := by decide +kernel
theorem dX10_bestRule_27 : decode cX10_bestRule 27 = .ok (.iconst 0, 1) := by decide +kernel
theorem dX10_bestRule_28 : decode cX10_bestRule 28 = .ok (.iconst 0, 1) := by decide +kernel
theorem dX10_bestRule_29 : decode cX10_bestRule 29 = .ok (.iload_n 2, 1) := by decide +kernel
theorem dX10_bestRule_30 : decode cX10_bestRule 30 = .ok (.iconst 0, 1) := by decide +kernel
theorem dX10_bestRule_31 : decode cX10_bestRule 31 = .ok (.invokevirtual 284, 3) := by decide +kernel
theorem dX10_bestRule_34 : decode cX10_bestRule 34 = .ok (.istore 4, 2) := by decide +kernel
theorem dX10_bestRule_36 : decode cX10_bestRule 36 = .ok (.iconst 1, 1) := by decide +kernel
theorem dX10_bestRule_37 : decode cX10_bestRule 37 = .ok (.istore 5, 2) := by decide +kernel
theorem dX10_bestRule_39 : decode cX10_bestRule 39 = .ok (.iload 5, 2) := by decide +kernel
theorem dX10_bestRule_41 : decode cX10_bestRule 41 = .ok (.iconst 3, 1) := by decide +kernel
theorem dX10_bestRule_42 : decode cX10_bestRule 42 = .ok (.if_icmp .ge 38, 3) := by decide +kernel
theorem dX10_bestRule_45 : decode cX10_bestRule 45 = .ok (.aload_n 0, 1) := by decide +kernel
theorem dX10_bestRule_46 : decode cX10_bestRule 46 = .ok (.iload_n 1, 1) := by decide +kernel
theorem dX10_bestRule_47 : decode cX10_bestRule 47 = .ok (.iload 5, 2) := by decide +kernel
theorem dX10_bestRule_49 : decode cX10_bestRule 49 = .ok (.iconst 0, 1) := by decide +kernel
theorem dX10_bestRule_50 : decode cX10_bestRule 50 = .ok (.iload_n 2, 1) := by decide +kernel
theorem dX10_bestRule_51 : decode cX10_bestRule 51 = .ok (.iconst 0, 1) := by decide +kernel
theorem dX10_bestRule_52 : decode cX10_bestRule 52 = .ok (.invokevirtual 284, 3) := by decide +kernel
theorem dX10_bestRule_55 : decode cX10_bestRule 55 = .ok (.istore 6, 2) := by decide +kernel
theorem dX10_bestRule_57 : decode cX10_bestRule 57 = .ok (.iload 6, 2) := by decide +kernel
theorem dX10_bestRule_59 : decode cX10_bestRule 59 = .ok (.iload 4, 2) := by decide +kernel
theorem dX10_bestRule_61 : decode cX10_bestRule 61 = .ok (.if_icmp .lt 6, 3) := by decide +kernel
theorem dX10_bestRule_64 : decode cX10_bestRule 64 = .ok (.goto 10, 3) := by decide +kernel
theorem dX10_bestRule_67 : decode cX10_bestRule 67 = .ok (.iload 5, 2) := by decide +kernel
theorem dX10_bestRule_69 : decode cX10_bestRule 69 = .ok (.istore_n 3, 1) := by decide +kernel
theorem dX10_bestRule_70 : decode cX10_bestRule 70 = .ok (.iload 6, 2) := by decide +kernel
theorem dX10_bestRule_72 : decode cX10_bestRule 72 = .ok (.istore 4, 2) := by decide +kernel
theorem dX10_bestRule_74 : decode cX10_bestRule 74 = .ok (.iinc 5 1, 3) := by decide +kernel
theorem dX10_bestRule_77 : decode cX10_bestRule 77 = .ok (.goto (-38), 3) := by decide +kernel
theorem dX10_bestRule_80 : decode cX10_bestRule 80 = .ok (.iload_n 3, 1) := by decide +kernel
theorem dX10_bestRule_81 : decode cX10_bestRule 81 = .ok (.ireturn, 1) := by decide +kernel
theorem dX10_dearest_0 : decode cX10_dearest 0 = .ok (.iload_n 1, 1) := by decide +kernel
theorem dX10_dearest_1 : decode cX10_dearest 1 = .ok (.i2l, 1) := by decide +kernel
theorem dX10_dearest_2 : decode cX10_dearest 2 = .ok (.lconst 1, 1) := by decide +kernel
theorem dX10_dearest_3 : decode cX10_dearest 3 = .ok (.ldc2_w 163, 3) := by decide +kernel
theorem dX10_dearest_6 : decode cX10_dearest 6 = .ok (.invokestatic 66, 3) := by decide +kernel
theorem dX10_dearest_9 : decode cX10_dearest 9 = .ok (.ifCond .eq 11, 3) := by decide +kernel
theorem dX10_dearest_12 : decode cX10_dearest 12 = .ok (.aload_n 0, 1) := by decide +kernel
theorem dX10_dearest_13 : decode cX10_dearest 13 = .ok (.iload_n 2, 1) := by decide +kernel
theorem dX10_dearest_14 : decode cX10_dearest 14 = .ok (.invokevirtual 84, 3) := by decide +kernel
theorem dX10_dearest_17 : decode cX10_dearest 17 = .ok (.ifCond .ne 5, 3) := by decide +kernel
theorem dX10_dearest_20 : decode cX10_dearest 20 = .ok (.iconst (-1), 1) := by decide +kernel
theorem dX10_dearest_21 : decode cX10_dearest 21 = .ok (.ireturn, 1) := by decide +kernel
theorem dX10_dearest_22 : decode cX10_dearest 22 = .ok (.iconst 5, 1) := by decide +kernel
theorem dX10_dearest_23 : decode cX10_dearest 23 = .ok (.iconst 5, 1) := by decide +kernel
theorem dX10_dearest_24 : decode cX10_dearest 24 = .ok (.iload_n 2, 1) := by decide +kernel
theorem dX10_dearest_25 : decode cX10_dearest 25 = .ok (.imul, 1) := by decide +kernel
theorem dX10_dearest_26 : decode cX10_dearest 26 = .ok (.iadd, 1) := by decide +kernel
theorem dX10_dearest_27 : decode cX10_dearest 27 = .ok (.iconst 4, 1) := by decide +kernel
theorem dX10_dearest_28 : decode cX10_dearest 28 = .ok (.iadd, 1) := by decide +kernel
theorem dX10_dearest_29 : decode cX10_dearest 29 = .ok (.istore_n 3, 1) := by decide +kernel
theorem dX10_dearest_30 : decode cX10_dearest 30 = .ok (.aload_n 0, 1) := by decide +kernel
theorem dX10_dearest_31 : decode cX10_dearest 31 = .ok (.getfield 13, 3) := by decide +kernel
theorem dX10_dearest_34 : decode cX10_dearest 34 = .ok (.iload_n 3, 1) := by decide +kernel
theorem dX10_dearest_35 : decode cX10_dearest 35 = .ok (.iaload, 1) := by decide +kernel
theorem dX10_dearest_36 : decode cX10_dearest 36 = .ok (.istore 4, 2) := by decide +kernel
theorem dX10_dearest_38 : decode cX10_dearest 38 = .ok (.bipush (-2), 2) := by decide +kernel
theorem dX10_dearest_40 : decode cX10_dearest 40 = .ok (.istore 5, 2) := by decide +kernel
theorem dX10_dearest_42 : decode cX10_dearest 42 = .ok (.bipush 99, 2) := by decide +kernel
theorem dX10_dearest_44 : decode cX10_dearest 44 = .ok (.istore 6, 2) := by decide +kernel
theorem dX10_dearest_46 : decode cX10_dearest 46 = .ok (.iload 6, 2) := by decide +kernel
theorem dX10_dearest_48 : decode cX10_dearest 48 = .ok (.ifCond .lt 45, 3) := by decide +kernel
theorem dX10_dearest_51 : decode cX10_dearest 51 = .ok (.iload 5, 2) := by decide +kernel
theorem dX10_dearest_53 : decode cX10_dearest 53 = .ok (.bipush (-2), 2) := by decide +kernel
theorem dX10_dearest_55 : decode cX10_dearest 55 = .ok (.if_icmp .ne 38, 3) := by decide +kernel
theorem dX10_dearest_58 : decode cX10_dearest 58 = .ok (.aload_n 0, 1) := by decide +kernel
theorem dX10_dearest_59 : decode cX10_dearest 59 = .ok (.getfield 13, 3) := by decide +kernel
theorem dX10_dearest_62 : decode cX10_dearest 62 = .ok (.iload_n 3, 1) := by decide +kernel
theorem dX10_dearest_63 : decode cX10_dearest 63 = .ok (.iload 6, 2) := by decide +kernel
theorem dX10_dearest_65 : decode cX10_dearest 65 = .ok (.iastore, 1) := by decide +kernel
theorem dX10_dearest_66 : decode cX10_dearest 66 = .ok (.aload_n 0, 1) := by decide +kernel
theorem dX10_dearest_67 : decode cX10_dearest 67 = .ok (.iload_n 1, 1) := by decide +kernel
theorem dX10_dearest_68 : decode cX10_dearest 68 = .ok (.iconst 1, 1) := by decide +kernel
theorem dX10_dearest_69 : decode cX10_dearest 69 = .ok (.iconst 0, 1) := by decide +kernel
theorem dX10_dearest_70 : decode cX10_dearest 70 = .ok (.iconst 0, 1) := by decide +kernel
theorem dX10_dearest_71 : decode cX10_dearest 71 = .ok (.invokevirtual 142, 3) := by decide +kernel
theorem dX10_dearest_74 : decode cX10_dearest 74 = .ok (.aload_n 0, 1) := by decide +kernel
theorem dX10_dearest_75 : decode cX10_dearest 75 = .ok (.iload_n 1, 1) := by decide +kernel
theorem dX10_dearest_76 : decode cX10_dearest 76 = .ok (.iload_n 2, 1) := by decide +kernel
theorem dX10_dearest_77 : decode cX10_dearest 77 = .ok (.invokevirtual 146, 3) := by decide +kernel
theorem dX10_dearest_80 : decode cX10_dearest 80 = .ok (.ifCond .eq 7, 3) := by decide +kernel
theorem dX10_dearest_83 : decode cX10_dearest 83 = .ok (.iload 6, 2) := by decide +kernel
theorem dX10_dearest_85 : decode cX10_dearest 85 = .ok (.istore 5, 2) := by decide +kernel
theorem dX10_dearest_87 : decode cX10_dearest 87 = .ok (.iinc 6 (-1), 3) := by decide +kernel
theorem dX10_dearest_90 : decode cX10_dearest 90 = .ok (.goto (-44), 3) := by decide +kernel
theorem dX10_dearest_93 : decode cX10_dearest 93 = .ok (.aload_n 0, 1) := by decide +kernel
theorem dX10_dearest_94 : decode cX10_dearest 94 = .ok (.getfield 13, 3) := by decide +kernel
theorem dX10_dearest_97 : decode cX10_dearest 97 = .ok (.iload_n 3, 1) := by decide +kernel
theorem dX10_dearest_98 : decode cX10_dearest 98 = .ok (.iload 4, 2) := by decide +kernel
theorem dX10_dearest_100 : decode cX10_dearest 100 = .ok (.iastore, 1) := by decide +kernel
theorem dX10_dearest_101 : decode cX10_dearest 101 = .ok (.iload 5, 2) := by decide +kernel
theorem dX10_dearest_103 : decode cX10_dearest 103 = .ok (.ireturn, 1) := by decide +kernel
theorem dX10_of_0 : decode cX10_of 0 = .ok (.aload_n 0, 1) := by decide +kernel
theorem dX10_of_1 : decode cX10_of 1 = .ok (.iload_n 1, 1) := by decide +kernel
theorem dX10_of_2 : decode cX10_of 2 = .ok (.invokevirtual 84, 3) := by decide +kernel
theorem dX10_of_5 : decode cX10_of 5 = .ok (.ifCond .eq 24, 3) := by decide +kernel
theorem dX10_of_8 : decode cX10_of 8 = .ok (.iload_n 2, 1) := by decide +kernel
theorem dX10_of_9 : decode cX10_of 9 = .ok (.i2l, 1) := by decide +kernel
theorem dX10_of_10 : decode cX10_of 10 = .ok (.lconst 0, 1) := by decide +kernel
theorem dX10_of_11 : decode cX10_of 11 = .ok (.ldc2_w 88, 3) := by decide +kernel
theorem dX10_of_14 : decode cX10_of 14 = .ok (.invokestatic 66, 3) := by decide +kernel
theorem dX10_of_17 : decode cX10_of 17 = .ok (.ifCond .eq 12, 3) := by decide +kernel
theorem dX10_of_20 : decode cX10_of 20 = .ok (.aload_n 0, 1) := by decide +kernel
theorem dX10_of_21 : decode cX10_of 21 = .ok (.iload_n 1, 1) := by decide +kernel
theorem dX10_of_22 : decode cX10_of 22 = .ok (.iload_n 2, 1) := by decide +kernel
theorem dX10_of_23 : decode cX10_of 23 = .ok (.invokevirtual 74, 3) := by decide +kernel
theorem dX10_of_26 : decode cX10_of 26 = .ok (.goto 4, 3) := by decide +kernel
theorem dX10_of_29 : decode cX10_of 29 = .ok (.iconst (-1), 1) := by decide +kernel
theorem dX10_of_30 : decode cX10_of 30 = .ok (.ireturn, 1) := by decide +kernel
theorem dX10_ofSort_0 : decode cX10_ofSort 0 = .ok (.aload_n 0, 1) := by decide +kernel
theorem dX10_ofSort_1 : decode cX10_ofSort 1 = .ok (.iload_n 1, 1) := by decide +kernel
theorem dX10_ofSort_2 : decode cX10_ofSort 2 = .ok (.invokevirtual 93, 3) := by decide +kernel
theorem dX10_ofSort_5 : decode cX10_ofSort 5 = .ok (.ifCond .ne 5, 3) := by decide +kernel
theorem dX10_ofSort_8 : decode cX10_ofSort 8 = .ok (.iconst (-1), 1) := by decide +kernel
theorem dX10_ofSort_9 : decode cX10_ofSort 9 = .ok (.ireturn, 1) := by decide +kernel
theorem dX10_ofSort_10 : decode cX10_ofSort 10 = .ok (.iload_n 2, 1) := by decide +kernel
theorem dX10_ofSort_11 : decode cX10_ofSort 11 = .ok (.ifCond .ne 11, 3) := by decide +kernel
theorem dX10_ofSort_14 : decode cX10_ofSort 14 = .ok (.aload_n 0, 1) := by decide +kernel
theorem dX10_ofSort_15 : decode cX10_ofSort 15 = .ok (.iload_n 1, 1) := by decide +kernel
theorem dX10_ofSort_16 : decode cX10_ofSort 16 = .ok (.invokevirtual 78, 3) := by decide +kernel
theorem dX10_ofSort_19 : decode cX10_ofSort 19 = .ok (.goto 37, 3) := by decide +kernel
theorem dX10_ofSort_22 : decode cX10_ofSort 22 = .ok (.iload_n 2, 1) := by decide +kernel
theorem dX10_ofSort_23 : decode cX10_ofSort 23 = .ok (.iconst 1, 1) := by decide +kernel
theorem dX10_ofSort_24 : decode cX10_ofSort 24 = .ok (.if_icmp .ne 11, 3) := by decide +kernel
theorem dX10_ofSort_27 : decode cX10_ofSort 27 = .ok (.aload_n 0, 1) := by decide +kernel
theorem dX10_ofSort_28 : decode cX10_ofSort 28 = .ok (.iload_n 1, 1) := by decide +kernel
theorem dX10_ofSort_29 : decode cX10_ofSort 29 = .ok (.invokevirtual 70, 3) := by decide +kernel
theorem dX10_ofSort_32 : decode cX10_ofSort 32 = .ok (.goto 24, 3) := by decide +kernel
theorem dX10_ofSort_35 : decode cX10_ofSort 35 = .ok (.iload_n 2, 1) := by decide +kernel
theorem dX10_ofSort_36 : decode cX10_ofSort 36 = .ok (.iconst 2, 1) := by decide +kernel
theorem dX10_ofSort_37 : decode cX10_ofSort 37 = .ok (.if_icmp .ne 18, 3) := by decide +kernel
theorem dX10_ofSort_40 : decode cX10_ofSort 40 = .ok (.aload_n 0, 1) := by decide +kernel
theorem dX10_ofSort_41 : decode cX10_ofSort 41 = .ok (.getfield 13, 3) := by decide +kernel
theorem dX10_ofSort_44 : decode cX10_ofSort 44 = .ok (.iconst 3, 1) := by decide +kernel
theorem dX10_ofSort_45 : decode cX10_ofSort 45 = .ok (.iaload, 1) := by decide +kernel
theorem dX10_ofSort_46 : decode cX10_ofSort 46 = .ok (.aload_n 0, 1) := by decide +kernel
theorem dX10_ofSort_47 : decode cX10_ofSort 47 = .ok (.iload_n 1, 1) := by decide +kernel
theorem dX10_ofSort_48 : decode cX10_ofSort 48 = .ok (.invokevirtual 70, 3) := by decide +kernel
theorem dX10_ofSort_51 : decode cX10_ofSort 51 = .ok (.imul, 1) := by decide +kernel
theorem dX10_ofSort_52 : decode cX10_ofSort 52 = .ok (.goto 4, 3) := by decide +kernel
theorem dX10_ofSort_55 : decode cX10_ofSort 55 = .ok (.iconst (-1), 1) := by decide +kernel
theorem dX10_ofSort_56 : decode cX10_ofSort 56 = .ok (.ireturn, 1) := by decide +kernel
theorem dX10_life_0 : decode cX10_life 0 = .ok (.iload_n 1, 1) := by decide +kernel
theorem dX10_life_1 : decode cX10_life 1 = .ok (.tableswitch 181 0 12 #[67, 88, 96, 104, 112, 120, 128, 136, 144, 152, 160, 168, 176], 67) := by decide +kernel
theorem dX10_life_68 : decode cX10_life 68 = .ok (.aload_n 0, 1) := by decide +kernel
theorem dX10_life_69 : decode cX10_life 69 = .ok (.getfield 13, 3) := by decide +kernel
theorem dX10_life_72 : decode cX10_life 72 = .ok (.iconst 0, 1) := by decide +kernel
theorem dX10_life_73 : decode cX10_life 73 = .ok (.iaload, 1) := by decide +kernel
theorem dX10_life_74 : decode cX10_life 74 = .ok (.ifCond .ne 7, 3) := by decide +kernel
theorem dX10_life_77 : decode cX10_life 77 = .ok (.iconst (-1), 1) := by decide +kernel
theorem dX10_life_78 : decode cX10_life 78 = .ok (.goto 10, 3) := by decide +kernel
theorem dX10_life_81 : decode cX10_life 81 = .ok (.aload_n 0, 1) := by decide +kernel
theorem dX10_life_82 : decode cX10_life 82 = .ok (.getfield 13, 3) := by decide +kernel
theorem dX10_life_85 : decode cX10_life 85 = .ok (.bipush 55, 2) := by decide +kernel
theorem dX10_life_87 : decode cX10_life 87 = .ok (.iaload, 1) := by decide +kernel
theorem dX10_life_88 : decode cX10_life 88 = .ok (.ireturn, 1) := by decide +kernel
theorem dX10_life_89 : decode cX10_life 89 = .ok (.aload_n 0, 1) := by decide +kernel
theorem dX10_life_90 : decode cX10_life 90 = .ok (.getfield 13, 3) := by decide +kernel
theorem dX10_life_93 : decode cX10_life 93 = .ok (.bipush 56, 2) := by decide +kernel
theorem dX10_life_95 : decode cX10_life 95 = .ok (.iaload, 1) := by decide +kernel
theorem dX10_life_96 : decode cX10_life 96 = .ok (.ireturn, 1) := by decide +kernel
theorem dX10_life_97 : decode cX10_life 97 = .ok (.aload_n 0, 1) := by decide +kernel
theorem dX10_life_98 : decode cX10_life 98 = .ok (.getfield 13, 3) := by decide +kernel
theorem dX10_life_101 : decode cX10_life 101 = .ok (.bipush 57, 2) := by decide +kernel
theorem dX10_life_103 : decode cX10_life 103 = .ok (.iaload, 1) := by decide +kernel
theorem dX10_life_104 : decode cX10_life 104 = .ok (.ireturn, 1) := by decide +kernel
theorem dX10_life_105 : decode cX10_life 105 = .ok (.aload_n 0, 1) := by decide +kernel
theorem dX10_life_106 : decode cX10_life 106 = .ok (.getfield 13, 3) := by decide +kernel
theorem dX10_life_109 : decode cX10_life 109 = .ok (.bipush 58, 2) := by decide +kernel
theorem dX10_life_111 : decode cX10_life 111 = .ok (.iaload, 1) := by decide +kernel
theorem dX10_life_112 : decode cX10_life 112 = .ok (.ireturn, 1) := by decide +kernel
theorem dX10_life_113 : decode cX10_life 113 = .ok (.aload_n 0, 1) := by decide +kernel
theorem dX10_life_114 : decode cX10_life 114 = .ok (.getfield 13, 3) := by decide +kernel
theorem dX10_life_117 : decode cX10_life 117 = .ok (.bipush 59, 2) := by decide +kernel
theorem dX10_life_119 : decode cX10_life 119 = .ok (.iaload, 1) := by decide +kernel
theorem dX10_life_120 : decode cX10_life 120 = .ok (.ireturn, 1) := by decide +kernel
theorem dX10_life_121 : decode cX10_life 121 = .ok (.aload_n 0, 1) := by decide +kernel
theorem dX10_life_122 : decode cX10_life 122 = .ok (.getfield 13, 3) := by decide +kernel
theorem dX10_life_125 : decode cX10_life 125 = .ok (.bipush 60, 2) := by decide +kernel
theorem dX10_life_127 : decode cX10_life 127 = .ok (.iaload, 1) := by decide +kernel
theorem dX10_life_128 : decode cX10_life 128 = .ok (.ireturn, 1) := by decide +kernel
theorem dX10_life_129 : decode cX10_life 129 = .ok (.aload_n 0, 1) := by decide +kernel
theorem dX10_life_130 : decode cX10_life 130 = .ok (.getfield 13, 3) := by decide +kernel
theorem dX10_life_133 : decode cX10_life 133 = .ok (.bipush 61, 2) := by decide +kernel
theorem dX10_life_135 : decode cX10_life 135 = .ok (.iaload, 1) := by decide +kernel
theorem dX10_life_136 : decode cX10_life 136 = .ok (.ireturn, 1) := by decide +kernel
theorem dX10_life_137 : decode cX10_life 137 = .ok (.aload_n 0, 1) := by decide +kernel
theorem dX10_life_138 : decode cX10_life 138 = .ok (.getfield 13, 3) := by decide +kernel
theorem dX10_life_141 : decode cX10_life 141 = .ok (.bipush 62, 2) := by decide +kernel
theorem dX10_life_143 : decode cX10_life 143 = .ok (.iaload, 1) := by decide +kernel
theorem dX10_life_144 : decode cX10_life 144 = .ok (.ireturn, 1) := by decide +kernel
theorem dX10_life_145 : decode cX10_life 145 = .ok (.aload_n 0, 1) := by decide +kernel
theorem dX10_life_146 : decode cX10_life 146 = .ok (.getfield 13, 3) := by decide +kernel
theorem dX10_life_149 : decode cX10_life 149 = .ok (.bipush 63, 2) := by decide +kernel
theorem dX10_life_151 : decode cX10_life 151 = .ok (.iaload, 1) := by decide +kernel
theorem dX10_life_152 : decode cX10_life 152 = .ok (.ireturn, 1) := by decide +kernel
theorem dX10_life_153 : decode cX10_life 153 = .ok (.aload_n 0, 1) := by decide +kernel
theorem dX10_life_154 : decode cX10_life 154 = .ok (.getfield 13, 3) := by decide +kernel
theorem dX10_life_157 : decode cX10_life 157 = .ok (.bipush 64, 2) := by decide +kernel
theorem dX10_life_159 : decode cX10_life 159 = .ok (.iaload, 1) := by decide +kernel
theorem dX10_life_160 : decode cX10_life 160 = .ok (.ireturn, 1) := by decide +kernel
theorem dX10_life_161 : decode cX10_life 161 = .ok (.aload_n 0, 1) := by decide +kernel
theorem dX10_life_162 : decode cX10_life 162 = .ok (.getfield 13, 3) := by decide +kernel
theorem dX10_life_165 : decode cX10_life 165 = .ok (.bipush 65, 2) := by decide +kernel
theorem dX10_life_167 : decode cX10_life 167 = .ok (.iaload, 1) := by decide +kernel
theorem dX10_life_168 : decode cX10_life 168 = .ok (.ireturn, 1) := by decide +kernel
theorem dX10_life_169 : decode cX10_life 169 = .ok (.aload_n 0, 1) := by decide +kernel
theorem dX10_life_170 : decode cX10_life 170 = .ok (.getfield 13, 3) := by decide +kernel
theorem dX10_life_173 : decode cX10_life 173 = .ok (.bipush 66, 2) := by decide +kernel
theorem dX10_life_175 : decode cX10_life 175 = .ok (.iaload, 1) := by decide +kernel
theorem dX10_life_176 : decode cX10_life 176 = .ok (.ireturn, 1) := by decide +kernel
theorem dX10_life_177 : decode cX10_life 177 = .ok (.aload_n 0, 1) := by decide +kernel
theorem dX10_life_178 : decode cX10_life 178 = .ok (.invokevirtual 169, 3) := by decide +kernel
theorem dX10_life_181 : decode cX10_life 181 = .ok (.ireturn, 1) := by decide +kernel
theorem dX10_life_182 : decode cX10_life 182 = .ok (.iconst (-1), 1) := by decide +kernel
theorem dX10_life_183 : decode cX10_life 183 = .ok (.ireturn, 1) := by decide +kernel
theorem dX10_entry_0 : decode cX10_entry 0 = .ok (.iload_n 2, 1) := by decide +kernel
theorem dX10_entry_1 : decode cX10_entry 1 = .ok (.i2l, 1) := by decide +kernel
theorem dX10_entry_2 : decode cX10_entry 2 = .ok (.lconst 0, 1) := by decide +kernel
theorem dX10_entry_3 : decode cX10_entry 3 = .ok (.aload_n 0, 1) := by decide +kernel
theorem dX10_entry_4 : decode cX10_entry 4 = .ok (.getfield 13, 3) := by decide +kernel
theorem dX10_entry_7 : decode cX10_entry 7 = .ok (.iload_n 1, 1) := by decide +kernel
theorem dX10_entry_8 : decode cX10_entry 8 = .ok (.iaload, 1) := by decide +kernel
theorem dX10_entry_9 : decode cX10_entry 9 = .ok (.iconst 1, 1) := by decide +kernel
theorem dX10_entry_10 : decode cX10_entry 10 = .ok (.isub, 1) := by decide +kernel
theorem dX10_entry_11 : decode cX10_entry 11 = .ok (.i2l, 1) := by decide +kernel
theorem dX10_entry_12 : decode cX10_entry 12 = .ok (.invokestatic 66, 3) := by decide +kernel
theorem dX10_entry_15 : decode cX10_entry 15 = .ok (.ifCond .eq 41, 3) := by decide +kernel
theorem dX10_entry_18 : decode cX10_entry 18 = .ok (.iload_n 3, 1) := by decide +kernel
theorem dX10_entry_19 : decode cX10_entry 19 = .ok (.i2l, 1) := by decide +kernel
theorem dX10_entry_20 : decode cX10_entry 20 = .ok (.lconst 0, 1) := by decide +kernel
theorem dX10_entry_21 : decode cX10_entry 21 = .ok (.ldc2_w 235, 3) := by decide +kernel
theorem dX10_entry_24 : decode cX10_entry 24 = .ok (.invokestatic 66, 3) := by decide +kernel
theorem dX10_entry_27 : decode cX10_entry 27 = .ok (.ifCond .eq 29, 3) := by decide +kernel
theorem dX10_entry_30 : decode cX10_entry 30 = .ok (.aload_n 0, 1) := by decide +kernel
theorem dX10_entry_31 : decode cX10_entry 31 = .ok (.getfield 13, 3) := by decide +kernel
theorem dX10_entry_34 : decode cX10_entry 34 = .ok (.iload_n 1, 1) := by decide +kernel
theorem dX10_entry_35 : decode cX10_entry 35 = .ok (.iconst 1, 1) := by decide +kernel
theorem dX10_entry_36 : decode cX10_entry 36 = .ok (.iadd, 1) := by decide +kernel
theorem dX10_entry_37 : decode cX10_entry 37 = .ok (.iconst 3, 1) := by decide +kernel
theorem dX10_entry_38 : decode cX10_entry 38 = .ok (.aload_n 0, 1) := by decide +kernel
theorem dX10_entry_39 : decode cX10_entry 39 = .ok (.getfield 13, 3) := by decide +kernel
theorem dX10_entry_42 : decode cX10_entry 42 = .ok (.iload_n 1, 1) := by decide +kernel
theorem dX10_entry_43 : decode cX10_entry 43 = .ok (.iaload, 1) := by decide +kernel
theorem dX10_entry_44 : decode cX10_entry 44 = .ok (.iconst 1, 1) := by decide +kernel
theorem dX10_entry_45 : decode cX10_entry 45 = .ok (.isub, 1) := by decide +kernel
theorem dX10_entry_46 : decode cX10_entry 46 = .ok (.iload_n 2, 1) := by decide +kernel
theorem dX10_entry_47 : decode cX10_entry 47 = .ok (.isub, 1) := by decide +kernel
theorem dX10_entry_48 : decode cX10_entry 48 = .ok (.imul, 1) := by decide +kernel
theorem dX10_entry_49 : decode cX10_entry 49 = .ok (.iadd, 1) := by decide +kernel
theorem dX10_entry_50 : decode cX10_entry 50 = .ok (.iload_n 3, 1) := by decide +kernel
theorem dX10_entry_51 : decode cX10_entry 51 = .ok (.iadd, 1) := by decide +kernel
theorem dX10_entry_52 : decode cX10_entry 52 = .ok (.iaload, 1) := by decide +kernel
theorem dX10_entry_53 : decode cX10_entry 53 = .ok (.goto 4, 3) := by decide +kernel
theorem dX10_entry_56 : decode cX10_entry 56 = .ok (.iconst (-1), 1) := by decide +kernel
theorem dX10_entry_57 : decode cX10_entry 57 = .ok (.ireturn, 1) := by decide +kernel
theorem dX10_book_0 : decode cX10_book 0 = .ok (.aload_n 0, 1) := by decide +kernel
theorem dX10_book_1 : decode cX10_book 1 = .ok (.bipush 69, 2) := by decide +kernel
theorem dX10_book_3 : decode cX10_book 3 = .ok (.iload_n 1, 1) := by decide +kernel
theorem dX10_book_4 : decode cX10_book 4 = .ok (.iload_n 2, 1) := by decide +kernel
theorem dX10_book_5 : decode cX10_book 5 = .ok (.invokevirtual 288, 3) := by decide +kernel
theorem dX10_book_8 : decode cX10_book 8 = .ok (.ireturn, 1) := by decide +kernel
theorem dX10_ledger_0 : decode cX10_ledger 0 = .ok (.aload_n 0, 1) := by decide +kernel
theorem dX10_ledger_1 : decode cX10_ledger 1 = .ok (.bipush 118, 2) := by decide +kernel
theorem dX10_ledger_3 : decode cX10_ledger 3 = .ok (.iload_n 1, 1) := by decide +kernel
theorem dX10_ledger_4 : decode cX10_ledger 4 = .ok (.iload_n 2, 1) := by decide +kernel
theorem dX10_ledger_5 : decode cX10_ledger 5 = .ok (.invokevirtual 288, 3) := by decide +kernel
theorem dX10_ledger_8 : decode cX10_ledger 8 = .ok (.ireturn, 1) := by decide +kernel
theorem dX10_mean_0 : decode cX10_mean 0 = .ok (.aload_n 0, 1) := by decide +kernel
theorem dX10_mean_1 : decode cX10_mean 1 = .ok (.getfield 13, 3) := by decide +kernel
theorem dX10_mean_4 : decode cX10_mean 4 = .ok (.bipush 118, 2) := by decide +kernel
theorem dX10_mean_6 : decode cX10_mean 6 = .ok (.iaload, 1) := by decide +kernel
theorem dX10_mean_7 : decode cX10_mean 7 = .ok (.istore_n 2, 1) := by decide +kernel
theorem dX10_mean_8 : decode cX10_mean 8 = .ok (.iload_n 2, 1) := by decide +kernel
theorem dX10_mean_9 : decode cX10_mean 9 = .ok (.ifCond .ne 5, 3) := by decide +kernel
theorem dX10_mean_12 : decode cX10_mean 12 = .ok (.iconst (-1), 1) := by decide +kernel
theorem dX10_mean_13 : decode cX10_mean 13 = .ok (.ireturn, 1) := by decide +kernel
theorem dX10_mean_14 : decode cX10_mean 14 = .ok (.iconst 0, 1) := by decide +kernel
theorem dX10_mean_15 : decode cX10_mean 15 = .ok (.istore_n 3, 1) := by decide +kernel
theorem dX10_mean_16 : decode cX10_mean 16 = .ok (.iconst 0, 1) := by decide +kernel
theorem dX10_mean_17 : decode cX10_mean 17 = .ok (.istore 4, 2) := by decide +kernel
theorem dX10_mean_19 : decode cX10_mean 19 = .ok (.iload 4, 2) := by decide +kernel
theorem dX10_mean_21 : decode cX10_mean 21 = .ok (.iload_n 2, 1) := by decide +kernel
theorem dX10_mean_22 : decode cX10_mean 22 = .ok (.if_icmp .ge 26, 3) := by decide +kernel
theorem dX10_mean_25 : decode cX10_mean 25 = .ok (.iload_n 3, 1) := by decide +kernel
theorem dX10_mean_26 : decode cX10_mean 26 = .ok (.aload_n 0, 1) := by decide +kernel
theorem dX10_mean_27 : decode cX10_mean 27 = .ok (.getfield 13, 3) := by decide +kernel
theorem dX10_mean_30 : decode cX10_mean 30 = .ok (.bipush 119, 2) := by decide +kernel
theorem dX10_mean_32 : decode cX10_mean 32 = .ok (.iconst 3, 1) := by decide +kernel
theorem dX10_mean_33 : decode cX10_mean 33 = .ok (.iload 4, 2) := by decide +kernel
theorem dX10_mean_35 : decode cX10_mean 35 = .ok (.imul, 1) := by decide +kernel
theorem dX10_mean_36 : decode cX10_mean 36 = .ok (.iadd, 1) := by decide +kernel
theorem dX10_mean_37 : decode cX10_mean 37 = .ok (.iconst 1, 1) := by decide +kernel
theorem dX10_mean_38 : decode cX10_mean 38 = .ok (.iadd, 1) := by decide +kernel
theorem dX10_mean_39 : decode cX10_mean 39 = .ok (.iaload, 1) := by decide +kernel
theorem dX10_mean_40 : decode cX10_mean 40 = .ok (.iadd, 1) := by decide +kernel
theorem dX10_mean_41 : decode cX10_mean 41 = .ok (.istore_n 3, 1) := by decide +kernel
theorem dX10_mean_42 : decode cX10_mean 42 = .ok (.iinc 4 1, 3) := by decide +kernel
theorem dX10_mean_45 : decode cX10_mean 45 = .ok (.goto (-26), 3) := by decide +kernel
theorem dX10_mean_48 : decode cX10_mean 48 = .ok (.iload_n 3, 1) := by decide +kernel
theorem dX10_mean_49 : decode cX10_mean 49 = .ok (.istore 4, 2) := by decide +kernel
theorem dX10_mean_51 : decode cX10_mean 51 = .ok (.iload_n 2, 1) := by decide +kernel
theorem dX10_mean_52 : decode cX10_mean 52 = .ok (.istore 5, 2) := by decide +kernel
theorem dX10_mean_54 : decode cX10_mean 54 = .ok (.iload 5, 2) := by decide +kernel
theorem dX10_mean_56 : decode cX10_mean 56 = .ok (.ifCond .eq 21, 3) := by decide +kernel
theorem dX10_mean_59 : decode cX10_mean 59 = .ok (.iload 4, 2) := by decide +kernel
theorem dX10_mean_61 : decode cX10_mean 61 = .ok (.iload 5, 2) := by decide +kernel
theorem dX10_mean_63 : decode cX10_mean 63 = .ok (.irem, 1) := by decide +kernel
theorem dX10_mean_64 : decode cX10_mean 64 = .ok (.istore 6, 2) := by decide +kernel
theorem dX10_mean_66 : decode cX10_mean 66 = .ok (.iload 5, 2) := by decide +kernel
theorem dX10_mean_68 : decode cX10_mean 68 = .ok (.istore 4, 2) := by decide +kernel
theorem dX10_mean_70 : decode cX10_mean 70 = .ok (.iload 6, 2) := by decide +kernel
theorem dX10_mean_72 : decode cX10_mean 72 = .ok (.istore 5, 2) := by decide +kernel
theorem dX10_mean_74 : decode cX10_mean 74 = .ok (.goto (-20), 3) := by decide +kernel
theorem dX10_mean_77 : decode cX10_mean 77 = .ok (.iload_n 1, 1) := by decide +kernel
theorem dX10_mean_78 : decode cX10_mean 78 = .ok (.ifCond .eq 10, 3) := by decide +kernel
theorem dX10_mean_81 : decode cX10_mean 81 = .ok (.iload_n 2, 1) := by decide +kernel
theorem dX10_mean_82 : decode cX10_mean 82 = .ok (.iload 4, 2) := by decide +kernel
theorem dX10_mean_84 : decode cX10_mean 84 = .ok (.idiv, 1) := by decide +kernel
theorem dX10_mean_85 : decode cX10_mean 85 = .ok (.goto 7, 3) := by decide +kernel
theorem dX10_mean_88 : decode cX10_mean 88 = .ok (.iload_n 3, 1) := by decide +kernel
theorem dX10_mean_89 : decode cX10_mean 89 = .ok (.iload 4, 2) := by decide +kernel
theorem dX10_mean_91 : decode cX10_mean 91 = .ok (.idiv, 1) := by decide +kernel
theorem dX10_mean_92 : decode cX10_mean 92 = .ok (.ireturn, 1) := by decide +kernel
theorem dX10_writesSign_0 : decode cX10_writesSign 0 = .ok (.aload_n 0, 1) := by decide +kernel
theorem dX10_writesSign_1 : decode cX10_writesSign 1 = .ok (.getfield 49, 3) := by decide +kernel
theorem dX10_writesSign_4 : decode cX10_writesSign 4 = .ok (.aload_n 0, 1) := by decide +kernel
theorem dX10_writesSign_5 : decode cX10_writesSign 5 = .ok (.getfield 291, 3) := by decide +kernel
theorem dX10_writesSign_8 : decode cX10_writesSign 8 = .ok (.iload_n 1, 1) := by decide +kernel
theorem dX10_writesSign_9 : decode cX10_writesSign 9 = .ok (.iastore, 1) := by decide +kernel
theorem dX10_writesSign_10 : decode cX10_writesSign 10 = .ok (.aload_n 0, 1) := by decide +kernel
theorem dX10_writesSign_11 : decode cX10_writesSign 11 = .ok (.dup, 1) := by decide +kernel
theorem dX10_writesSign_12 : decode cX10_writesSign 12 = .ok (.getfield 291, 3) := by decide +kernel
theorem dX10_writesSign_15 : decode cX10_writesSign 15 = .ok (.iconst 1, 1) := by decide +kernel
