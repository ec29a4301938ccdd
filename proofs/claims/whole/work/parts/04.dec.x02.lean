theorem dX9_joined_38 : decode cX9_joined 38 = .ok (.aload_n 0, 1) := by decide +kernel
theorem dX9_joined_39 : decode cX9_joined 39 = .ok (.iload_n 2, 1) := by decide +kernel
theorem dX9_joined_40 : decode cX9_joined 40 = .ok (.iload_n 3, 1) := by decide +kernel
theorem dX9_joined_41 : decode cX9_joined 41 = .ok (.invokevirtual 319, 3) := by decide +kernel
theorem dX9_joined_44 : decode cX9_joined 44 = .ok (.iload 4, 2) := by decide +kernel
theorem dX9_joined_46 : decode cX9_joined 46 = .ok (.invokevirtual 322, 3) := by decide +kernel
theorem dX9_joined_49 : decode cX9_joined 49 = .ok (.lreturn, 1) := by decide +kernel
theorem dX9_rebate_0 : decode cX9_rebate 0 = .ok (.aload_n 0, 1) := by decide +kernel
theorem dX9_rebate_1 : decode cX9_rebate 1 = .ok (.iload_n 1, 1) := by decide +kernel
theorem dX9_rebate_2 : decode cX9_rebate 2 = .ok (.iload_n 2, 1) := by decide +kernel
theorem dX9_rebate_3 : decode cX9_rebate 3 = .ok (.invokevirtual 251, 3) := by decide +kernel
theorem dX9_rebate_6 : decode cX9_rebate 6 = .ok (.ifCond .eq 14, 3) := by decide +kernel
theorem dX9_rebate_9 : decode cX9_rebate 9 = .ok (.aload_n 0, 1) := by decide +kernel
theorem dX9_rebate_10 : decode cX9_rebate 10 = .ok (.getfield 26, 3) := by decide +kernel
theorem dX9_rebate_13 : decode cX9_rebate 13 = .ok (.iload_n 3, 1) := by decide +kernel
theorem dX9_rebate_14 : decode cX9_rebate 14 = .ok (.invokevirtual 114, 3) := by decide +kernel
theorem dX9_rebate_17 : decode cX9_rebate 17 = .ok (.ifCond .ne 5, 3) := by decide +kernel
theorem dX9_rebate_20 : decode cX9_rebate 20 = .ok (.iconst (-1), 1) := by decide +kernel
theorem dX9_rebate_21 : decode cX9_rebate 21 = .ok (.ireturn, 1) := by decide +kernel
theorem dX9_rebate_22 : decode cX9_rebate 22 = .ok (.aload_n 0, 1) := by decide +kernel
theorem dX9_rebate_23 : decode cX9_rebate 23 = .ok (.iload_n 1, 1) := by decide +kernel
theorem dX9_rebate_24 : decode cX9_rebate 24 = .ok (.iload_n 2, 1) := by decide +kernel
theorem dX9_rebate_25 : decode cX9_rebate 25 = .ok (.invokevirtual 294, 3) := by decide +kernel
theorem dX9_rebate_28 : decode cX9_rebate 28 = .ok (.aload_n 0, 1) := by decide +kernel
theorem dX9_rebate_29 : decode cX9_rebate 29 = .ok (.iload_n 1, 1) := by decide +kernel
theorem dX9_rebate_30 : decode cX9_rebate 30 = .ok (.iload_n 3, 1) := by decide +kernel
theorem dX9_rebate_31 : decode cX9_rebate 31 = .ok (.invokevirtual 294, 3) := by decide +kernel
theorem dX9_rebate_34 : decode cX9_rebate 34 = .ok (.ladd, 1) := by decide +kernel
theorem dX9_rebate_35 : decode cX9_rebate 35 = .ok (.lstore 4, 2) := by decide +kernel
theorem dX9_rebate_37 : decode cX9_rebate 37 = .ok (.aload_n 0, 1) := by decide +kernel
theorem dX9_rebate_38 : decode cX9_rebate 38 = .ok (.iload_n 2, 1) := by decide +kernel
theorem dX9_rebate_39 : decode cX9_rebate 39 = .ok (.iload_n 3, 1) := by decide +kernel
theorem dX9_rebate_40 : decode cX9_rebate 40 = .ok (.invokevirtual 319, 3) := by decide +kernel
theorem dX9_rebate_43 : decode cX9_rebate 43 = .ok (.istore 6, 2) := by decide +kernel
theorem dX9_rebate_45 : decode cX9_rebate 45 = .ok (.aload_n 0, 1) := by decide +kernel
theorem dX9_rebate_46 : decode cX9_rebate 46 = .ok (.iload_n 1, 1) := by decide +kernel
theorem dX9_rebate_47 : decode cX9_rebate 47 = .ok (.iload 6, 2) := by decide +kernel
theorem dX9_rebate_49 : decode cX9_rebate 49 = .ok (.bipush 50, 2) := by decide +kernel
theorem dX9_rebate_51 : decode cX9_rebate 51 = .ok (.invokevirtual 322, 3) := by decide +kernel
theorem dX9_rebate_54 : decode cX9_rebate 54 = .ok (.lload 4, 2) := by decide +kernel
theorem dX9_rebate_56 : decode cX9_rebate 56 = .ok (.lcmp, 1) := by decide +kernel
theorem dX9_rebate_57 : decode cX9_rebate 57 = .ok (.ifCond .lt 6, 3) := by decide +kernel
theorem dX9_rebate_60 : decode cX9_rebate 60 = .ok (.bipush (-2), 2) := by decide +kernel
theorem dX9_rebate_62 : decode cX9_rebate 62 = .ok (.ireturn, 1) := by decide +kernel
theorem dX9_rebate_63 : decode cX9_rebate 63 = .ok (.iconst 0, 1) := by decide +kernel
theorem dX9_rebate_64 : decode cX9_rebate 64 = .ok (.istore 7, 2) := by decide +kernel
theorem dX9_rebate_66 : decode cX9_rebate 66 = .ok (.bipush 50, 2) := by decide +kernel
theorem dX9_rebate_68 : decode cX9_rebate 68 = .ok (.istore 8, 2) := by decide +kernel
theorem dX9_rebate_70 : decode cX9_rebate 70 = .ok (.iconst 0, 1) := by decide +kernel
theorem dX9_rebate_71 : decode cX9_rebate 71 = .ok (.istore 9, 2) := by decide +kernel
theorem dX9_rebate_73 : decode cX9_rebate 73 = .ok (.iload 9, 2) := by decide +kernel
theorem dX9_rebate_75 : decode cX9_rebate 75 = .ok (.bipush 50, 2) := by decide +kernel
theorem dX9_rebate_77 : decode cX9_rebate 77 = .ok (.if_icmp .ge 53, 3) := by decide +kernel
theorem dX9_rebate_80 : decode cX9_rebate 80 = .ok (.iload 7, 2) := by decide +kernel
theorem dX9_rebate_82 : decode cX9_rebate 82 = .ok (.iload 8, 2) := by decide +kernel
theorem dX9_rebate_84 : decode cX9_rebate 84 = .ok (.if_icmp .ge 46, 3) := by decide +kernel
theorem dX9_rebate_87 : decode cX9_rebate 87 = .ok (.iload 7, 2) := by decide +kernel
theorem dX9_rebate_89 : decode cX9_rebate 89 = .ok (.iload 8, 2) := by decide +kernel
theorem dX9_rebate_91 : decode cX9_rebate 91 = .ok (.iadd, 1) := by decide +kernel
theorem dX9_rebate_92 : decode cX9_rebate 92 = .ok (.iconst 2, 1) := by decide +kernel
theorem dX9_rebate_93 : decode cX9_rebate 93 = .ok (.idiv, 1) := by decide +kernel
theorem dX9_rebate_94 : decode cX9_rebate 94 = .ok (.istore 10, 2) := by decide +kernel
theorem dX9_rebate_96 : decode cX9_rebate 96 = .ok (.aload_n 0, 1) := by decide +kernel
theorem dX9_rebate_97 : decode cX9_rebate 97 = .ok (.iload_n 1, 1) := by decide +kernel
theorem dX9_rebate_98 : decode cX9_rebate 98 = .ok (.iload 6, 2) := by decide +kernel
theorem dX9_rebate_100 : decode cX9_rebate 100 = .ok (.iload 10, 2) := by decide +kernel
theorem dX9_rebate_102 : decode cX9_rebate 102 = .ok (.invokevirtual 322, 3) := by decide +kernel
theorem dX9_rebate_105 : decode cX9_rebate 105 = .ok (.lload 4, 2) := by decide +kernel
theorem dX9_rebate_107 : decode cX9_rebate 107 = .ok (.lcmp, 1) := by decide +kernel
theorem dX9_rebate_108 : decode cX9_rebate 108 = .ok (.ifCond .ge 10, 3) := by decide +kernel
theorem dX9_rebate_111 : decode cX9_rebate 111 = .ok (.iload 10, 2) := by decide +kernel
theorem dX9_rebate_113 : decode cX9_rebate 113 = .ok (.istore 8, 2) := by decide +kernel
theorem dX9_rebate_115 : decode cX9_rebate 115 = .ok (.goto 9, 3) := by decide +kernel
theorem dX9_rebate_118 : decode cX9_rebate 118 = .ok (.iload 10, 2) := by decide +kernel
theorem dX9_rebate_120 : decode cX9_rebate 120 = .ok (.iconst 1, 1) := by decide +kernel
theorem dX9_rebate_121 : decode cX9_rebate 121 = .ok (.iadd, 1) := by decide +kernel
theorem dX9_rebate_122 : decode cX9_rebate 122 = .ok (.istore 7, 2) := by decide +kernel
theorem dX9_rebate_124 : decode cX9_rebate 124 = .ok (.iinc 9 1, 3) := by decide +kernel
theorem dX9_rebate_127 : decode cX9_rebate 127 = .ok (.goto (-54), 3) := by decide +kernel
theorem dX9_rebate_130 : decode cX9_rebate 130 = .ok (.iload 7, 2) := by decide +kernel
theorem dX9_rebate_132 : decode cX9_rebate 132 = .ok (.ireturn, 1) := by decide +kernel
theorem dX9_advice_0 : decode cX9_advice 0 = .ok (.aload_n 0, 1) := by decide +kernel
theorem dX9_advice_1 : decode cX9_advice 1 = .ok (.getfield 36, 3) := by decide +kernel
theorem dX9_advice_4 : decode cX9_advice 4 = .ok (.getfield 150, 3) := by decide +kernel
theorem dX9_advice_7 : decode cX9_advice 7 = .ok (.ifCond .eq 25, 3) := by decide +kernel
theorem dX9_advice_10 : decode cX9_advice 10 = .ok (.iload_n 1, 1) := by decide +kernel
theorem dX9_advice_11 : decode cX9_advice 11 = .ok (.iconst 1, 1) := by decide +kernel
theorem dX9_advice_12 : decode cX9_advice 12 = .ok (.if_icmp .lt 20, 3) := by decide +kernel
theorem dX9_advice_15 : decode cX9_advice 15 = .ok (.iload_n 1, 1) := by decide +kernel
theorem dX9_advice_16 : decode cX9_advice 16 = .ok (.bipush 20, 2) := by decide +kernel
theorem dX9_advice_18 : decode cX9_advice 18 = .ok (.if_icmp .gt 14, 3) := by decide +kernel
theorem dX9_advice_21 : decode cX9_advice 21 = .ok (.aload_n 0, 1) := by decide +kernel
theorem dX9_advice_22 : decode cX9_advice 22 = .ok (.getfield 26, 3) := by decide +kernel
theorem dX9_advice_25 : decode cX9_advice 25 = .ok (.iload_n 2, 1) := by decide +kernel
theorem dX9_advice_26 : decode cX9_advice 26 = .ok (.invokevirtual 133, 3) := by decide +kernel
theorem dX9_advice_29 : decode cX9_advice 29 = .ok (.ifCond .ne 5, 3) := by decide +kernel
theorem dX9_advice_32 : decode cX9_advice 32 = .ok (.iconst (-1), 1) := by decide +kernel
theorem dX9_advice_33 : decode cX9_advice 33 = .ok (.ireturn, 1) := by decide +kernel
theorem dX9_advice_34 : decode cX9_advice 34 = .ok (.iconst 2, 1) := by decide +kernel
theorem dX9_advice_35 : decode cX9_advice 35 = .ok (.aload_n 0, 1) := by decide +kernel
theorem dX9_advice_36 : decode cX9_advice 36 = .ok (.getfield 36, 3) := by decide +kernel
theorem dX9_advice_39 : decode cX9_advice 39 = .ok (.getfield 206, 3) := by decide +kernel
theorem dX9_advice_42 : decode cX9_advice 42 = .ok (.invokestatic 243, 3) := by decide +kernel
theorem dX9_advice_45 : decode cX9_advice 45 = .ok (.istore_n 3, 1) := by decide +kernel
theorem dX9_advice_46 : decode cX9_advice 46 = .ok (.aload_n 0, 1) := by decide +kernel
theorem dX9_advice_47 : decode cX9_advice 47 = .ok (.getfield 55, 3) := by decide +kernel
theorem dX9_advice_50 : decode cX9_advice 50 = .ok (.iload_n 1, 1) := by decide +kernel
theorem dX9_advice_51 : decode cX9_advice 51 = .ok (.iconst 1, 1) := by decide +kernel
theorem dX9_advice_52 : decode cX9_advice 52 = .ok (.isub, 1) := by decide +kernel
theorem dX9_advice_53 : decode cX9_advice 53 = .ok (.invokevirtual 260, 3) := by decide +kernel
theorem dX9_advice_56 : decode cX9_advice 56 = .ok (.aload_n 0, 1) := by decide +kernel
theorem dX9_advice_57 : decode cX9_advice 57 = .ok (.getfield 55, 3) := by decide +kernel
theorem dX9_advice_60 : decode cX9_advice 60 = .ok (.iload_n 1, 1) := by decide +kernel
theorem dX9_advice_61 : decode cX9_advice 61 = .ok (.aload_n 0, 1) := by decide +kernel
theorem dX9_advice_62 : decode cX9_advice 62 = .ok (.getfield 36, 3) := by decide +kernel
theorem dX9_advice_65 : decode cX9_advice 65 = .ok (.getfield 187, 3) := by decide +kernel
theorem dX9_advice_68 : decode cX9_advice 68 = .ok (.aload_n 0, 1) := by decide +kernel
theorem dX9_advice_69 : decode cX9_advice 69 = .ok (.getfield 36, 3) := by decide +kernel
theorem dX9_advice_72 : decode cX9_advice 72 = .ok (.getfield 203, 3) := by decide +kernel
theorem dX9_advice_75 : decode cX9_advice 75 = .ok (.iload_n 3, 1) := by decide +kernel
theorem dX9_advice_76 : decode cX9_advice 76 = .ok (.aload_n 0, 1) := by decide +kernel
theorem dX9_advice_77 : decode cX9_advice 77 = .ok (.getfield 36, 3) := by decide +kernel
theorem dX9_advice_80 : decode cX9_advice 80 = .ok (.getfield 209, 3) := by decide +kernel
theorem dX9_advice_83 : decode cX9_advice 83 = .ok (.invokevirtual 270, 3) := by decide +kernel
theorem dX9_advice_86 : decode cX9_advice 86 = .ok (.aload_n 0, 1) := by decide +kernel
theorem dX9_advice_87 : decode cX9_advice 87 = .ok (.getfield 55, 3) := by decide +kernel
theorem dX9_advice_90 : decode cX9_advice 90 = .ok (.aload_n 0, 1) := by decide +kernel
theorem dX9_advice_91 : decode cX9_advice 91 = .ok (.getfield 36, 3) := by decide +kernel
theorem dX9_advice_94 : decode cX9_advice 94 = .ok (.getfield 203, 3) := by decide +kernel
theorem dX9_advice_97 : decode cX9_advice 97 = .ok (.iload_n 3, 1) := by decide +kernel
theorem dX9_advice_98 : decode cX9_advice 98 = .ok (.aload_n 0, 1) := by decide +kernel
theorem dX9_advice_99 : decode cX9_advice 99 = .ok (.getfield 36, 3) := by decide +kernel
theorem dX9_advice_102 : decode cX9_advice 102 = .ok (.getfield 209, 3) := by decide +kernel
theorem dX9_advice_105 : decode cX9_advice 105 = .ok (.iload_n 2, 1) := by decide +kernel
theorem dX9_advice_106 : decode cX9_advice 106 = .ok (.invokevirtual 285, 3) := by decide +kernel
theorem dX9_advice_109 : decode cX9_advice 109 = .ok (.lconst 0, 1) := by decide +kernel
theorem dX9_advice_110 : decode cX9_advice 110 = .ok (.lcmp, 1) := by decide +kernel
theorem dX9_advice_111 : decode cX9_advice 111 = .ok (.ifCond .le 7, 3) := by decide +kernel
theorem dX9_advice_114 : decode cX9_advice 114 = .ok (.iconst 1, 1) := by decide +kernel
theorem dX9_advice_115 : decode cX9_advice 115 = .ok (.goto 4, 3) := by decide +kernel
theorem dX9_advice_118 : decode cX9_advice 118 = .ok (.iconst 0, 1) := by decide +kernel
theorem dX9_advice_119 : decode cX9_advice 119 = .ok (.ireturn, 1) := by decide +kernel
theorem dX9_rest_0 : decode cX9_rest 0 = .ok (.aload_n 0, 1) := by decide +kernel
theorem dX9_rest_1 : decode cX9_rest 1 = .ok (.getfield 26, 3) := by decide +kernel
theorem dX9_rest_4 : decode cX9_rest 4 = .ok (.iload_n 1, 1) := by decide +kernel
theorem dX9_rest_5 : decode cX9_rest 5 = .ok (.invokevirtual 114, 3) := by decide +kernel
theorem dX9_rest_8 : decode cX9_rest 8 = .ok (.ifCond .ne 5, 3) := by decide +kernel
theorem dX9_rest_11 : decode cX9_rest 11 = .ok (.iconst (-1), 1) := by decide +kernel
theorem dX9_rest_12 : decode cX9_rest 12 = .ok (.ireturn, 1) := by decide +kernel
theorem dX9_rest_13 : decode cX9_rest 13 = .ok (.iconst 0, 1) := by decide +kernel
theorem dX9_rest_14 : decode cX9_rest 14 = .ok (.istore_n 2, 1) := by decide +kernel
theorem dX9_rest_15 : decode cX9_rest 15 = .ok (.iload_n 1, 1) := by decide +kernel
theorem dX9_rest_16 : decode cX9_rest 16 = .ok (.istore_n 3, 1) := by decide +kernel
theorem dX9_rest_17 : decode cX9_rest 17 = .ok (.iconst 0, 1) := by decide +kernel
theorem dX9_rest_18 : decode cX9_rest 18 = .ok (.istore 4, 2) := by decide +kernel
theorem dX9_rest_20 : decode cX9_rest 20 = .ok (.iload 4, 2) := by decide +kernel
theorem dX9_rest_22 : decode cX9_rest 22 = .ok (.aload_n 0, 1) := by decide +kernel
theorem dX9_rest_23 : decode cX9_rest 23 = .ok (.getfield 26, 3) := by decide +kernel
theorem dX9_rest_26 : decode cX9_rest 26 = .ok (.getfield 111, 3) := by decide +kernel
theorem dX9_rest_29 : decode cX9_rest 29 = .ok (.if_icmp .gt 33, 3) := by decide +kernel
theorem dX9_rest_32 : decode cX9_rest 32 = .ok (.iload_n 2, 1) := by decide +kernel
theorem dX9_rest_33 : decode cX9_rest 33 = .ok (.iload_n 3, 1) := by decide +kernel
theorem dX9_rest_34 : decode cX9_rest 34 = .ok (.ishr, 1) := by decide +kernel
theorem dX9_rest_35 : decode cX9_rest 35 = .ok (.iconst 1, 1) := by decide +kernel
theorem dX9_rest_36 : decode cX9_rest 36 = .ok (.iand, 1) := by decide +kernel
theorem dX9_rest_37 : decode cX9_rest 37 = .ok (.ifCond .ne 25, 3) := by decide +kernel
theorem dX9_rest_40 : decode cX9_rest 40 = .ok (.iload_n 2, 1) := by decide +kernel
theorem dX9_rest_41 : decode cX9_rest 41 = .ok (.iconst 1, 1) := by decide +kernel
theorem dX9_rest_42 : decode cX9_rest 42 = .ok (.iload_n 3, 1) := by decide +kernel
theorem dX9_rest_43 : decode cX9_rest 43 = .ok (.ishl, 1) := by decide +kernel
theorem dX9_rest_44 : decode cX9_rest 44 = .ok (.ior, 1) := by decide +kernel
theorem dX9_rest_45 : decode cX9_rest 45 = .ok (.istore_n 2, 1) := by decide +kernel
theorem dX9_rest_46 : decode cX9_rest 46 = .ok (.aload_n 0, 1) := by decide +kernel
theorem dX9_rest_47 : decode cX9_rest 47 = .ok (.getfield 26, 3) := by decide +kernel
theorem dX9_rest_50 : decode cX9_rest 50 = .ok (.iload_n 3, 1) := by decide +kernel
theorem dX9_rest_51 : decode cX9_rest 51 = .ok (.iconst 0, 1) := by decide +kernel
theorem dX9_rest_52 : decode cX9_rest 52 = .ok (.invokevirtual 307, 3) := by decide +kernel
theorem dX9_rest_55 : decode cX9_rest 55 = .ok (.istore_n 3, 1) := by decide +kernel
theorem dX9_rest_56 : decode cX9_rest 56 = .ok (.iinc 4 1, 3) := by decide +kernel
theorem dX9_rest_59 : decode cX9_rest 59 = .ok (.goto (-39), 3) := by decide +kernel
theorem dX9_rest_62 : decode cX9_rest 62 = .ok (.iload_n 3, 1) := by decide +kernel
theorem dX9_rest_63 : decode cX9_rest 63 = .ok (.ireturn, 1) := by decide +kernel
theorem dX9_were_0 : decode cX9_were 0 = .ok (.aload_n 0, 1) := by decide +kernel
theorem dX9_were_1 : decode cX9_were 1 = .ok (.iload_n 3, 1) := by decide +kernel
theorem dX9_were_2 : decode cX9_were 2 = .ok (.iload 4, 2) := by decide +kernel
theorem dX9_were_4 : decode cX9_were 4 = .ok (.invokevirtual 251, 3) := by decide +kernel
theorem dX9_were_7 : decode cX9_were 7 = .ok (.ifCond .eq 11, 3) := by decide +kernel
theorem dX9_were_10 : decode cX9_were 10 = .ok (.iload_n 1, 1) := by decide +kernel
theorem dX9_were_11 : decode cX9_were 11 = .ok (.iload_n 2, 1) := by decide +kernel
theorem dX9_were_12 : decode cX9_were 12 = .ok (.invokestatic 146, 3) := by decide +kernel
theorem dX9_were_15 : decode cX9_were 15 = .ok (.ifCond .ne 7, 3) := by decide +kernel
theorem dX9_were_18 : decode cX9_were 18 = .ok (.ldc2_w 254, 3) := by decide +kernel
theorem dX9_were_21 : decode cX9_were 21 = .ok (.lreturn, 1) := by decide +kernel
theorem dX9_were_22 : decode cX9_were 22 = .ok (.aload_n 0, 1) := by decide +kernel
theorem dX9_were_23 : decode cX9_were 23 = .ok (.iload_n 1, 1) := by decide +kernel
theorem dX9_were_24 : decode cX9_were 24 = .ok (.iload_n 2, 1) := by decide +kernel
theorem dX9_were_25 : decode cX9_were 25 = .ok (.iload_n 3, 1) := by decide +kernel
theorem dX9_were_26 : decode cX9_were 26 = .ok (.iload 4, 2) := by decide +kernel
theorem dX9_were_28 : decode cX9_were 28 = .ok (.invokevirtual 326, 3) := by decide +kernel
theorem dX9_were_31 : decode cX9_were 31 = .ok (.lreturn, 1) := by decide +kernel
theorem dX9_lacking_0 : decode cX9_lacking 0 = .ok (.aload_n 0, 1) := by decide +kernel
theorem dX9_lacking_1 : decode cX9_lacking 1 = .ok (.iload_n 2, 1) := by decide +kernel
theorem dX9_lacking_2 : decode cX9_lacking 2 = .ok (.iload_n 3, 1) := by decide +kernel
theorem dX9_lacking_3 : decode cX9_lacking 3 = .ok (.invokevirtual 251, 3) := by decide +kernel
theorem dX9_lacking_6 : decode cX9_lacking 6 = .ok (.ifCond .eq 25, 3) := by decide +kernel
theorem dX9_lacking_9 : decode cX9_lacking 9 = .ok (.aload_n 0, 1) := by decide +kernel
theorem dX9_lacking_10 : decode cX9_lacking 10 = .ok (.getfield 26, 3) := by decide +kernel
theorem dX9_lacking_13 : decode cX9_lacking 13 = .ok (.iload_n 1, 1) := by decide +kernel
theorem dX9_lacking_14 : decode cX9_lacking 14 = .ok (.invokevirtual 133, 3) := by decide +kernel
theorem dX9_lacking_17 : decode cX9_lacking 17 = .ok (.ifCond .eq 14, 3) := by decide +kernel
theorem dX9_lacking_20 : decode cX9_lacking 20 = .ok (.aload_n 0, 1) := by decide +kernel
theorem dX9_lacking_21 : decode cX9_lacking 21 = .ok (.getfield 26, 3) := by decide +kernel
theorem dX9_lacking_24 : decode cX9_lacking 24 = .ok (.getfield 177, 3) := by decide +kernel
theorem dX9_lacking_27 : decode cX9_lacking 27 = .ok (.iconst 1, 1) := by decide +kernel
theorem dX9_lacking_28 : decode cX9_lacking 28 = .ok (.if_icmp .ne 7, 3) := by decide +kernel
theorem dX9_lacking_31 : decode cX9_lacking 31 = .ok (.ldc2_w 254, 3) := by decide +kernel
theorem dX9_lacking_34 : decode cX9_lacking 34 = .ok (.lreturn, 1) := by decide +kernel
theorem dX9_lacking_35 : decode cX9_lacking 35 = .ok (.aload_n 0, 1) := by decide +kernel
theorem dX9_lacking_36 : decode cX9_lacking 36 = .ok (.getfield 30, 3) := by decide +kernel
theorem dX9_lacking_39 : decode cX9_lacking 39 = .ok (.aload_n 0, 1) := by decide +kernel
theorem dX9_lacking_40 : decode cX9_lacking 40 = .ok (.getfield 26, 3) := by decide +kernel
theorem dX9_lacking_43 : decode cX9_lacking 43 = .ok (.invokevirtual 98, 3) := by decide +kernel
theorem dX9_lacking_46 : decode cX9_lacking 46 = .ok (.aload_n 0, 1) := by decide +kernel
theorem dX9_lacking_47 : decode cX9_lacking 47 = .ok (.getfield 30, 3) := by decide +kernel
theorem dX9_lacking_50 : decode cX9_lacking 50 = .ok (.iload_n 1, 1) := by decide +kernel
theorem dX9_lacking_51 : decode cX9_lacking 51 = .ok (.invokevirtual 184, 3) := by decide +kernel
theorem dX9_lacking_54 : decode cX9_lacking 54 = .ok (.aload_n 0, 1) := by decide +kernel
theorem dX9_lacking_55 : decode cX9_lacking 55 = .ok (.getfield 59, 3) := by decide +kernel
theorem dX9_lacking_58 : decode cX9_lacking 58 = .ok (.aload_n 0, 1) := by decide +kernel
theorem dX9_lacking_59 : decode cX9_lacking 59 = .ok (.getfield 30, 3) := by decide +kernel
theorem dX9_lacking_62 : decode cX9_lacking 62 = .ok (.iconst 1, 1) := by decide +kernel
theorem dX9_lacking_63 : decode cX9_lacking 63 = .ok (.invokevirtual 107, 3) := by decide +kernel
theorem dX9_lacking_66 : decode cX9_lacking 66 = .ok (.aload_n 0, 1) := by decide +kernel
theorem dX9_lacking_67 : decode cX9_lacking 67 = .ok (.getfield 59, 3) := by decide +kernel
theorem dX9_lacking_70 : decode cX9_lacking 70 = .ok (.iload_n 2, 1) := by decide +kernel
theorem dX9_lacking_71 : decode cX9_lacking 71 = .ok (.iload_n 3, 1) := by decide +kernel
theorem dX9_lacking_72 : decode cX9_lacking 72 = .ok (.invokevirtual 256, 3) := by decide +kernel
theorem dX9_lacking_75 : decode cX9_lacking 75 = .ok (.lreturn, 1) := by decide +kernel
theorem dX9_oddsFor_0 : decode cX9_oddsFor 0 = .ok (.aload_n 0, 1) := by decide +kernel
theorem dX9_oddsFor_1 : decode cX9_oddsFor 1 = .ok (.iload_n 3, 1) := by decide +kernel
theorem dX9_oddsFor_2 : decode cX9_oddsFor 2 = .ok (.iload 4, 2) := by decide +kernel
theorem dX9_oddsFor_4 : decode cX9_oddsFor 4 = .ok (.invokevirtual 251, 3) := by decide +kernel
theorem dX9_oddsFor_7 : decode cX9_oddsFor 7 = .ok (.ifCond .ne 5, 3) := by decide +kernel
theorem dX9_oddsFor_10 : decode cX9_oddsFor 10 = .ok (.iconst (-1), 1) := by decide +kernel
theorem dX9_oddsFor_11 : decode cX9_oddsFor 11 = .ok (.ireturn, 1) := by decide +kernel
theorem dX9_oddsFor_12 : decode cX9_oddsFor 12 = .ok (.iconst 0, 1) := by decide +kernel
theorem dX9_oddsFor_13 : decode cX9_oddsFor 13 = .ok (.istore 5, 2) := by decide +kernel
theorem dX9_oddsFor_15 : decode cX9_oddsFor 15 = .ok (.iload 5, 2) := by decide +kernel
theorem dX9_oddsFor_17 : decode cX9_oddsFor 17 = .ok (.bipush 12, 2) := by decide +kernel
theorem dX9_oddsFor_19 : decode cX9_oddsFor 19 = .ok (.if_icmp .gt 27, 3) := by decide +kernel
theorem dX9_oddsFor_22 : decode cX9_oddsFor 22 = .ok (.aload_n 0, 1) := by decide +kernel
theorem dX9_oddsFor_23 : decode cX9_oddsFor 23 = .ok (.iconst 1, 1) := by decide +kernel
theorem dX9_oddsFor_24 : decode cX9_oddsFor 24 = .ok (.iload 5, 2) := by decide +kernel
theorem dX9_oddsFor_26 : decode cX9_oddsFor 26 = .ok (.iload_n 3, 1) := by decide +kernel
theorem dX9_oddsFor_27 : decode cX9_oddsFor 27 = .ok (.iload 4, 2) := by decide +kernel
theorem dX9_oddsFor_29 : decode cX9_oddsFor 29 = .ok (.invokevirtual 326, 3) := by decide +kernel
theorem dX9_oddsFor_32 : decode cX9_oddsFor 32 = .ok (.lload_n 1, 1) := by decide +kernel
theorem dX9_oddsFor_33 : decode cX9_oddsFor 33 = .ok (.lcmp, 1) := by decide +kernel
theorem dX9_oddsFor_34 : decode cX9_oddsFor 34 = .ok (.ifCond .lt 6, 3) := by decide +kernel
theorem dX9_oddsFor_37 : decode cX9_oddsFor 37 = .ok (.iload 5, 2) := by decide +kernel
theorem dX9_oddsFor_39 : decode cX9_oddsFor 39 = .ok (.ireturn, 1) := by decide +kernel
theorem dX9_oddsFor_40 : decode cX9_oddsFor 40 = .ok (.iinc 5 1, 3) := by decide +kernel
theorem dX9_oddsFor_43 : decode cX9_oddsFor 43 = .ok (.goto (-28), 3) := by decide +kernel
theorem dX9_oddsFor_46 : decode cX9_oddsFor 46 = .ok (.bipush (-2), 2) := by decide +kernel
theorem dX9_oddsFor_48 : decode cX9_oddsFor 48 = .ok (.ireturn, 1) := by decide +kernel
theorem dX9_bestOwn_0 : decode cX9_bestOwn 0 = .ok (.aload_n 0, 1) := by decide +kernel
theorem dX9_bestOwn_1 : decode cX9_bestOwn 1 = .ok (.iload_n 2, 1) := by decide +kernel
theorem dX9_bestOwn_2 : decode cX9_bestOwn 2 = .ok (.iload_n 3, 1) := by decide +kernel
theorem dX9_bestOwn_3 : decode cX9_bestOwn 3 = .ok (.invokevirtual 251, 3) := by decide +kernel
theorem dX9_bestOwn_6 : decode cX9_bestOwn 6 = .ok (.ifCond .eq 14, 3) := by decide +kernel
theorem dX9_bestOwn_9 : decode cX9_bestOwn 9 = .ok (.iload_n 1, 1) := by decide +kernel
theorem dX9_bestOwn_10 : decode cX9_bestOwn 10 = .ok (.ifCond .lt 10, 3) := by decide +kernel
theorem dX9_bestOwn_13 : decode cX9_bestOwn 13 = .ok (.iload_n 1, 1) := by decide +kernel
theorem dX9_bestOwn_14 : decode cX9_bestOwn 14 = .ok (.sipush 9999, 3) := by decide +kernel
theorem dX9_bestOwn_17 : decode cX9_bestOwn 17 = .ok (.if_icmp .le 5, 3) := by decide +kernel
theorem dX9_bestOwn_20 : decode cX9_bestOwn 20 = .ok (.iconst (-1), 1) := by decide +kernel
theorem dX9_bestOwn_21 : decode cX9_bestOwn 21 = .ok (.ireturn, 1) := by decide +kernel
theorem dX9_bestOwn_22 : decode cX9_bestOwn 22 = .ok (.iconst 0, 1) := by decide +kernel
theorem dX9_bestOwn_23 : decode cX9_bestOwn 23 = .ok (.istore 4, 2) := by decide +kernel
theorem dX9_bestOwn_25 : decode cX9_bestOwn 25 = .ok (.aload_n 0, 1) := by decide +kernel
theorem dX9_bestOwn_26 : decode cX9_bestOwn 26 = .ok (.iconst 2, 1) := by decide +kernel
theorem dX9_bestOwn_27 : decode cX9_bestOwn 27 = .ok (.iconst 0, 1) := by decide +kernel
theorem dX9_bestOwn_28 : decode cX9_bestOwn 28 = .ok (.iload_n 2, 1) := by decide +kernel
theorem dX9_bestOwn_29 : decode cX9_bestOwn 29 = .ok (.iload_n 3, 1) := by decide +kernel
theorem dX9_bestOwn_30 : decode cX9_bestOwn 30 = .ok (.invokevirtual 326, 3) := by decide +kernel
theorem dX9_bestOwn_33 : decode cX9_bestOwn 33 = .ok (.lstore 5, 2) := by decide +kernel
theorem dX9_bestOwn_35 : decode cX9_bestOwn 35 = .ok (.iconst 1, 1) := by decide +kernel
theorem dX9_bestOwn_36 : decode cX9_bestOwn 36 = .ok (.istore 7, 2) := by decide +kernel
theorem dX9_bestOwn_38 : decode cX9_bestOwn 38 = .ok (.iload 7, 2) := by decide +kernel
theorem dX9_bestOwn_40 : decode cX9_bestOwn 40 = .ok (.getstatic 329, 3) := by decide +kernel
theorem dX9_bestOwn_43 : decode cX9_bestOwn 43 = .ok (.iconst 2, 1) := by decide +kernel
theorem dX9_bestOwn_44 : decode cX9_bestOwn 44 = .ok (.iaload, 1) := by decide +kernel
theorem dX9_bestOwn_45 : decode cX9_bestOwn 45 = .ok (.if_icmp .gt 46, 3) := by decide +kernel
theorem dX9_bestOwn_48 : decode cX9_bestOwn 48 = .ok (.aload_n 0, 1) := by decide +kernel
theorem dX9_bestOwn_49 : decode cX9_bestOwn 49 = .ok (.iconst 2, 1) := by decide +kernel
theorem dX9_bestOwn_50 : decode cX9_bestOwn 50 = .ok (.iload 7, 2) := by decide +kernel
theorem dX9_bestOwn_52 : decode cX9_bestOwn 52 = .ok (.iload_n 2, 1) := by decide +kernel
theorem dX9_bestOwn_53 : decode cX9_bestOwn 53 = .ok (.iload_n 3, 1) := by decide +kernel
theorem dX9_bestOwn_54 : decode cX9_bestOwn 54 = .ok (.invokevirtual 326, 3) := by decide +kernel
theorem dX9_bestOwn_57 : decode cX9_bestOwn 57 = .ok (.iload_n 1, 1) := by decide +kernel
theorem dX9_bestOwn_58 : decode cX9_bestOwn 58 = .ok (.i2l, 1) := by decide +kernel
theorem dX9_bestOwn_59 : decode cX9_bestOwn 59 = .ok (.iload 7, 2) := by decide +kernel
theorem dX9_bestOwn_61 : decode cX9_bestOwn 61 = .ok (.i2l, 1) := by decide +kernel
theorem dX9_bestOwn_62 : decode cX9_bestOwn 62 = .ok (.lmul, 1) := by decide +kernel
theorem dX9_bestOwn_63 : decode cX9_bestOwn 63 = .ok (.iload_n 2, 1) := by decide +kernel
theorem dX9_bestOwn_64 : decode cX9_bestOwn 64 = .ok (.i2l, 1) := by decide +kernel
theorem dX9_bestOwn_65 : decode cX9_bestOwn 65 = .ok (.lmul, 1) := by decide +kernel
theorem dX9_bestOwn_66 : decode cX9_bestOwn 66 = .ok (.lsub, 1) := by decide +kernel
theorem dX9_bestOwn_67 : decode cX9_bestOwn 67 = .ok (.lstore 8, 2) := by decide +kernel
theorem dX9_bestOwn_69 : decode cX9_bestOwn 69 = .ok (.lload 8, 2) := by decide +kernel
theorem dX9_bestOwn_71 : decode cX9_bestOwn 71 = .ok (.lload 5, 2) := by decide +kernel
theorem dX9_bestOwn_73 : decode cX9_bestOwn 73 = .ok (.lcmp, 1) := by decide +kernel
theorem dX9_bestOwn_74 : decode cX9_bestOwn 74 = .ok (.ifCond .ge 11, 3) := by decide +kernel
theorem dX9_bestOwn_77 : decode cX9_bestOwn 77 = .ok (.lload 8, 2) := by decide +kernel
theorem dX9_bestOwn_79 : decode cX9_bestOwn 79 = .ok (.lstore 5, 2) := by decide +kernel
theorem dX9_bestOwn_81 : decode cX9_bestOwn 81 = .ok (.iload 7, 2) := by decide +kernel
theorem dX9_bestOwn_83 : decode cX9_bestOwn 83 = .ok (.istore 4, 2) := by decide +kernel
theorem dX9_bestOwn_85 : decode cX9_bestOwn 85 = .ok (.iinc 7 1, 3) := by decide +kernel
theorem dX9_bestOwn_88 : decode cX9_bestOwn 88 = .ok (.goto (-50), 3) := by decide +kernel
theorem dX9_bestOwn_91 : decode cX9_bestOwn 91 = .ok (.iload 4, 2) := by decide +kernel
theorem dX9_bestOwn_93 : decode cX9_bestOwn 93 = .ok (.ireturn, 1) := by decide +kernel
theorem dX9_would_0 : decode cX9_would 0 = .ok (.iload 5, 2) := by decide +kernel
theorem dX9_would_2 : decode cX9_would 2 = .ok (.ifCond .lt 19, 3) := by decide +kernel
theorem dX9_would_5 : decode cX9_would 5 = .ok (.iload 5, 2) := by decide +kernel
theorem dX9_would_7 : decode cX9_would 7 = .ok (.iconst 3, 1) := by decide +kernel
theorem dX9_would_8 : decode cX9_would 8 = .ok (.if_icmp .gt 13, 3) := by decide +kernel
theorem dX9_would_11 : decode cX9_would 11 = .ok (.aload_n 0, 1) := by decide +kernel
theorem dX9_would_12 : decode cX9_would 12 = .ok (.iload_n 1, 1) := by decide +kernel
theorem dX9_would_13 : decode cX9_would 13 = .ok (.iload_n 2, 1) := by decide +kernel
theorem dX9_would_14 : decode cX9_would 14 = .ok (.iload_n 3, 1) := by decide +kernel
theorem dX9_would_15 : decode cX9_would 15 = .ok (.invokevirtual 169, 3) := by decide +kernel
theorem dX9_would_18 : decode cX9_would 18 = .ok (.ifCond .ne 5, 3) := by decide +kernel
theorem dX9_would_21 : decode cX9_would 21 = .ok (.iconst (-1), 1) := by decide +kernel
theorem dX9_would_22 : decode cX9_would 22 = .ok (.ireturn, 1) := by decide +kernel
theorem dX9_would_23 : decode cX9_would 23 = .ok (.aload_n 0, 1) := by decide +kernel
theorem dX9_would_24 : decode cX9_would 24 = .ok (.aload_n 0, 1) := by decide +kernel
theorem dX9_would_25 : decode cX9_would 25 = .ok (.invokevirtual 332, 3) := by decide +kernel
theorem dX9_would_28 : decode cX9_would 28 = .ok (.iload_n 1, 1) := by decide +kernel
theorem dX9_would_29 : decode cX9_would 29 = .ok (.iload_n 2, 1) := by decide +kernel
theorem dX9_would_30 : decode cX9_would 30 = .ok (.iload_n 3, 1) := by decide +kernel
theorem dX9_would_31 : decode cX9_would 31 = .ok (.iload 4, 2) := by decide +kernel
theorem dX9_would_33 : decode cX9_would 33 = .ok (.invokevirtual 173, 3) := by decide +kernel
theorem dX9_would_36 : decode cX9_would 36 = .ok (.istore 6, 2) := by decide +kernel
theorem dX9_would_38 : decode cX9_would 38 = .ok (.iload 5, 2) := by decide +kernel
theorem dX9_would_40 : decode cX9_would 40 = .ok (.tableswitch 47 0 2 #[28, 31, 39], 28) := by decide +kernel
theorem dX9_would_68 : decode cX9_would 68 = .ok (.iload 6, 2) := by decide +kernel
theorem dX9_would_70 : decode cX9_would 70 = .ok (.ireturn, 1) := by decide +kernel
theorem dX9_would_71 : decode cX9_would 71 = .ok (.aload_n 0, 1) := by decide +kernel
theorem dX9_would_72 : decode cX9_would 72 = .ok (.getfield 40, 3) := by decide +kernel
theorem dX9_would_75 : decode cX9_would 75 = .ok (.getfield 224, 3) := by decide +kernel
theorem dX9_would_78 : decode cX9_would 78 = .ok (.ireturn, 1) := by decide +kernel
theorem dX9_would_79 : decode cX9_would 79 = .ok (.aload_n 0, 1) := by decide +kernel
theorem dX9_would_80 : decode cX9_would 80 = .ok (.getfield 40, 3) := by decide +kernel
theorem dX9_would_83 : decode cX9_would 83 = .ok (.getfield 227, 3) := by decide +kernel
theorem dX9_would_86 : decode cX9_would 86 = .ok (.ireturn, 1) := by decide +kernel
theorem dX9_would_87 : decode cX9_would 87 = .ok (.aload_n 0, 1) := by decide +kernel
theorem dX9_would_88 : decode cX9_would 88 = .ok (.getfield 40, 3) := by decide +kernel
theorem dX9_would_91 : decode cX9_would 91 = .ok (.getfield 187, 3) := by decide +kernel
theorem dX9_would_94 : decode cX9_would 94 = .ok (.ireturn, 1) := by decide +kernel
theorem dX9_bestRule_0 : decode cX9_bestRule 0 = .ok (.aload_n 0, 1) := by decide +kernel
theorem dX9_bestRule_1 : decode cX9_bestRule 1 = .ok (.iload_n 1, 1) := by decide +kernel
theorem dX9_bestRule_2 : decode cX9_bestRule 2 = .ok (.iconst 0, 1) := by decide +kernel
theorem dX9_bestRule_3 : decode cX9_bestRule 3 = .ok (.iconst 0, 1) := by decide +kernel
theorem dX9_bestRule_4 : decode cX9_bestRule 4 = .ok (.invokevirtual 169, 3) := by decide +kernel
theorem dX9_bestRule_7 : decode cX9_bestRule 7 = .ok (.ifCond .ne 5, 3) := by decide +kernel
theorem dX9_bestRule_10 : decode cX9_bestRule 10 = .ok (.iconst (-1), 1) := by decide +kernel
theorem dX9_bestRule_11 : decode cX9_bestRule 11 = .ok (.ireturn, 1) := by decide +kernel
theorem dX9_bestRule_12 : decode cX9_bestRule 12 = .ok (.iconst 0, 1) := by decide +kernel
theorem dX9_bestRule_13 : decode cX9_bestRule 13 = .ok (.istore_n 3, 1) := by decide +kernel
theorem dX9_bestRule_14 : decode cX9_bestRule 14 = .ok (.aload_n 0, 1) := by decide +kernel
theorem dX9_bestRule_15 : decode cX9_bestRule 15 = .ok (.aload_n 0, 1) := by decide +kernel
theorem dX9_bestRule_16 : decode cX9_bestRule 16 = .ok (.invokevirtual 332, 3) := by decide +kernel
theorem dX9_bestRule_19 : decode cX9_bestRule 19 = .ok (.iload_n 1, 1) := by decide +kernel
theorem dX9_bestRule_20 : decode cX9_bestRule 20 = .ok (.iconst 0, 1) := by decide +kernel
theorem dX9_bestRule_21 : decode cX9_bestRule 21 = .ok (.iconst 0, 1) := by decide +kernel
theorem dX9_bestRule_22 : decode cX9_bestRule 22 = .ok (.iload_n 2, 1) := by decide +kernel
theorem dX9_bestRule_23 : decode cX9_bestRule 23 = .ok (.invokevirtual 173, 3) := by decide +kernel
theorem dX9_bestRule_26 : decode cX9_bestRule 26 = .ok (.istore 4, 2) := by decide +kernel
theorem dX9_bestRule_28 : decode cX9_bestRule 28 = .ok (.iconst 1, 1) := by decide +kernel
theorem dX9_bestRule_29 : decode cX9_bestRule 29 = .ok (.istore 5, 2) := by decide +kernel
theorem dX9_bestRule_31 : decode cX9_bestRule 31 = .ok (.iload 5, 2) := by decide +kernel
theorem dX9_bestRule_33 : decode cX9_bestRule 33 = .ok (.iconst 2, 1) := by decide +kernel
theorem dX9_bestRule_34 : decode cX9_bestRule 34 = .ok (.if_icmp .gt 38, 3) := by decide +kernel
theorem dX9_bestRule_37 : decode cX9_bestRule 37 = .ok (.aload_n 0, 1) := by decide +kernel
theorem dX9_bestRule_38 : decode cX9_bestRule 38 = .ok (.aload_n 0, 1) := by decide +kernel
theorem dX9_bestRule_39 : decode cX9_bestRule 39 = .ok (.invokevirtual 332, 3) := by decide +kernel
theorem dX9_bestRule_42 : decode cX9_bestRule 42 = .ok (.iload_n 1, 1) := by decide +kernel
theorem dX9_bestRule_43 : decode cX9_bestRule 43 = .ok (.iload 5, 2) := by decide +kernel
theorem dX9_bestRule_45 : decode cX9_bestRule 45 = .ok (.iconst 0, 1) := by decide +kernel
theorem dX9_bestRule_46 : decode cX9_bestRule 46 = .ok (.iload_n 2, 1) := by decide +kernel
theorem dX9_bestRule_47 : decode cX9_bestRule 47 = .ok (.invokevirtual 173, 3) := by decide +kernel
theorem dX9_bestRule_50 : decode cX9_bestRule 50 = .ok (.istore 6, 2) := by decide +kernel
theorem dX9_bestRule_52 : decode cX9_bestRule 52 = .ok (.iload 6, 2) := by decide +kernel
theorem dX9_bestRule_54 : decode cX9_bestRule 54 = .ok (.iload 4, 2) := by decide +kernel
theorem dX9_bestRule_56 : decode cX9_bestRule 56 = .ok (.if_icmp .ge 10, 3) := by decide +kernel
theorem dX9_bestRule_59 : decode cX9_bestRule 59 = .ok (.iload 6, 2) := by decide +kernel
theorem dX9_bestRule_61 : decode cX9_bestRule 61 = .ok (.istore 4, 2) := by decide +kernel
theorem dX9_bestRule_63 : decode cX9_bestRule 63 = .ok (.iload 5, 2) := by decide +kernel
theorem dX9_bestRule_65 : decode cX9_bestRule 65 = .ok (.istore_n 3, 1) := by decide +kernel
theorem dX9_bestRule_66 : decode cX9_bestRule 66 = .ok (.iinc 5 1, 3) := by decide +kernel
theorem dX9_bestRule_69 : decode cX9_bestRule 69 = .ok (.goto (-38), 3) := by decide +kernel
theorem dX9_bestRule_72 : decode cX9_bestRule 72 = .ok (.iload_n 3, 1) := by decide +kernel
theorem dX9_bestRule_73 : decode cX9_bestRule 73 = .ok (.ireturn, 1) := by decide +kernel
theorem dX9_dearest_0 : decode cX9_dearest 0 = .ok (.aload_n 0, 1) := by decide +kernel
theorem dX9_dearest_1 : decode cX9_dearest 1 = .ok (.iload_n 1, 1) := by decide +kernel
theorem dX9_dearest_2 : decode cX9_dearest 2 = .ok (.iload_n 2, 1) := by decide +kernel
theorem dX9_dearest_3 : decode cX9_dearest 3 = .ok (.invokevirtual 251, 3) := by decide +kernel
theorem dX9_dearest_6 : decode cX9_dearest 6 = .ok (.ifCond .eq 7, 3) := by decide +kernel
theorem dX9_dearest_9 : decode cX9_dearest 9 = .ok (.iload_n 1, 1) := by decide +kernel
theorem dX9_dearest_10 : decode cX9_dearest 10 = .ok (.ifCond .ne 5, 3) := by decide +kernel
theorem dX9_dearest_13 : decode cX9_dearest 13 = .ok (.iconst (-1), 1) := by decide +kernel
theorem dX9_dearest_14 : decode cX9_dearest 14 = .ok (.ireturn, 1) := by decide +kernel
theorem dX9_dearest_15 : decode cX9_dearest 15 = .ok (.aload_n 0, 1) := by decide +kernel
theorem dX9_dearest_16 : decode cX9_dearest 16 = .ok (.getfield 30, 3) := by decide +kernel
theorem dX9_dearest_19 : decode cX9_dearest 19 = .ok (.aload_n 0, 1) := by decide +kernel
theorem dX9_dearest_20 : decode cX9_dearest 20 = .ok (.getfield 26, 3) := by decide +kernel
theorem dX9_dearest_23 : decode cX9_dearest 23 = .ok (.invokevirtual 98, 3) := by decide +kernel
theorem dX9_dearest_26 : decode cX9_dearest 26 = .ok (.getstatic 336, 3) := by decide +kernel
theorem dX9_dearest_29 : decode cX9_dearest 29 = .ok (.iconst 4, 1) := by decide +kernel
theorem dX9_dearest_30 : decode cX9_dearest 30 = .ok (.iaload, 1) := by decide +kernel
theorem dX9_dearest_31 : decode cX9_dearest 31 = .ok (.istore_n 3, 1) := by decide +kernel
theorem dX9_dearest_32 : decode cX9_dearest 32 = .ok (.iload_n 3, 1) := by decide +kernel
theorem dX9_dearest_33 : decode cX9_dearest 33 = .ok (.ifCond .lt 55, 3) := by decide +kernel
theorem dX9_dearest_36 : decode cX9_dearest 36 = .ok (.aload_n 0, 1) := by decide +kernel
theorem dX9_dearest_37 : decode cX9_dearest 37 = .ok (.getfield 30, 3) := by decide +kernel
theorem dX9_dearest_40 : decode cX9_dearest 40 = .ok (.iload_n 2, 1) := by decide +kernel
theorem dX9_dearest_41 : decode cX9_dearest 41 = .ok (.iconst 4, 1) := by decide +kernel
theorem dX9_dearest_42 : decode cX9_dearest 42 = .ok (.iload_n 3, 1) := by decide +kernel
theorem dX9_dearest_43 : decode cX9_dearest 43 = .ok (.invokevirtual 129, 3) := by decide +kernel
theorem dX9_dearest_46 : decode cX9_dearest 46 = .ok (.aload_n 0, 1) := by decide +kernel
theorem dX9_dearest_47 : decode cX9_dearest 47 = .ok (.getfield 59, 3) := by decide +kernel
theorem dX9_dearest_50 : decode cX9_dearest 50 = .ok (.aload_n 0, 1) := by decide +kernel
theorem dX9_dearest_51 : decode cX9_dearest 51 = .ok (.getfield 30, 3) := by decide +kernel
theorem dX9_dearest_54 : decode cX9_dearest 54 = .ok (.iconst 1, 1) := by decide +kernel
theorem dX9_dearest_55 : decode cX9_dearest 55 = .ok (.invokevirtual 107, 3) := by decide +kernel
theorem dX9_dearest_58 : decode cX9_dearest 58 = .ok (.aload_n 0, 1) := by decide +kernel
theorem dX9_dearest_59 : decode cX9_dearest 59 = .ok (.getfield 59, 3) := by decide +kernel
theorem dX9_dearest_62 : decode cX9_dearest 62 = .ok (.iload_n 1, 1) := by decide +kernel
theorem dX9_dearest_63 : decode cX9_dearest 63 = .ok (.iconst 1, 1) := by decide +kernel
theorem dX9_dearest_64 : decode cX9_dearest 64 = .ok (.isub, 1) := by decide +kernel
theorem dX9_dearest_65 : decode cX9_dearest 65 = .ok (.invokevirtual 260, 3) := by decide +kernel
theorem dX9_dearest_68 : decode cX9_dearest 68 = .ok (.aload_n 0, 1) := by decide +kernel
theorem dX9_dearest_69 : decode cX9_dearest 69 = .ok (.getfield 59, 3) := by decide +kernel
theorem dX9_dearest_72 : decode cX9_dearest 72 = .ok (.iload_n 1, 1) := by decide +kernel
theorem dX9_dearest_73 : decode cX9_dearest 73 = .ok (.iload_n 2, 1) := by decide +kernel
theorem dX9_dearest_74 : decode cX9_dearest 74 = .ok (.invokevirtual 263, 3) := by decide +kernel
theorem dX9_dearest_77 : decode cX9_dearest 77 = .ok (.ifCond .eq 5, 3) := by decide +kernel
theorem dX9_dearest_80 : decode cX9_dearest 80 = .ok (.iload_n 3, 1) := by decide +kernel
theorem dX9_dearest_81 : decode cX9_dearest 81 = .ok (.ireturn, 1) := by decide +kernel
theorem dX9_dearest_82 : decode cX9_dearest 82 = .ok (.iinc 3 (-1), 3) := by decide +kernel
theorem dX9_dearest_85 : decode cX9_dearest 85 = .ok (.goto (-53), 3) := by decide +kernel
theorem dX9_dearest_88 : decode cX9_dearest 88 = .ok (.bipush (-2), 2) := by decide +kernel
theorem dX9_dearest_90 : decode cX9_dearest 90 = .ok (.ireturn, 1) := by decide +kernel
theorem dX9_spell_0 : decode cX9_spell 0 = .ok (.iload_n 1, 1) := by decide +kernel
theorem dX9_spell_1 : decode cX9_spell 1 = .ok (.iconst (-1), 1) := by decide +kernel
theorem dX9_spell_2 : decode cX9_spell 2 = .ok (.if_icmp .ge 5, 3) := by decide +kernel
theorem dX9_spell_5 : decode cX9_spell 5 = .ok (.iconst (-1), 1) := by decide +kernel
theorem dX9_spell_6 : decode cX9_spell 6 = .ok (.ireturn, 1) := by decide +kernel
theorem dX9_spell_7 : decode cX9_spell 7 = .ok (.aload_n 0, 1) := by decide +kernel
theorem dX9_spell_8 : decode cX9_spell 8 = .ok (.getfield 19, 3) := by decide +kernel
theorem dX9_spell_11 : decode cX9_spell 11 = .ok (.iconst 0, 1) := by decide +kernel
theorem dX9_spell_12 : decode cX9_spell 12 = .ok (.putfield 339, 3) := by decide +kernel
theorem dX9_spell_15 : decode cX9_spell 15 = .ok (.iconst 0, 1) := by decide +kernel
theorem dX9_spell_16 : decode cX9_spell 16 = .ok (.istore_n 2, 1) := by decide +kernel
theorem dX9_spell_17 : decode cX9_spell 17 = .ok (.iload_n 2, 1) := by decide +kernel
theorem dX9_spell_18 : decode cX9_spell 18 = .ok (.aload_n 0, 1) := by decide +kernel
theorem dX9_spell_19 : decode cX9_spell 19 = .ok (.getfield 26, 3) := by decide +kernel
theorem dX9_spell_22 : decode cX9_spell 22 = .ok (.getfield 111, 3) := by decide +kernel
theorem dX9_spell_25 : decode cX9_spell 25 = .ok (.if_icmp .ge 56, 3) := by decide +kernel
theorem dX9_spell_28 : decode cX9_spell 28 = .ok (.aload_n 0, 1) := by decide +kernel
theorem dX9_spell_29 : decode cX9_spell 29 = .ok (.getfield 19, 3) := by decide +kernel
theorem dX9_spell_32 : decode cX9_spell 32 = .ok (.iconst 0, 1) := by decide +kernel
theorem dX9_spell_33 : decode cX9_spell 33 = .ok (.invokestatic 340, 3) := by decide +kernel
theorem dX9_spell_36 : decode cX9_spell 36 = .ok (.invokevirtual 344, 3) := by decide +kernel
theorem dX9_spell_39 : decode cX9_spell 39 = .ok (.iconst 0, 1) := by decide +kernel
theorem dX9_spell_40 : decode cX9_spell 40 = .ok (.istore_n 3, 1) := by decide +kernel
theorem dX9_spell_41 : decode cX9_spell 41 = .ok (.iload_n 3, 1) := by decide +kernel
theorem dX9_spell_42 : decode cX9_spell 42 = .ok (.iconst 5, 1) := by decide +kernel
theorem dX9_spell_43 : decode cX9_spell 43 = .ok (.if_icmp .ge 25, 3) := by decide +kernel
theorem dX9_spell_46 : decode cX9_spell 46 = .ok (.aload_n 0, 1) := by decide +kernel
theorem dX9_spell_47 : decode cX9_spell 47 = .ok (.getfield 19, 3) := by decide +kernel
theorem dX9_spell_50 : decode cX9_spell 50 = .ok (.aload_n 0, 1) := by decide +kernel
theorem dX9_spell_51 : decode cX9_spell 51 = .ok (.getfield 26, 3) := by decide +kernel
theorem dX9_spell_54 : decode cX9_spell 54 = .ok (.iload_n 2, 1) := by decide +kernel
theorem dX9_spell_55 : decode cX9_spell 55 = .ok (.iload_n 3, 1) := by decide +kernel
theorem dX9_spell_56 : decode cX9_spell 56 = .ok (.invokevirtual 122, 3) := by decide +kernel
theorem dX9_spell_59 : decode cX9_spell 59 = .ok (.invokevirtual 348, 3) := by decide +kernel
theorem dX9_spell_62 : decode cX9_spell 62 = .ok (.iinc 3 1, 3) := by decide +kernel
theorem dX9_spell_65 : decode cX9_spell 65 = .ok (.goto (-24), 3) := by decide +kernel
theorem dX9_spell_68 : decode cX9_spell 68 = .ok (.aload_n 0, 1) := by decide +kernel
theorem dX9_spell_69 : decode cX9_spell 69 = .ok (.getfield 19, 3) := by decide +kernel
theorem dX9_spell_72 : decode cX9_spell 72 = .ok (.invokevirtual 351, 3) := by decide +kernel
theorem dX9_spell_75 : decode cX9_spell 75 = .ok (.iinc 2 1, 3) := by decide +kernel
theorem dX9_spell_78 : decode cX9_spell 78 = .ok (.goto (-61), 3) := by decide +kernel
theorem dX9_spell_81 : decode cX9_spell 81 = .ok (.iconst 0, 1) := by decide +kernel
theorem dX9_spell_82 : decode cX9_spell 82 = .ok (.istore_n 2, 1) := by decide +kernel
theorem dX9_spell_83 : decode cX9_spell 83 = .ok (.iload_n 2, 1) := by decide +kernel
theorem dX9_spell_84 : decode cX9_spell 84 = .ok (.aload_n 0, 1) := by decide +kernel
theorem dX9_spell_85 : decode cX9_spell 85 = .ok (.getfield 26, 3) := by decide +kernel
theorem dX9_spell_88 : decode cX9_spell 88 = .ok (.getfield 177, 3) := by decide +kernel
theorem dX9_spell_91 : decode cX9_spell 91 = .ok (.if_icmp .ge 59, 3) := by decide +kernel
theorem dX9_spell_94 : decode cX9_spell 94 = .ok (.aload_n 0, 1) := by decide +kernel
theorem dX9_spell_95 : decode cX9_spell 95 = .ok (.getfield 19, 3) := by decide +kernel
theorem dX9_spell_98 : decode cX9_spell 98 = .ok (.iconst 1, 1) := by decide +kernel
theorem dX9_spell_99 : decode cX9_spell 99 = .ok (.invokestatic 340, 3) := by decide +kernel
theorem dX9_spell_102 : decode cX9_spell 102 = .ok (.invokevirtual 344, 3) := by decide +kernel
theorem dX9_spell_105 : decode cX9_spell 105 = .ok (.aload_n 0, 1) := by decide +kernel
theorem dX9_spell_106 : decode cX9_spell 106 = .ok (.getfield 19, 3) := by decide +kernel
theorem dX9_spell_109 : decode cX9_spell 109 = .ok (.aload_n 0, 1) := by decide +kernel
theorem dX9_spell_110 : decode cX9_spell 110 = .ok (.getfield 26, 3) := by decide +kernel
theorem dX9_spell_113 : decode cX9_spell 113 = .ok (.iload_n 2, 1) := by decide +kernel
theorem dX9_spell_114 : decode cX9_spell 114 = .ok (.iconst 0, 1) := by decide +kernel
theorem dX9_spell_115 : decode cX9_spell 115 = .ok (.invokevirtual 140, 3) := by decide +kernel
theorem dX9_spell_118 : decode cX9_spell 118 = .ok (.invokevirtual 348, 3) := by decide +kernel
theorem dX9_spell_121 : decode cX9_spell 121 = .ok (.aload_n 0, 1) := by decide +kernel
theorem dX9_spell_122 : decode cX9_spell 122 = .ok (.getfield 19, 3) := by decide +kernel
theorem dX9_spell_125 : decode cX9_spell 125 = .ok (.aload_n 0, 1) := by decide +kernel
theorem dX9_spell_126 : decode cX9_spell 126 = .ok (.getfield 26, 3) := by decide +kernel
theorem dX9_spell_129 : decode cX9_spell 129 = .ok (.iload_n 2, 1) := by decide +kernel
theorem dX9_spell_130 : decode cX9_spell 130 = .ok (.iconst 1, 1) := by decide +kernel
theorem dX9_spell_131 : decode cX9_spell 131 = .ok (.invokevirtual 140, 3) := by decide +kernel
theorem dX9_spell_134 : decode cX9_spell 134 = .ok (.invokevirtual 348, 3) := by decide +kernel
theorem dX9_spell_137 : decode cX9_spell 137 = .ok (.aload_n 0, 1) := by decide +kernel
theorem dX9_spell_138 : decode cX9_spell 138 = .ok (.getfield 19, 3) := by decide +kernel
theorem dX9_spell_141 : decode cX9_spell 141 = .ok (.invokevirtual 351, 3) := by decide +kernel
theorem dX9_spell_144 : decode cX9_spell 144 = .ok (.iinc 2 1, 3) := by decide +kernel
theorem dX9_spell_147 : decode cX9_spell 147 = .ok (.goto (-64), 3) := by decide +kernel
theorem dX9_spell_150 : decode cX9_spell 150 = .ok (.iconst 0, 1) := by decide +kernel
theorem dX9_spell_151 : decode cX9_spell 151 = .ok (.istore_n 2, 1) := by decide +kernel
theorem dX9_spell_152 : decode cX9_spell 152 = .ok (.iload_n 2, 1) := by decide +kernel
theorem dX9_spell_153 : decode cX9_spell 153 = .ok (.iconst 3, 1) := by decide +kernel
theorem dX9_spell_154 : decode cX9_spell 154 = .ok (.if_icmp .ge 45, 3) := by decide +kernel
theorem dX9_spell_157 : decode cX9_spell 157 = .ok (.aload_n 0, 1) := by decide +kernel
theorem dX9_spell_158 : decode cX9_spell 158 = .ok (.getfield 19, 3) := by decide +kernel
theorem dX9_spell_161 : decode cX9_spell 161 = .ok (.iconst 2, 1) := by decide +kernel
theorem dX9_spell_162 : decode cX9_spell 162 = .ok (.iload_n 2, 1) := by decide +kernel
theorem dX9_spell_163 : decode cX9_spell 163 = .ok (.iadd, 1) := by decide +kernel
theorem dX9_spell_164 : decode cX9_spell 164 = .ok (.invokestatic 340, 3) := by decide +kernel
theorem dX9_spell_167 : decode cX9_spell 167 = .ok (.invokevirtual 344, 3) := by decide +kernel
theorem dX9_spell_170 : decode cX9_spell 170 = .ok (.aload_n 0, 1) := by decide +kernel
theorem dX9_spell_171 : decode cX9_spell 171 = .ok (.getfield 19, 3) := by decide +kernel
theorem dX9_spell_174 : decode cX9_spell 174 = .ok (.aload_n 0, 1) := by decide +kernel
theorem dX9_spell_175 : decode cX9_spell 175 = .ok (.getfield 26, 3) := by decide +kernel
theorem dX9_spell_178 : decode cX9_spell 178 = .ok (.getfield 154, 3) := by decide +kernel
theorem dX9_spell_181 : decode cX9_spell 181 = .ok (.iload_n 2, 1) := by decide +kernel
theorem dX9_spell_182 : decode cX9_spell 182 = .ok (.iaload, 1) := by decide +kernel
theorem dX9_spell_183 : decode cX9_spell 183 = .ok (.invokevirtual 348, 3) := by decide +kernel
theorem dX9_spell_186 : decode cX9_spell 186 = .ok (.aload_n 0, 1) := by decide +kernel
theorem dX9_spell_187 : decode cX9_spell 187 = .ok (.getfield 19, 3) := by decide +kernel
theorem dX9_spell_190 : decode cX9_spell 190 = .ok (.invokevirtual 351, 3) := by decide +kernel
theorem dX9_spell_193 : decode cX9_spell 193 = .ok (.iinc 2 1, 3) := by decide +kernel
theorem dX9_spell_196 : decode cX9_spell 196 = .ok (.goto (-44), 3) := by decide +kernel
theorem dX9_spell_199 : decode cX9_spell 199 = .ok (.aload_n 0, 1) := by decide +kernel
theorem dX9_spell_200 : decode cX9_spell 200 = .ok (.getfield 19, 3) := by decide +kernel
theorem dX9_spell_203 : decode cX9_spell 203 = .ok (.iload_n 1, 1) := by decide +kernel
theorem dX9_spell_204 : decode cX9_spell 204 = .ok (.invokevirtual 354, 3) := by decide +kernel
theorem dX9_spell_207 : decode cX9_spell 207 = .ok (.ireturn, 1) := by decide +kernel
theorem dX9_report_0 : decode cX9_report 0 = .ok (.iload_n 1, 1) := by decide +kernel
theorem dX9_report_1 : decode cX9_report 1 = .ok (.iconst 1, 1) := by decide +kernel
theorem dX9_report_2 : decode cX9_report 2 = .ok (.if_icmp .lt 24, 3) := by decide +kernel
theorem dX9_report_5 : decode cX9_report 5 = .ok (.iload_n 1, 1) := by decide +kernel
theorem dX9_report_6 : decode cX9_report 6 = .ok (.bipush 20, 2) := by decide +kernel
theorem dX9_report_8 : decode cX9_report 8 = .ok (.if_icmp .gt 18, 3) := by decide +kernel
theorem dX9_report_11 : decode cX9_report 11 = .ok (.iload_n 2, 1) := by decide +kernel
theorem dX9_report_12 : decode cX9_report 12 = .ok (.iconst (-1), 1) := by decide +kernel
theorem dX9_report_13 : decode cX9_report 13 = .ok (.if_icmp .lt 13, 3) := by decide +kernel
theorem dX9_report_16 : decode cX9_report 16 = .ok (.aload_n 0, 1) := by decide +kernel
theorem dX9_report_17 : decode cX9_report 17 = .ok (.getfield 26, 3) := by decide +kernel
theorem dX9_report_20 : decode cX9_report 20 = .ok (.getfield 111, 3) := by decide +kernel
theorem dX9_report_23 : decode cX9_report 23 = .ok (.ifCond .ne 5, 3) := by decide +kernel
theorem dX9_report_26 : decode cX9_report 26 = .ok (.iconst (-1), 1) := by decide +kernel
theorem dX9_report_27 : decode cX9_report 27 = .ok (.ireturn, 1) := by decide +kernel
theorem dX9_report_28 : decode cX9_report 28 = .ok (.aload_n 0, 1) := by decide +kernel
theorem dX9_report_29 : decode cX9_report 29 = .ok (.getfield 19, 3) := by decide +kernel
theorem dX9_report_32 : decode cX9_report 32 = .ok (.iconst 0, 1) := by decide +kernel
theorem dX9_report_33 : decode cX9_report 33 = .ok (.putfield 339, 3) := by decide +kernel
theorem dX9_report_36 : decode cX9_report 36 = .ok (.aload_n 0, 1) := by decide +kernel
theorem dX9_report_37 : decode cX9_report 37 = .ok (.getfield 55, 3) := by decide +kernel
theorem dX9_report_40 : decode cX9_report 40 = .ok (.iload_n 1, 1) := by decide +kernel
theorem dX9_report_41 : decode cX9_report 41 = .ok (.iconst 1, 1) := by decide +kernel
theorem dX9_report_42 : decode cX9_report 42 = .ok (.isub, 1) := by decide +kernel
theorem dX9_report_43 : decode cX9_report 43 = .ok (.invokevirtual 260, 3) := by decide +kernel
theorem dX9_report_46 : decode cX9_report 46 = .ok (.iconst 0, 1) := by decide +kernel
theorem dX9_report_47 : decode cX9_report 47 = .ok (.istore_n 3, 1) := by decide +kernel
theorem dX9_report_48 : decode cX9_report 48 = .ok (.iload_n 3, 1) := by decide +kernel
theorem dX9_report_49 : decode cX9_report 49 = .ok (.aload_n 0, 1) := by decide +kernel
theorem dX9_report_50 : decode cX9_report 50 = .ok (.getfield 26, 3) := by decide +kernel
theorem dX9_report_53 : decode cX9_report 53 = .ok (.getfield 111, 3) := by decide +kernel
theorem dX9_report_56 : decode cX9_report 56 = .ok (.if_icmp .ge 113, 3) := by decide +kernel
theorem dX9_report_59 : decode cX9_report 59 = .ok (.aload_n 0, 1) := by decide +kernel
theorem dX9_report_60 : decode cX9_report 60 = .ok (.getfield 55, 3) := by decide +kernel
theorem dX9_report_63 : decode cX9_report 63 = .ok (.iload_n 1, 1) := by decide +kernel
theorem dX9_report_64 : decode cX9_report 64 = .ok (.iload_n 3, 1) := by decide +kernel
theorem dX9_report_65 : decode cX9_report 65 = .ok (.invokevirtual 263, 3) := by decide +kernel
theorem dX9_report_68 : decode cX9_report 68 = .ok (.istore 4, 2) := by decide +kernel
theorem dX9_report_70 : decode cX9_report 70 = .ok (.aload_n 0, 1) := by decide +kernel
theorem dX9_report_71 : decode cX9_report 71 = .ok (.getfield 55, 3) := by decide +kernel
theorem dX9_report_74 : decode cX9_report 74 = .ok (.iconst 0, 1) := by decide +kernel
theorem dX9_report_75 : decode cX9_report 75 = .ok (.iconst 0, 1) := by decide +kernel
theorem dX9_report_76 : decode cX9_report 76 = .ok (.iload 4, 2) := by decide +kernel
theorem dX9_report_78 : decode cX9_report 78 = .ok (.invokevirtual 281, 3) := by decide +kernel
theorem dX9_report_81 : decode cX9_report 81 = .ok (.istore 5, 2) := by decide +kernel
theorem dX9_report_83 : decode cX9_report 83 = .ok (.aload_n 0, 1) := by decide +kernel
theorem dX9_report_84 : decode cX9_report 84 = .ok (.getfield 19, 3) := by decide +kernel
theorem dX9_report_87 : decode cX9_report 87 = .ok (.iconst 0, 1) := by decide +kernel
theorem dX9_report_88 : decode cX9_report 88 = .ok (.invokestatic 340, 3) := by decide +kernel
theorem dX9_report_91 : decode cX9_report 91 = .ok (.invokevirtual 344, 3) := by decide +kernel
theorem dX9_report_94 : decode cX9_report 94 = .ok (.aload_n 0, 1) := by decide +kernel
theorem dX9_report_95 : decode cX9_report 95 = .ok (.getfield 19, 3) := by decide +kernel
theorem dX9_report_98 : decode cX9_report 98 = .ok (.iload_n 3, 1) := by decide +kernel
theorem dX9_report_99 : decode cX9_report 99 = .ok (.invokevirtual 348, 3) := by decide +kernel
theorem dX9_report_102 : decode cX9_report 102 = .ok (.iload 4, 2) := by decide +kernel
theorem dX9_report_104 : decode cX9_report 104 = .ok (.ifCond .eq 13, 3) := by decide +kernel
theorem dX9_report_107 : decode cX9_report 107 = .ok (.aload_n 0, 1) := by decide +kernel
theorem dX9_report_108 : decode cX9_report 108 = .ok (.getfield 19, 3) := by decide +kernel
theorem dX9_report_111 : decode cX9_report 111 = .ok (.ldc_w 357, 3) := by decide +kernel
theorem dX9_report_114 : decode cX9_report 114 = .ok (.invokevirtual 344, 3) := by decide +kernel
theorem dX9_report_117 : decode cX9_report 117 = .ok (.iload 5, 2) := by decide +kernel
theorem dX9_report_119 : decode cX9_report 119 = .ok (.bipush (-2), 2) := by decide +kernel
theorem dX9_report_121 : decode cX9_report 121 = .ok (.if_icmp .ne 16, 3) := by decide +kernel
theorem dX9_report_124 : decode cX9_report 124 = .ok (.aload_n 0, 1) := by decide +kernel
theorem dX9_report_125 : decode cX9_report 125 = .ok (.getfield 19, 3) := by decide +kernel
theorem dX9_report_128 : decode cX9_report 128 = .ok (.ldc_w 359, 3) := by decide +kernel
theorem dX9_report_131 : decode cX9_report 131 = .ok (.invokevirtual 344, 3) := by decide +kernel
theorem dX9_report_134 : decode cX9_report 134 = .ok (.goto 22, 3) := by decide +kernel
theorem dX9_report_137 : decode cX9_report 137 = .ok (.aload_n 0, 1) := by decide +kernel
theorem dX9_report_138 : decode cX9_report 138 = .ok (.getfield 19, 3) := by decide +kernel
theorem dX9_report_141 : decode cX9_report 141 = .ok (.ldc_w 361, 3) := by decide +kernel
theorem dX9_report_144 : decode cX9_report 144 = .ok (.invokevirtual 344, 3) := by decide +kernel
theorem dX9_report_147 : decode cX9_report 147 = .ok (.aload_n 0, 1) := by decide +kernel
theorem dX9_report_148 : decode cX9_report 148 = .ok (.getfield 19, 3) := by decide +kernel
theorem dX9_report_151 : decode cX9_report 151 = .ok (.iload 5, 2) := by decide +kernel
theorem dX9_report_153 : decode cX9_report 153 = .ok (.invokevirtual 348, 3) := by decide +kernel
theorem dX9_report_156 : decode cX9_report 156 = .ok (.aload_n 0, 1) := by decide +kernel
theorem dX9_report_157 : decode cX9_report 157 = .ok (.getfield 19, 3) := by decide +kernel
theorem dX9_report_160 : decode cX9_report 160 = .ok (.invokevirtual 351, 3) := by decide +kernel
theorem dX9_report_163 : decode cX9_report 163 = .ok (.iinc 3 1, 3) := by decide +kernel
theorem dX9_report_166 : decode cX9_report 166 = .ok (.goto (-118), 3) := by decide +kernel
theorem dX9_report_169 : decode cX9_report 169 = .ok (.aload_n 0, 1) := by decide +kernel
theorem dX9_report_170 : decode cX9_report 170 = .ok (.getfield 19, 3) := by decide +kernel
theorem dX9_report_173 : decode cX9_report 173 = .ok (.iload_n 2, 1) := by decide +kernel
theorem dX9_report_174 : decode cX9_report 174 = .ok (.invokevirtual 354, 3) := by decide +kernel
theorem dX9_report_177 : decode cX9_report 177 = .ok (.ireturn, 1) := by decide +kernel
theorem dX9_count_0 : decode cX9_count 0 = .ok (.iload_n 1, 1) := by decide +kernel
theorem dX9_count_1 : decode cX9_count 1 = .ok (.tableswitch 153 0 9 #[55, 63, 71, 79, 87, 95, 103, 111, 119, 140], 55) := by decide +kernel
theorem dX9_count_56 : decode cX9_count 56 = .ok (.aload_n 0, 1) := by decide +kernel
theorem dX9_count_57 : decode cX9_count 57 = .ok (.getfield 26, 3) := by decide +kernel
theorem dX9_count_60 : decode cX9_count 60 = .ok (.getfield 111, 3) := by decide +kernel
theorem dX9_count_63 : decode cX9_count 63 = .ok (.ireturn, 1) := by decide +kernel
theorem dX9_count_64 : decode cX9_count 64 = .ok (.aload_n 0, 1) := by decide +kernel
theorem dX9_count_65 : decode cX9_count 65 = .ok (.getfield 26, 3) := by decide +kernel
theorem dX9_count_68 : decode cX9_count 68 = .ok (.getfield 177, 3) := by decide +kernel
theorem dX9_count_71 : decode cX9_count 71 = .ok (.ireturn, 1) := by decide +kernel
theorem dX9_count_72 : decode cX9_count 72 = .ok (.aload_n 0, 1) := by decide +kernel
theorem dX9_count_73 : decode cX9_count 73 = .ok (.getfield 26, 3) := by decide +kernel
theorem dX9_count_76 : decode cX9_count 76 = .ok (.invokevirtual 278, 3) := by decide +kernel
theorem dX9_count_79 : decode cX9_count 79 = .ok (.ireturn, 1) := by decide +kernel
theorem dX9_count_80 : decode cX9_count 80 = .ok (.aload_n 0, 1) := by decide +kernel
theorem dX9_count_81 : decode cX9_count 81 = .ok (.getfield 26, 3) := by decide +kernel
theorem dX9_count_84 : decode cX9_count 84 = .ok (.invokevirtual 200, 3) := by decide +kernel
theorem dX9_count_87 : decode cX9_count 87 = .ok (.ireturn, 1) := by decide +kernel
theorem dX9_count_88 : decode cX9_count 88 = .ok (.aload_n 0, 1) := by decide +kernel
theorem dX9_count_89 : decode cX9_count 89 = .ok (.getfield 26, 3) := by decide +kernel
theorem dX9_count_92 : decode cX9_count 92 = .ok (.invokevirtual 363, 3) := by decide +kernel
theorem dX9_count_95 : decode cX9_count 95 = .ok (.ireturn, 1) := by decide +kernel
theorem dX9_count_96 : decode cX9_count 96 = .ok (.aload_n 0, 1) := by decide +kernel
theorem dX9_count_97 : decode cX9_count 97 = .ok (.getfield 46, 3) := by decide +kernel
theorem dX9_count_100 : decode cX9_count 100 = .ok (.getfield 197, 3) := by decide +kernel
theorem dX9_count_103 : decode cX9_count 103 = .ok (.ireturn, 1) := by decide +kernel
theorem dX9_count_104 : decode cX9_count 104 = .ok (.aload_n 0, 1) := by decide +kernel
theorem dX9_count_105 : decode cX9_count 105 = .ok (.getfield 10, 3) := by decide +kernel
theorem dX9_count_108 : decode cX9_count 108 = .ok (.getfield 83, 3) := by decide +kernel
theorem dX9_count_111 : decode cX9_count 111 = .ok (.ireturn, 1) := by decide +kernel
theorem dX9_count_112 : decode cX9_count 112 = .ok (.aload_n 0, 1) := by decide +kernel
theorem dX9_count_113 : decode cX9_count 113 = .ok (.getfield 26, 3) := by decide +kernel
theorem dX9_count_116 : decode cX9_count 116 = .ok (.invokevirtual 366, 3) := by decide +kernel
theorem dX9_count_119 : decode cX9_count 119 = .ok (.ireturn, 1) := by decide +kernel
theorem dX9_count_120 : decode cX9_count 120 = .ok (.bipush 16, 2) := by decide +kernel
theorem dX9_count_122 : decode cX9_count 122 = .ok (.aload_n 0, 1) := by decide +kernel
theorem dX9_count_123 : decode cX9_count 123 = .ok (.getfield 36, 3) := by decide +kernel
theorem dX9_count_126 : decode cX9_count 126 = .ok (.getfield 224, 3) := by decide +kernel
theorem dX9_count_129 : decode cX9_count 129 = .ok (.aload_n 0, 1) := by decide +kernel
theorem dX9_count_130 : decode cX9_count 130 = .ok (.getfield 36, 3) := by decide +kernel
theorem dX9_count_133 : decode cX9_count 133 = .ok (.getfield 227, 3) := by decide +kernel
theorem dX9_count_136 : decode cX9_count 136 = .ok (.iadd, 1) := by decide +kernel
theorem dX9_count_137 : decode cX9_count 137 = .ok (.invokestatic 243, 3) := by decide +kernel
theorem dX9_count_140 : decode cX9_count 140 = .ok (.ireturn, 1) := by decide +kernel
theorem dX9_count_141 : decode cX9_count 141 = .ok (.bipush 16, 2) := by decide +kernel
theorem dX9_count_143 : decode cX9_count 143 = .ok (.aload_n 0, 1) := by decide +kernel
theorem dX9_count_144 : decode cX9_count 144 = .ok (.getfield 36, 3) := by decide +kernel
theorem dX9_count_147 : decode cX9_count 147 = .ok (.getfield 190, 3) := by decide +kernel
theorem dX9_count_150 : decode cX9_count 150 = .ok (.invokestatic 243, 3) := by decide +kernel
theorem dX9_count_153 : decode cX9_count 153 = .ok (.ireturn, 1) := by decide +kernel
theorem dX9_count_154 : decode cX9_count 154 = .ok (.iconst (-1), 1) := by decide +kernel
theorem dX9_count_155 : decode cX9_count 155 = .ok (.ireturn, 1) := by decide +kernel
theorem dX9_keepForUndo_0 : decode cX9_keepForUndo 0 = .ok (.aload_n 0, 1) := by decide +kernel
theorem dX9_keepForUndo_1 : decode cX9_keepForUndo 1 = .ok (.getfield 46, 3) := by decide +kernel
theorem dX9_keepForUndo_4 : decode cX9_keepForUndo 4 = .ok (.aload_n 0, 1) := by decide +kernel
theorem dX9_keepForUndo_5 : decode cX9_keepForUndo 5 = .ok (.getfield 26, 3) := by decide +kernel
theorem dX9_keepForUndo_8 : decode cX9_keepForUndo 8 = .ok (.aload_n 0, 1) := by decide +kernel
theorem dX9_keepForUndo_9 : decode cX9_keepForUndo 9 = .ok (.getfield 36, 3) := by decide +kernel
theorem dX9_keepForUndo_12 : decode cX9_keepForUndo 12 = .ok (.invokevirtual 369, 3) := by decide +kernel
theorem dX9_keepForUndo_15 : decode cX9_keepForUndo 15 = .ok (.aload_n 0, 1) := by decide +kernel
theorem dX9_keepForUndo_16 : decode cX9_keepForUndo 16 = .ok (.getfield 55, 3) := by decide +kernel
theorem dX9_keepForUndo_19 : decode cX9_keepForUndo 19 = .ok (.aload_n 0, 1) := by decide +kernel
theorem dX9_keepForUndo_20 : decode cX9_keepForUndo 20 = .ok (.getfield 26, 3) := by decide +kernel
theorem dX9_keepForUndo_23 : decode cX9_keepForUndo 23 = .ok (.iconst 1, 1) := by decide +kernel
theorem dX9_keepForUndo_24 : decode cX9_keepForUndo 24 = .ok (.invokevirtual 107, 3) := by decide +kernel
theorem dX9_keepForUndo_27 : decode cX9_keepForUndo 27 = .ok (.return_, 1) := by decide +kernel
theorem dX9_highestPart_0 : decode cX9_highestPart 0 = .ok (.iload_n 1, 1) := by decide +kernel
theorem dX9_highestPart_1 : decode cX9_highestPart 1 = .ok (.iconst 1, 1) := by decide +kernel
theorem dX9_highestPart_2 : decode cX9_highestPart 2 = .ok (.if_icmp .lt 20, 3) := by decide +kernel
theorem dX9_highestPart_5 : decode cX9_highestPart 5 = .ok (.iload_n 1, 1) := by decide +kernel
theorem dX9_highestPart_6 : decode cX9_highestPart 6 = .ok (.iconst 3, 1) := by decide +kernel
theorem dX9_highestPart_7 : decode cX9_highestPart 7 = .ok (.if_icmp .gt 15, 3) := by decide +kernel
theorem dX9_highestPart_10 : decode cX9_highestPart 10 = .ok (.aload_n 0, 1) := by decide +kernel
theorem dX9_highestPart_11 : decode cX9_highestPart 11 = .ok (.getfield 26, 3) := by decide +kernel
theorem dX9_highestPart_14 : decode cX9_highestPart 14 = .ok (.getfield 111, 3) := by decide +kernel
theorem dX9_highestPart_17 : decode cX9_highestPart 17 = .ok (.iconst 1, 1) := by decide +kernel
theorem dX9_highestPart_18 : decode cX9_highestPart 18 = .ok (.isub, 1) := by decide +kernel
theorem dX9_highestPart_19 : decode cX9_highestPart 19 = .ok (.goto 8, 3) := by decide +kernel
theorem dX9_highestPart_22 : decode cX9_highestPart 22 = .ok (.getstatic 336, 3) := by decide +kernel
theorem dX9_highestPart_25 : decode cX9_highestPart 25 = .ok (.iload_n 1, 1) := by decide +kernel
theorem dX9_highestPart_26 : decode cX9_highestPart 26 = .ok (.iaload, 1) := by decide +kernel
theorem dX9_highestPart_27 : decode cX9_highestPart 27 = .ok (.ireturn, 1) := by decide +kernel
theorem dX9_isRule_0 : decode cX9_isRule 0 = .ok (.iload_n 0, 1) := by decide +kernel
theorem dX9_isRule_1 : decode cX9_isRule 1 = .ok (.ifCond .lt 30, 3) := by decide +kernel
theorem dX9_isRule_4 : decode cX9_isRule 4 = .ok (.iload_n 0, 1) := by decide +kernel
theorem dX9_isRule_5 : decode cX9_isRule 5 = .ok (.iconst 3, 1) := by decide +kernel
theorem dX9_isRule_6 : decode cX9_isRule 6 = .ok (.if_icmp .ge 25, 3) := by decide +kernel
theorem dX9_isRule_9 : decode cX9_isRule 9 = .ok (.iload_n 1, 1) := by decide +kernel
theorem dX9_isRule_10 : decode cX9_isRule 10 = .ok (.getstatic 373, 3) := by decide +kernel
theorem dX9_isRule_13 : decode cX9_isRule 13 = .ok (.iload_n 0, 1) := by decide +kernel
theorem dX9_isRule_14 : decode cX9_isRule 14 = .ok (.iaload, 1) := by decide +kernel
theorem dX9_isRule_15 : decode cX9_isRule 15 = .ok (.if_icmp .lt 16, 3) := by decide +kernel
theorem dX9_isRule_18 : decode cX9_isRule 18 = .ok (.iload_n 1, 1) := by decide +kernel
theorem dX9_isRule_19 : decode cX9_isRule 19 = .ok (.getstatic 329, 3) := by decide +kernel
theorem dX9_isRule_22 : decode cX9_isRule 22 = .ok (.iload_n 0, 1) := by decide +kernel
theorem dX9_isRule_23 : decode cX9_isRule 23 = .ok (.iaload, 1) := by decide +kernel
theorem dX9_isRule_24 : decode cX9_isRule 24 = .ok (.if_icmp .gt 7, 3) := by decide +kernel
theorem dX9_isRule_27 : decode cX9_isRule 27 = .ok (.iconst 1, 1) := by decide +kernel
theorem dX9_isRule_28 : decode cX9_isRule 28 = .ok (.goto 4, 3) := by decide +kernel
theorem dX9_isRule_31 : decode cX9_isRule 31 = .ok (.iconst 0, 1) := by decide +kernel
theorem dX9_isRule_32 : decode cX9_isRule 32 = .ok (.ireturn, 1) := by decide +kernel
theorem dX9_isThumb_0 : decode cX9_isThumb 0 = .ok (.iload_n 0, 1) := by decide +kernel
theorem dX9_isThumb_1 : decode cX9_isThumb 1 = .ok (.iconst 3, 1) := by decide +kernel
theorem dX9_isThumb_2 : decode cX9_isThumb 2 = .ok (.if_icmp .ne 20, 3) := by decide +kernel
theorem dX9_isThumb_5 : decode cX9_isThumb 5 = .ok (.iload_n 1, 1) := by decide +kernel
theorem dX9_isThumb_6 : decode cX9_isThumb 6 = .ok (.ifCond .lt 14, 3) := by decide +kernel
theorem dX9_isThumb_9 : decode cX9_isThumb 9 = .ok (.iload_n 1, 1) := by decide +kernel
theorem dX9_isThumb_10 : decode cX9_isThumb 10 = .ok (.sipush 999, 3) := by decide +kernel
theorem dX9_isThumb_13 : decode cX9_isThumb 13 = .ok (.if_icmp .gt 7, 3) := by decide +kernel
theorem dX9_isThumb_16 : decode cX9_isThumb 16 = .ok (.iconst 1, 1) := by decide +kernel
theorem dX9_isThumb_17 : decode cX9_isThumb 17 = .ok (.goto 4, 3) := by decide +kernel
theorem dX9_isThumb_20 : decode cX9_isThumb 20 = .ok (.iconst 0, 1) := by decide +kernel
theorem dX9_isThumb_21 : decode cX9_isThumb 21 = .ok (.ireturn, 1) := by decide +kernel
theorem dX9_isThumb_22 : decode cX9_isThumb 22 = .ok (.iload_n 0, 1) := by decide +kernel
theorem dX9_isThumb_23 : decode cX9_isThumb 23 = .ok (.ifCond .lt 16, 3) := by decide +kernel
theorem dX9_isThumb_26 : decode cX9_isThumb 26 = .ok (.iload_n 0, 1) := by decide +kernel
theorem dX9_isThumb_27 : decode cX9_isThumb 27 = .ok (.iconst 3, 1) := by decide +kernel
theorem dX9_isThumb_28 : decode cX9_isThumb 28 = .ok (.if_icmp .ge 11, 3) := by decide +kernel
theorem dX9_isThumb_31 : decode cX9_isThumb 31 = .ok (.iload_n 1, 1) := by decide +kernel
theorem dX9_isThumb_32 : decode cX9_isThumb 32 = .ok (.ifCond .ne 7, 3) := by decide +kernel
theorem dX9_isThumb_35 : decode cX9_isThumb 35 = .ok (.iconst 1, 1) := by decide +kernel
theorem dX9_isThumb_36 : decode cX9_isThumb 36 = .ok (.goto 4, 3) := by decide +kernel
theorem dX9_isThumb_39 : decode cX9_isThumb 39 = .ok (.iconst 0, 1) := by decide +kernel
theorem dX9_isThumb_40 : decode cX9_isThumb 40 = .ok (.ireturn, 1) := by decide +kernel
theorem dX9_isAsked_0 : decode cX9_isAsked 0 = .ok (.iload_n 1, 1) := by decide +kernel
theorem dX9_isAsked_1 : decode cX9_isAsked 1 = .ok (.ifCond .lt 24, 3) := by decide +kernel
theorem dX9_isAsked_4 : decode cX9_isAsked 4 = .ok (.iload_n 1, 1) := by decide +kernel
theorem dX9_isAsked_5 : decode cX9_isAsked 5 = .ok (.bipush 20, 2) := by decide +kernel
theorem dX9_isAsked_7 : decode cX9_isAsked 7 = .ok (.if_icmp .gt 18, 3) := by decide +kernel
theorem dX9_isAsked_10 : decode cX9_isAsked 10 = .ok (.aload_n 0, 1) := by decide +kernel
theorem dX9_isAsked_11 : decode cX9_isAsked 11 = .ok (.getfield 26, 3) := by decide +kernel
theorem dX9_isAsked_14 : decode cX9_isAsked 14 = .ok (.iload_n 2, 1) := by decide +kernel
theorem dX9_isAsked_15 : decode cX9_isAsked 15 = .ok (.invokevirtual 114, 3) := by decide +kernel
theorem dX9_isAsked_18 : decode cX9_isAsked 18 = .ok (.ifCond .eq 7, 3) := by decide +kernel
theorem dX9_isAsked_21 : decode cX9_isAsked 21 = .ok (.iconst 1, 1) := by decide +kernel
theorem dX9_isAsked_22 : decode cX9_isAsked 22 = .ok (.goto 4, 3) := by decide +kernel
theorem dX9_isAsked_25 : decode cX9_isAsked 25 = .ok (.iconst 0, 1) := by decide +kernel
theorem dX9_isAsked_26 : decode cX9_isAsked 26 = .ok (.ireturn, 1) := by decide +kernel
theorem dX9_isState_0 : decode cX9_isState 0 = .ok (.iload_n 1, 1) := by decide +kernel
theorem dX9_isState_1 : decode cX9_isState 1 = .ok (.ifCond .le 42, 3) := by decide +kernel
theorem dX9_isState_4 : decode cX9_isState 4 = .ok (.aload_n 0, 1) := by decide +kernel
theorem dX9_isState_5 : decode cX9_isState 5 = .ok (.iload_n 1, 1) := by decide +kernel
theorem dX9_isState_6 : decode cX9_isState 6 = .ok (.iload_n 2, 1) := by decide +kernel
theorem dX9_isState_7 : decode cX9_isState 7 = .ok (.invokevirtual 251, 3) := by decide +kernel
theorem dX9_isState_10 : decode cX9_isState 10 = .ok (.ifCond .eq 33, 3) := by decide +kernel
theorem dX9_isState_13 : decode cX9_isState 13 = .ok (.iload_n 3, 1) := by decide +kernel
theorem dX9_isState_14 : decode cX9_isState 14 = .ok (.ifCond .lt 29, 3) := by decide +kernel
theorem dX9_isState_17 : decode cX9_isState 17 = .ok (.iload_n 3, 1) := by decide +kernel
theorem dX9_isState_18 : decode cX9_isState 18 = .ok (.aload_n 0, 1) := by decide +kernel
theorem dX9_isState_19 : decode cX9_isState 19 = .ok (.getfield 26, 3) := by decide +kernel
theorem dX9_isState_22 : decode cX9_isState 22 = .ok (.invokevirtual 278, 3) := by decide +kernel
theorem dX9_isState_25 : decode cX9_isState 25 = .ok (.if_icmp .gt 18, 3) := by decide +kernel
theorem dX9_isState_28 : decode cX9_isState 28 = .ok (.iload 4, 2) := by decide +kernel
theorem dX9_isState_30 : decode cX9_isState 30 = .ok (.ifCond .lt 13, 3) := by decide +kernel
theorem dX9_isState_33 : decode cX9_isState 33 = .ok (.iload 4, 2) := by decide +kernel
theorem dX9_isState_35 : decode cX9_isState 35 = .ok (.iconst 3, 1) := by decide +kernel
theorem dX9_isState_36 : decode cX9_isState 36 = .ok (.if_icmp .ge 7, 3) := by decide +kernel
theorem dX9_isState_39 : decode cX9_isState 39 = .ok (.iconst 1, 1) := by decide +kernel
theorem dX9_isState_40 : decode cX9_isState 40 = .ok (.goto 4, 3) := by decide +kernel
theorem dX9_isState_43 : decode cX9_isState 43 = .ok (.iconst 0, 1) := by decide +kernel
theorem dX9_isState_44 : decode cX9_isState 44 = .ok (.ireturn, 1) := by decide +kernel
theorem dX9_canLive_0 : decode cX9_canLive 0 = .ok (.aload_n 0, 1) := by decide +kernel
theorem dX9_canLive_1 : decode cX9_canLive 1 = .ok (.getfield 26, 3) := by decide +kernel
theorem dX9_canLive_4 : decode cX9_canLive 4 = .ok (.getfield 111, 3) := by decide +kernel
theorem dX9_canLive_7 : decode cX9_canLive 7 = .ok (.ifCond .le 26, 3) := by decide +kernel
theorem dX9_canLive_10 : decode cX9_canLive 10 = .ok (.iload_n 1, 1) := by decide +kernel
theorem dX9_canLive_11 : decode cX9_canLive 11 = .ok (.iconst 1, 1) := by decide +kernel
theorem dX9_canLive_12 : decode cX9_canLive 12 = .ok (.if_icmp .lt 21, 3) := by decide +kernel
theorem dX9_canLive_15 : decode cX9_canLive 15 = .ok (.iload_n 1, 1) := by decide +kernel
theorem dX9_canLive_16 : decode cX9_canLive 16 = .ok (.bipush 20, 2) := by decide +kernel
theorem dX9_canLive_18 : decode cX9_canLive 18 = .ok (.if_icmp .gt 15, 3) := by decide +kernel
theorem dX9_canLive_21 : decode cX9_canLive 21 = .ok (.iload_n 2, 1) := by decide +kernel
theorem dX9_canLive_22 : decode cX9_canLive 22 = .ok (.iload_n 3, 1) := by decide +kernel
theorem dX9_canLive_23 : decode cX9_canLive 23 = .ok (.invokestatic 297, 3) := by decide +kernel
theorem dX9_canLive_26 : decode cX9_canLive 26 = .ok (.ifCond .eq 7, 3) := by decide +kernel
theorem dX9_canLive_29 : decode cX9_canLive 29 = .ok (.iconst 1, 1) := by decide +kernel
theorem dX9_canLive_30 : decode cX9_canLive 30 = .ok (.goto 4, 3) := by decide +kernel
theorem dX9_canLive_33 : decode cX9_canLive 33 = .ok (.iconst 0, 1) := by decide +kernel
theorem dX9_canLive_34 : decode cX9_canLive 34 = .ok (.ireturn, 1) := by decide +kernel
theorem dX9_entry_0 : decode cX9_entry 0 = .ok (.iload_n 2, 1) := by decide +kernel
theorem dX9_entry_1 : decode cX9_entry 1 = .ok (.ifCond .lt 22, 3) := by decide +kernel
theorem dX9_entry_4 : decode cX9_entry 4 = .ok (.iload_n 2, 1) := by decide +kernel
theorem dX9_entry_5 : decode cX9_entry 5 = .ok (.bipush 16, 2) := by decide +kernel
theorem dX9_entry_7 : decode cX9_entry 7 = .ok (.iload_n 1, 1) := by decide +kernel
theorem dX9_entry_8 : decode cX9_entry 8 = .ok (.invokestatic 243, 3) := by decide +kernel
theorem dX9_entry_11 : decode cX9_entry 11 = .ok (.if_icmp .ge 12, 3) := by decide +kernel
theorem dX9_entry_14 : decode cX9_entry 14 = .ok (.iload_n 3, 1) := by decide +kernel
theorem dX9_entry_15 : decode cX9_entry 15 = .ok (.ifCond .lt 8, 3) := by decide +kernel
theorem dX9_entry_18 : decode cX9_entry 18 = .ok (.iload_n 3, 1) := by decide +kernel
theorem dX9_entry_19 : decode cX9_entry 19 = .ok (.iconst 3, 1) := by decide +kernel
theorem dX9_entry_20 : decode cX9_entry 20 = .ok (.if_icmp .lt 5, 3) := by decide +kernel
theorem dX9_entry_23 : decode cX9_entry 23 = .ok (.iconst (-1), 1) := by decide +kernel
theorem dX9_entry_24 : decode cX9_entry 24 = .ok (.ireturn, 1) := by decide +kernel
theorem dX9_entry_25 : decode cX9_entry 25 = .ok (.aload_n 0, 1) := by decide +kernel
theorem dX9_entry_26 : decode cX9_entry 26 = .ok (.iload_n 1, 1) := by decide +kernel
theorem dX9_entry_27 : decode cX9_entry 27 = .ok (.iconst 1, 1) := by decide +kernel
theorem dX9_entry_28 : decode cX9_entry 28 = .ok (.isub, 1) := by decide +kernel
theorem dX9_entry_29 : decode cX9_entry 29 = .ok (.iload_n 2, 1) := by decide +kernel
theorem dX9_entry_30 : decode cX9_entry 30 = .ok (.isub, 1) := by decide +kernel
theorem dX9_entry_31 : decode cX9_entry 31 = .ok (.bipush 16, 2) := by decide +kernel
theorem dX9_entry_33 : decode cX9_entry 33 = .ok (.irem, 1) := by decide +kernel
theorem dX9_entry_34 : decode cX9_entry 34 = .ok (.iconst 3, 1) := by decide +kernel
theorem dX9_entry_35 : decode cX9_entry 35 = .ok (.imul, 1) := by decide +kernel
theorem dX9_entry_36 : decode cX9_entry 36 = .ok (.iload_n 3, 1) := by decide +kernel
theorem dX9_entry_37 : decode cX9_entry 37 = .ok (.iadd, 1) := by decide +kernel
theorem dX9_entry_38 : decode cX9_entry 38 = .ok (.iaload, 1) := by decide +kernel
theorem dX9_entry_39 : decode cX9_entry 39 = .ok (.ireturn, 1) := by decide +kernel
theorem dX9_commonDivisor_0 : decode cX9_commonDivisor 0 = .ok (.iload_n 0, 1) := by decide +kernel
theorem dX9_commonDivisor_1 : decode cX9_commonDivisor 1 = .ok (.istore_n 2, 1) := by decide +kernel
theorem dX9_commonDivisor_2 : decode cX9_commonDivisor 2 = .ok (.iload_n 1, 1) := by decide +kernel
theorem dX9_commonDivisor_3 : decode cX9_commonDivisor 3 = .ok (.istore_n 3, 1) := by decide +kernel
theorem dX9_commonDivisor_4 : decode cX9_commonDivisor 4 = .ok (.iconst 0, 1) := by decide +kernel
theorem dX9_commonDivisor_5 : decode cX9_commonDivisor 5 = .ok (.istore 4, 2) := by decide +kernel
theorem dX9_commonDivisor_7 : decode cX9_commonDivisor 7 = .ok (.iload 4, 2) := by decide +kernel
theorem dX9_commonDivisor_9 : decode cX9_commonDivisor 9 = .ok (.bipush 64, 2) := by decide +kernel
theorem dX9_commonDivisor_11 : decode cX9_commonDivisor 11 = .ok (.if_icmp .ge 23, 3) := by decide +kernel
theorem dX9_commonDivisor_14 : decode cX9_commonDivisor 14 = .ok (.iload_n 3, 1) := by decide +kernel
theorem dX9_commonDivisor_15 : decode cX9_commonDivisor 15 = .ok (.ifCond .eq 19, 3) := by decide +kernel
theorem dX9_commonDivisor_18 : decode cX9_commonDivisor 18 = .ok (.iload_n 2, 1) := by decide +kernel
theorem dX9_commonDivisor_19 : decode cX9_commonDivisor 19 = .ok (.iload_n 3, 1) := by decide +kernel
theorem dX9_commonDivisor_20 : decode cX9_commonDivisor 20 = .ok (.irem, 1) := by decide +kernel
theorem dX9_commonDivisor_21 : decode cX9_commonDivisor 21 = .ok (.istore 5, 2) := by decide +kernel
theorem dX9_commonDivisor_23 : decode cX9_commonDivisor 23 = .ok (.iload_n 3, 1) := by decide +kernel
theorem dX9_commonDivisor_24 : decode cX9_commonDivisor 24 = .ok (.istore_n 2, 1) := by decide +kernel
theorem dX9_commonDivisor_25 : decode cX9_commonDivisor 25 = .ok (.iload 5, 2) := by decide +kernel
theorem dX9_commonDivisor_27 : decode cX9_commonDivisor 27 = .ok (.istore_n 3, 1) := by decide +kernel
theorem dX9_commonDivisor_28 : decode cX9_commonDivisor 28 = .ok (.iinc 4 1, 3) := by decide +kernel
theorem dX9_commonDivisor_31 : decode cX9_commonDivisor 31 = .ok (.goto (-24), 3) := by decide +kernel
theorem dX9_commonDivisor_34 : decode cX9_commonDivisor 34 = .ok (.iconst 1, 1) := by decide +kernel
theorem dX9_commonDivisor_35 : decode cX9_commonDivisor 35 = .ok (.iload_n 2, 1) := by decide +kernel
theorem dX9_commonDivisor_36 : decode cX9_commonDivisor 36 = .ok (.invokestatic 376, 3) := by decide +kernel
theorem dX9_commonDivisor_39 : decode cX9_commonDivisor 39 = .ok (.ireturn, 1) := by decide +kernel
theorem dX9_bareCost_0 : decode cX9_bareCost 0 = .ok (.aload_n 0, 1) := by decide +kernel
theorem dX9_bareCost_1 : decode cX9_bareCost 1 = .ok (.getfield 59, 3) := by decide +kernel
theorem dX9_bareCost_4 : decode cX9_bareCost 4 = .ok (.aload_n 0, 1) := by decide +kernel
theorem dX9_bareCost_5 : decode cX9_bareCost 5 = .ok (.getfield 26, 3) := by decide +kernel
theorem dX9_bareCost_8 : decode cX9_bareCost 8 = .ok (.iconst 0, 1) := by decide +kernel
theorem dX9_bareCost_9 : decode cX9_bareCost 9 = .ok (.invokevirtual 107, 3) := by decide +kernel
theorem dX9_bareCost_12 : decode cX9_bareCost 12 = .ok (.aload_n 0, 1) := by decide +kernel
theorem dX9_bareCost_13 : decode cX9_bareCost 13 = .ok (.getfield 59, 3) := by decide +kernel
theorem dX9_bareCost_16 : decode cX9_bareCost 16 = .ok (.iload_n 1, 1) := by decide +kernel
theorem dX9_bareCost_17 : decode cX9_bareCost 17 = .ok (.iload_n 2, 1) := by decide +kernel
theorem dX9_bareCost_18 : decode cX9_bareCost 18 = .ok (.invokevirtual 256, 3) := by decide +kernel
theorem dX9_bareCost_21 : decode cX9_bareCost 21 = .ok (.lreturn, 1) := by decide +kernel
theorem dX9_costByRule_0 : decode cX9_costByRule 0 = .ok (.aload_n 0, 1) := by decide +kernel
theorem dX9_costByRule_1 : decode cX9_costByRule 1 = .ok (.getfield 59, 3) := by decide +kernel
theorem dX9_costByRule_4 : decode cX9_costByRule 4 = .ok (.aload_n 0, 1) := by decide +kernel
theorem dX9_costByRule_5 : decode cX9_costByRule 5 = .ok (.getfield 26, 3) := by decide +kernel
theorem dX9_costByRule_8 : decode cX9_costByRule 8 = .ok (.iconst 0, 1) := by decide +kernel
theorem dX9_costByRule_9 : decode cX9_costByRule 9 = .ok (.invokevirtual 107, 3) := by decide +kernel
theorem dX9_costByRule_12 : decode cX9_costByRule 12 = .ok (.aload_n 0, 1) := by decide +kernel
theorem dX9_costByRule_13 : decode cX9_costByRule 13 = .ok (.getfield 59, 3) := by decide +kernel
theorem dX9_costByRule_16 : decode cX9_costByRule 16 = .ok (.iload_n 1, 1) := by decide +kernel
theorem dX9_costByRule_17 : decode cX9_costByRule 17 = .ok (.putfield 379, 3) := by decide +kernel
theorem dX9_costByRule_20 : decode cX9_costByRule 20 = .ok (.aload_n 0, 1) := by decide +kernel
theorem dX9_costByRule_21 : decode cX9_costByRule 21 = .ok (.getfield 59, 3) := by decide +kernel
theorem dX9_costByRule_24 : decode cX9_costByRule 24 = .ok (.iload_n 2, 1) := by decide +kernel
theorem dX9_costByRule_25 : decode cX9_costByRule 25 = .ok (.putfield 382, 3) := by decide +kernel
theorem dX9_costByRule_28 : decode cX9_costByRule 28 = .ok (.aload_n 0, 1) := by decide +kernel
theorem dX9_costByRule_29 : decode cX9_costByRule 29 = .ok (.getfield 59, 3) := by decide +kernel
theorem dX9_costByRule_32 : decode cX9_costByRule 32 = .ok (.iload_n 3, 1) := by decide +kernel
theorem dX9_costByRule_33 : decode cX9_costByRule 33 = .ok (.iload 4, 2) := by decide +kernel
theorem dX9_costByRule_35 : decode cX9_costByRule 35 = .ok (.invokevirtual 256, 3) := by decide +kernel
theorem dX9_costByRule_38 : decode cX9_costByRule 38 = .ok (.lreturn, 1) := by decide +kernel
theorem dX9_costWere_0 : decode cX9_costWere 0 = .ok (.aload_n 0, 1) := by decide +kernel
theorem dX9_costWere_1 : decode cX9_costWere 1 = .ok (.getfield 30, 3) := by decide +kernel
theorem dX9_costWere_4 : decode cX9_costWere 4 = .ok (.aload_n 0, 1) := by decide +kernel
theorem dX9_costWere_5 : decode cX9_costWere 5 = .ok (.getfield 26, 3) := by decide +kernel
theorem dX9_costWere_8 : decode cX9_costWere 8 = .ok (.invokevirtual 98, 3) := by decide +kernel
theorem dX9_costWere_11 : decode cX9_costWere 11 = .ok (.aload_n 0, 1) := by decide +kernel
theorem dX9_costWere_12 : decode cX9_costWere 12 = .ok (.getfield 30, 3) := by decide +kernel
theorem dX9_costWere_15 : decode cX9_costWere 15 = .ok (.getfield 154, 3) := by decide +kernel
theorem dX9_costWere_18 : decode cX9_costWere 18 = .ok (.iload_n 1, 1) := by decide +kernel
theorem dX9_costWere_19 : decode cX9_costWere 19 = .ok (.iload_n 2, 1) := by decide +kernel
theorem dX9_costWere_20 : decode cX9_costWere 20 = .ok (.iastore, 1) := by decide +kernel
theorem dX9_costWere_21 : decode cX9_costWere 21 = .ok (.aload_n 0, 1) := by decide +kernel
theorem dX9_costWere_22 : decode cX9_costWere 22 = .ok (.getfield 59, 3) := by decide +kernel
theorem dX9_costWere_25 : decode cX9_costWere 25 = .ok (.aload_n 0, 1) := by decide +kernel
theorem dX9_costWere_26 : decode cX9_costWere 26 = .ok (.getfield 30, 3) := by decide +kernel
theorem dX9_costWere_29 : decode cX9_costWere 29 = .ok (.iconst 1, 1) := by decide +kernel
theorem dX9_costWere_30 : decode cX9_costWere 30 = .ok (.invokevirtual 107, 3) := by decide +kernel
theorem dX9_costWere_33 : decode cX9_costWere 33 = .ok (.aload_n 0, 1) := by decide +kernel
theorem dX9_costWere_34 : decode cX9_costWere 34 = .ok (.getfield 59, 3) := by decide +kernel
theorem dX9_costWere_37 : decode cX9_costWere 37 = .ok (.iload_n 3, 1) := by decide +kernel
theorem dX9_costWere_38 : decode cX9_costWere 38 = .ok (.iload 4, 2) := by decide +kernel
theorem dX9_costWere_40 : decode cX9_costWere 40 = .ok (.invokevirtual 256, 3) := by decide +kernel
theorem dX9_costWere_43 : decode cX9_costWere 43 = .ok (.lreturn, 1) := by decide +kernel
theorem dX9_joinedClass_0 : decode cX9_joinedClass 0 = .ok (.aload_n 0, 1) := by decide +kernel
theorem dX9_joinedClass_1 : decode cX9_joinedClass 1 = .ok (.getfield 26, 3) := by decide +kernel
theorem dX9_joinedClass_4 : decode cX9_joinedClass 4 = .ok (.iload_n 2, 1) := by decide +kernel
theorem dX9_joinedClass_5 : decode cX9_joinedClass 5 = .ok (.iconst 0, 1) := by decide +kernel
theorem dX9_joinedClass_6 : decode cX9_joinedClass 6 = .ok (.invokevirtual 122, 3) := by decide +kernel
theorem dX9_joinedClass_9 : decode cX9_joinedClass 9 = .ok (.aload_n 0, 1) := by decide +kernel
theorem dX9_joinedClass_10 : decode cX9_joinedClass 10 = .ok (.getfield 26, 3) := by decide +kernel
theorem dX9_joinedClass_13 : decode cX9_joinedClass 13 = .ok (.iload_n 1, 1) := by decide +kernel
theorem dX9_joinedClass_14 : decode cX9_joinedClass 14 = .ok (.iconst 0, 1) := by decide +kernel
theorem dX9_joinedClass_15 : decode cX9_joinedClass 15 = .ok (.invokevirtual 122, 3) := by decide +kernel
theorem dX9_joinedClass_18 : decode cX9_joinedClass 18 = .ok (.if_icmp .le 7, 3) := by decide +kernel
theorem dX9_joinedClass_21 : decode cX9_joinedClass 21 = .ok (.iload_n 2, 1) := by decide +kernel
theorem dX9_joinedClass_22 : decode cX9_joinedClass 22 = .ok (.goto 4, 3) := by decide +kernel
theorem dX9_joinedClass_25 : decode cX9_joinedClass 25 = .ok (.iload_n 1, 1) := by decide +kernel
theorem dX9_joinedClass_26 : decode cX9_joinedClass 26 = .ok (.ireturn, 1) := by decide +kernel
theorem dX9_joinedCost_0 : decode cX9_joinedCost 0 = .ok (.aload_n 0, 1) := by decide +kernel
theorem dX9_joinedCost_1 : decode cX9_joinedCost 1 = .ok (.getfield 59, 3) := by decide +kernel
theorem dX9_joinedCost_4 : decode cX9_joinedCost 4 = .ok (.aload_n 0, 1) := by decide +kernel
theorem dX9_joinedCost_5 : decode cX9_joinedCost 5 = .ok (.getfield 26, 3) := by decide +kernel
theorem dX9_joinedCost_8 : decode cX9_joinedCost 8 = .ok (.iconst 0, 1) := by decide +kernel
theorem dX9_joinedCost_9 : decode cX9_joinedCost 9 = .ok (.invokevirtual 107, 3) := by decide +kernel
theorem dX9_joinedCost_12 : decode cX9_joinedCost 12 = .ok (.aload_n 0, 1) := by decide +kernel
theorem dX9_joinedCost_13 : decode cX9_joinedCost 13 = .ok (.getfield 59, 3) := by decide +kernel
theorem dX9_joinedCost_16 : decode cX9_joinedCost 16 = .ok (.iconst 2, 1) := by decide +kernel
theorem dX9_joinedCost_17 : decode cX9_joinedCost 17 = .ok (.putfield 385, 3) := by decide +kernel
theorem dX9_joinedCost_20 : decode cX9_joinedCost 20 = .ok (.aload_n 0, 1) := by decide +kernel
theorem dX9_joinedCost_21 : decode cX9_joinedCost 21 = .ok (.getfield 59, 3) := by decide +kernel
theorem dX9_joinedCost_24 : decode cX9_joinedCost 24 = .ok (.iload_n 3, 1) := by decide +kernel
theorem dX9_joinedCost_25 : decode cX9_joinedCost 25 = .ok (.putfield 388, 3) := by decide +kernel
theorem dX9_joinedCost_28 : decode cX9_joinedCost 28 = .ok (.aload_n 0, 1) := by decide +kernel
theorem dX9_joinedCost_29 : decode cX9_joinedCost 29 = .ok (.getfield 59, 3) := by decide +kernel
theorem dX9_joinedCost_32 : decode cX9_joinedCost 32 = .ok (.iload_n 1, 1) := by decide +kernel
theorem dX9_joinedCost_33 : decode cX9_joinedCost 33 = .ok (.iload_n 2, 1) := by decide +kernel
theorem dX9_joinedCost_34 : decode cX9_joinedCost 34 = .ok (.invokevirtual 256, 3) := by decide +kernel
theorem dX9_joinedCost_37 : decode cX9_joinedCost 37 = .ok (.lreturn, 1) := by decide +kernel
theorem dX9_stepFrom_0 : decode cX9_stepFrom 0 = .ok (.iconst 0, 1) := by decide +kernel
theorem dX9_stepFrom_1 : decode cX9_stepFrom 1 = .ok (.istore_n 2, 1) := by decide +kernel
theorem dX9_stepFrom_2 : decode cX9_stepFrom 2 = .ok (.iconst 0, 1) := by decide +kernel
theorem dX9_stepFrom_3 : decode cX9_stepFrom 3 = .ok (.istore_n 3, 1) := by decide +kernel
theorem dX9_stepFrom_4 : decode cX9_stepFrom 4 = .ok (.iload_n 3, 1) := by decide +kernel
theorem dX9_stepFrom_5 : decode cX9_stepFrom 5 = .ok (.aload_n 0, 1) := by decide +kernel
theorem dX9_stepFrom_6 : decode cX9_stepFrom 6 = .ok (.getfield 26, 3) := by decide +kernel
theorem dX9_stepFrom_9 : decode cX9_stepFrom 9 = .ok (.getfield 111, 3) := by decide +kernel
theorem dX9_stepFrom_12 : decode cX9_stepFrom 12 = .ok (.if_icmp .ge 47, 3) := by decide +kernel
theorem dX9_stepFrom_15 : decode cX9_stepFrom 15 = .ok (.iload_n 1, 1) := by decide +kernel
theorem dX9_stepFrom_16 : decode cX9_stepFrom 16 = .ok (.iload_n 3, 1) := by decide +kernel
theorem dX9_stepFrom_17 : decode cX9_stepFrom 17 = .ok (.ishr, 1) := by decide +kernel
theorem dX9_stepFrom_18 : decode cX9_stepFrom 18 = .ok (.iconst 1, 1) := by decide +kernel
theorem dX9_stepFrom_19 : decode cX9_stepFrom 19 = .ok (.iand, 1) := by decide +kernel
theorem dX9_stepFrom_20 : decode cX9_stepFrom 20 = .ok (.ifCond .eq 33, 3) := by decide +kernel
theorem dX9_stepFrom_23 : decode cX9_stepFrom 23 = .ok (.iconst 0, 1) := by decide +kernel
theorem dX9_stepFrom_24 : decode cX9_stepFrom 24 = .ok (.istore 4, 2) := by decide +kernel
theorem dX9_stepFrom_26 : decode cX9_stepFrom 26 = .ok (.iload 4, 2) := by decide +kernel
theorem dX9_stepFrom_28 : decode cX9_stepFrom 28 = .ok (.iconst 3, 1) := by decide +kernel
theorem dX9_stepFrom_29 : decode cX9_stepFrom 29 = .ok (.if_icmp .ge 24, 3) := by decide +kernel
theorem dX9_stepFrom_32 : decode cX9_stepFrom 32 = .ok (.iload_n 2, 1) := by decide +kernel
theorem dX9_stepFrom_33 : decode cX9_stepFrom 33 = .ok (.iconst 1, 1) := by decide +kernel
theorem dX9_stepFrom_34 : decode cX9_stepFrom 34 = .ok (.aload_n 0, 1) := by decide +kernel
theorem dX9_stepFrom_35 : decode cX9_stepFrom 35 = .ok (.getfield 26, 3) := by decide +kernel
theorem dX9_stepFrom_38 : decode cX9_stepFrom 38 = .ok (.iload_n 3, 1) := by decide +kernel
theorem dX9_stepFrom_39 : decode cX9_stepFrom 39 = .ok (.iload 4, 2) := by decide +kernel
theorem dX9_stepFrom_41 : decode cX9_stepFrom 41 = .ok (.invokevirtual 307, 3) := by decide +kernel
theorem dX9_stepFrom_44 : decode cX9_stepFrom 44 = .ok (.ishl, 1) := by decide +kernel
theorem dX9_stepFrom_45 : decode cX9_stepFrom 45 = .ok (.ior, 1) := by decide +kernel
theorem dX9_stepFrom_46 : decode cX9_stepFrom 46 = .ok (.istore_n 2, 1) := by decide +kernel
theorem dX9_stepFrom_47 : decode cX9_stepFrom 47 = .ok (.iinc 4 1, 3) := by decide +kernel
theorem dX9_stepFrom_50 : decode cX9_stepFrom 50 = .ok (.goto (-24), 3) := by decide +kernel
theorem dX9_stepFrom_53 : decode cX9_stepFrom 53 = .ok (.iinc 3 1, 3) := by decide +kernel
theorem dX9_stepFrom_56 : decode cX9_stepFrom 56 = .ok (.goto (-52), 3) := by decide +kernel
theorem dX9_stepFrom_59 : decode cX9_stepFrom 59 = .ok (.iload_n 2, 1) := by decide +kernel
theorem dX9_stepFrom_60 : decode cX9_stepFrom 60 = .ok (.ireturn, 1) := by decide +kernel
theorem dX9_waysOf_0 : decode cX9_waysOf 0 = .ok (.aload_n 0, 1) := by decide +kernel
theorem dX9_waysOf_1 : decode cX9_waysOf 1 = .ok (.getfield 26, 3) := by decide +kernel
theorem dX9_waysOf_4 : decode cX9_waysOf 4 = .ok (.invokevirtual 278, 3) := by decide +kernel
theorem dX9_waysOf_7 : decode cX9_waysOf 7 = .ok (.istore_n 2, 1) := by decide +kernel
theorem dX9_waysOf_8 : decode cX9_waysOf 8 = .ok (.iload_n 1, 1) := by decide +kernel
theorem dX9_waysOf_9 : decode cX9_waysOf 9 = .ok (.iload_n 2, 1) := by decide +kernel
theorem dX9_waysOf_10 : decode cX9_waysOf 10 = .ok (.if_icmp .le 5, 3) := by decide +kernel
theorem dX9_waysOf_13 : decode cX9_waysOf 13 = .ok (.iconst 0, 1) := by decide +kernel
theorem dX9_waysOf_14 : decode cX9_waysOf 14 = .ok (.ireturn, 1) := by decide +kernel
theorem dX9_waysOf_15 : decode cX9_waysOf 15 = .ok (.iconst 1, 1) := by decide +kernel
theorem dX9_waysOf_16 : decode cX9_waysOf 16 = .ok (.istore_n 3, 1) := by decide +kernel
theorem dX9_waysOf_17 : decode cX9_waysOf 17 = .ok (.iconst 0, 1) := by decide +kernel
theorem dX9_waysOf_18 : decode cX9_waysOf 18 = .ok (.istore 4, 2) := by decide +kernel
theorem dX9_waysOf_20 : decode cX9_waysOf 20 = .ok (.iload 4, 2) := by decide +kernel
theorem dX9_waysOf_22 : decode cX9_waysOf 22 = .ok (.iload_n 1, 1) := by decide +kernel
theorem dX9_waysOf_23 : decode cX9_waysOf 23 = .ok (.if_icmp .ge 21, 3) := by decide +kernel
theorem dX9_waysOf_26 : decode cX9_waysOf 26 = .ok (.iload_n 3, 1) := by decide +kernel
theorem dX9_waysOf_27 : decode cX9_waysOf 27 = .ok (.iload_n 2, 1) := by decide +kernel
theorem dX9_waysOf_28 : decode cX9_waysOf 28 = .ok (.iload 4, 2) := by decide +kernel
theorem dX9_waysOf_30 : decode cX9_waysOf 30 = .ok (.isub, 1) := by decide +kernel
theorem dX9_waysOf_31 : decode cX9_waysOf 31 = .ok (.imul, 1) := by decide +kernel
theorem dX9_waysOf_32 : decode cX9_waysOf 32 = .ok (.iload 4, 2) := by decide +kernel
theorem dX9_waysOf_34 : decode cX9_waysOf 34 = .ok (.iconst 1, 1) := by decide +kernel
theorem dX9_waysOf_35 : decode cX9_waysOf 35 = .ok (.iadd, 1) := by decide +kernel
theorem dX9_waysOf_36 : decode cX9_waysOf 36 = .ok (.idiv, 1) := by decide +kernel
theorem dX9_waysOf_37 : decode cX9_waysOf 37 = .ok (.istore_n 3, 1) := by decide +kernel
theorem dX9_waysOf_38 : decode cX9_waysOf 38 = .ok (.iinc 4 1, 3) := by decide +kernel
theorem dX9_waysOf_41 : decode cX9_waysOf 41 = .ok (.goto (-21), 3) := by decide +kernel
theorem dX9_waysOf_44 : decode cX9_waysOf 44 = .ok (.iconst 0, 1) := by decide +kernel
theorem dX9_waysOf_45 : decode cX9_waysOf 45 = .ok (.istore 4, 2) := by decide +kernel
theorem dX9_waysOf_47 : decode cX9_waysOf 47 = .ok (.iload 4, 2) := by decide +kernel
theorem dX9_waysOf_49 : decode cX9_waysOf 49 = .ok (.iload_n 2, 1) := by decide +kernel
theorem dX9_waysOf_50 : decode cX9_waysOf 50 = .ok (.if_icmp .ge 38, 3) := by decide +kernel
theorem dX9_waysOf_53 : decode cX9_waysOf 53 = .ok (.iload_n 3, 1) := by decide +kernel
theorem dX9_waysOf_54 : decode cX9_waysOf 54 = .ok (.iload 4, 2) := by decide +kernel
theorem dX9_waysOf_56 : decode cX9_waysOf 56 = .ok (.iload_n 1, 1) := by decide +kernel
theorem dX9_waysOf_57 : decode cX9_waysOf 57 = .ok (.if_icmp .ge 13, 3) := by decide +kernel
theorem dX9_waysOf_60 : decode cX9_waysOf 60 = .ok (.aload_n 0, 1) := by decide +kernel
theorem dX9_waysOf_61 : decode cX9_waysOf 61 = .ok (.getfield 26, 3) := by decide +kernel
theorem dX9_waysOf_64 : decode cX9_waysOf 64 = .ok (.invokevirtual 200, 3) := by decide +kernel
theorem dX9_waysOf_67 : decode cX9_waysOf 67 = .ok (.goto 13, 3) := by decide +kernel
theorem dX9_waysOf_70 : decode cX9_waysOf 70 = .ok (.bipush 12, 2) := by decide +kernel
theorem dX9_waysOf_72 : decode cX9_waysOf 72 = .ok (.aload_n 0, 1) := by decide +kernel
theorem dX9_waysOf_73 : decode cX9_waysOf 73 = .ok (.getfield 26, 3) := by decide +kernel
theorem dX9_waysOf_76 : decode cX9_waysOf 76 = .ok (.invokevirtual 200, 3) := by decide +kernel
theorem dX9_waysOf_79 : decode cX9_waysOf 79 = .ok (.isub, 1) := by decide +kernel
theorem dX9_waysOf_80 : decode cX9_waysOf 80 = .ok (.imul, 1) := by decide +kernel
theorem dX9_waysOf_81 : decode cX9_waysOf 81 = .ok (.istore_n 3, 1) := by decide +kernel
theorem dX9_waysOf_82 : decode cX9_waysOf 82 = .ok (.iinc 4 1, 3) := by decide +kernel
theorem dX9_waysOf_85 : decode cX9_waysOf 85 = .ok (.goto (-38), 3) := by decide +kernel
theorem dX9_waysOf_88 : decode cX9_waysOf 88 = .ok (.iload_n 3, 1) := by decide +kernel
theorem dX9_waysOf_89 : decode cX9_waysOf 89 = .ok (.ireturn, 1) := by decide +kernel
theorem dX9_spreadOneYear_0 : decode cX9_spreadOneYear 0 = .ok (.iconst 0, 1) := by decide +kernel
theorem dX9_spreadOneYear_1 : decode cX9_spreadOneYear 1 = .ok (.istore_n 1, 1) := by decide +kernel
theorem dX9_spreadOneYear_2 : decode cX9_spreadOneYear 2 = .ok (.iload_n 1, 1) := by decide +kernel
theorem dX9_spreadOneYear_3 : decode cX9_spreadOneYear 3 = .ok (.bipush 8, 2) := by decide +kernel
theorem dX9_spreadOneYear_5 : decode cX9_spreadOneYear 5 = .ok (.if_icmp .ge 16, 3) := by decide +kernel
theorem dX9_spreadOneYear_8 : decode cX9_spreadOneYear 8 = .ok (.aload_n 0, 1) := by decide +kernel
theorem dX9_spreadOneYear_9 : decode cX9_spreadOneYear 9 = .ok (.getfield 80, 3) := by decide +kernel
theorem dX9_spreadOneYear_12 : decode cX9_spreadOneYear 12 = .ok (.iload_n 1, 1) := by decide +kernel
theorem dX9_spreadOneYear_13 : decode cX9_spreadOneYear 13 = .ok (.lconst 0, 1) := by decide +kernel
theorem dX9_spreadOneYear_14 : decode cX9_spreadOneYear 14 = .ok (.lastore, 1) := by decide +kernel
theorem dX9_spreadOneYear_15 : decode cX9_spreadOneYear 15 = .ok (.iinc 1 1, 3) := by decide +kernel
theorem dX9_spreadOneYear_18 : decode cX9_spreadOneYear 18 = .ok (.goto (-16), 3) := by decide +kernel
theorem dX9_spreadOneYear_21 : decode cX9_spreadOneYear 21 = .ok (.iconst 0, 1) := by decide +kernel
theorem dX9_spreadOneYear_22 : decode cX9_spreadOneYear 22 = .ok (.istore_n 1, 1) := by decide +kernel
theorem dX9_spreadOneYear_23 : decode cX9_spreadOneYear 23 = .ok (.iload_n 1, 1) := by decide +kernel
theorem dX9_spreadOneYear_24 : decode cX9_spreadOneYear 24 = .ok (.aload_n 0, 1) := by decide +kernel
theorem dX9_spreadOneYear_25 : decode cX9_spreadOneYear 25 = .ok (.getfield 26, 3) := by decide +kernel
theorem dX9_spreadOneYear_28 : decode cX9_spreadOneYear 28 = .ok (.invokevirtual 278, 3) := by decide +kernel
theorem dX9_spreadOneYear_31 : decode cX9_spreadOneYear 31 = .ok (.if_icmp .gt 60, 3) := by decide +kernel
theorem dX9_spreadOneYear_34 : decode cX9_spreadOneYear 34 = .ok (.aload_n 0, 1) := by decide +kernel
theorem dX9_spreadOneYear_35 : decode cX9_spreadOneYear 35 = .ok (.iload_n 1, 1) := by decide +kernel
theorem dX9_spreadOneYear_36 : decode cX9_spreadOneYear 36 = .ok (.invokevirtual 310, 3) := by decide +kernel
theorem dX9_spreadOneYear_39 : decode cX9_spreadOneYear 39 = .ok (.istore_n 2, 1) := by decide +kernel
theorem dX9_spreadOneYear_40 : decode cX9_spreadOneYear 40 = .ok (.iconst 0, 1) := by decide +kernel
theorem dX9_spreadOneYear_41 : decode cX9_spreadOneYear 41 = .ok (.istore_n 3, 1) := by decide +kernel
theorem dX9_spreadOneYear_42 : decode cX9_spreadOneYear 42 = .ok (.iload_n 3, 1) := by decide +kernel
theorem dX9_spreadOneYear_43 : decode cX9_spreadOneYear 43 = .ok (.aload_n 0, 1) := by decide +kernel
theorem dX9_spreadOneYear_44 : decode cX9_spreadOneYear 44 = .ok (.getfield 26, 3) := by decide +kernel
theorem dX9_spreadOneYear_47 : decode cX9_spreadOneYear 47 = .ok (.getfield 111, 3) := by decide +kernel
theorem dX9_spreadOneYear_50 : decode cX9_spreadOneYear 50 = .ok (.if_icmp .ge 35, 3) := by decide +kernel
theorem dX9_spreadOneYear_53 : decode cX9_spreadOneYear 53 = .ok (.aload_n 0, 1) := by decide +kernel
theorem dX9_spreadOneYear_54 : decode cX9_spreadOneYear 54 = .ok (.getfield 80, 3) := by decide +kernel
theorem dX9_spreadOneYear_57 : decode cX9_spreadOneYear 57 = .ok (.aload_n 0, 1) := by decide +kernel
theorem dX9_spreadOneYear_58 : decode cX9_spreadOneYear 58 = .ok (.getfield 26, 3) := by decide +kernel
theorem dX9_spreadOneYear_61 : decode cX9_spreadOneYear 61 = .ok (.iload_n 3, 1) := by decide +kernel
theorem dX9_spreadOneYear_62 : decode cX9_spreadOneYear 62 = .ok (.iload_n 1, 1) := by decide +kernel
theorem dX9_spreadOneYear_63 : decode cX9_spreadOneYear 63 = .ok (.invokevirtual 307, 3) := by decide +kernel
theorem dX9_spreadOneYear_66 : decode cX9_spreadOneYear 66 = .ok (.dup2, 1) := by decide +kernel
theorem dX9_spreadOneYear_67 : decode cX9_spreadOneYear 67 = .ok (.laload, 1) := by decide +kernel
theorem dX9_spreadOneYear_68 : decode cX9_spreadOneYear 68 = .ok (.aload_n 0, 1) := by decide +kernel
theorem dX9_spreadOneYear_69 : decode cX9_spreadOneYear 69 = .ok (.getfield 76, 3) := by decide +kernel
theorem dX9_spreadOneYear_72 : decode cX9_spreadOneYear 72 = .ok (.iload_n 3, 1) := by decide +kernel
theorem dX9_spreadOneYear_73 : decode cX9_spreadOneYear 73 = .ok (.laload, 1) := by decide +kernel
theorem dX9_spreadOneYear_74 : decode cX9_spreadOneYear 74 = .ok (.iload_n 2, 1) := by decide +kernel
theorem dX9_spreadOneYear_75 : decode cX9_spreadOneYear 75 = .ok (.i2l, 1) := by decide +kernel
theorem dX9_spreadOneYear_76 : decode cX9_spreadOneYear 76 = .ok (.lmul, 1) := by decide +kernel
theorem dX9_spreadOneYear_77 : decode cX9_spreadOneYear 77 = .ok (.ladd, 1) := by decide +kernel
theorem dX9_spreadOneYear_78 : decode cX9_spreadOneYear 78 = .ok (.lastore, 1) := by decide +kernel
theorem dX9_spreadOneYear_79 : decode cX9_spreadOneYear 79 = .ok (.iinc 3 1, 3) := by decide +kernel
theorem dX9_spreadOneYear_82 : decode cX9_spreadOneYear 82 = .ok (.goto (-40), 3) := by decide +kernel
theorem dX9_spreadOneYear_85 : decode cX9_spreadOneYear 85 = .ok (.iinc 1 1, 3) := by decide +kernel
theorem dX9_spreadOneYear_88 : decode cX9_spreadOneYear 88 = .ok (.goto (-65), 3) := by decide +kernel
theorem dX9_spreadOneYear_91 : decode cX9_spreadOneYear 91 = .ok (.aload_n 0, 1) := by decide +kernel
theorem dX9_spreadOneYear_92 : decode cX9_spreadOneYear 92 = .ok (.getfield 80, 3) := by decide +kernel
theorem dX9_spreadOneYear_95 : decode cX9_spreadOneYear 95 = .ok (.iconst 0, 1) := by decide +kernel
theorem dX9_spreadOneYear_96 : decode cX9_spreadOneYear 96 = .ok (.aload_n 0, 1) := by decide +kernel
theorem dX9_spreadOneYear_97 : decode cX9_spreadOneYear 97 = .ok (.getfield 76, 3) := by decide +kernel
theorem dX9_spreadOneYear_100 : decode cX9_spreadOneYear 100 = .ok (.iconst 0, 1) := by decide +kernel
theorem dX9_spreadOneYear_101 : decode cX9_spreadOneYear 101 = .ok (.bipush 8, 2) := by decide +kernel
theorem dX9_spreadOneYear_103 : decode cX9_spreadOneYear 103 = .ok (.invokestatic 391, 3) := by decide +kernel
theorem dX9_spreadOneYear_106 : decode cX9_spreadOneYear 106 = .ok (.return_, 1) := by decide +kernel
theorem dX9_lifeElsewhere_0 : decode cX9_lifeElsewhere 0 = .ok (.aload_n 0, 1) := by decide +kernel
theorem dX9_lifeElsewhere_1 : decode cX9_lifeElsewhere 1 = .ok (.getfield 40, 3) := by decide +kernel
theorem dX9_lifeElsewhere_4 : decode cX9_lifeElsewhere 4 = .ok (.invokevirtual 101, 3) := by decide +kernel
theorem dX9_lifeElsewhere_7 : decode cX9_lifeElsewhere 7 = .ok (.aload_n 0, 1) := by decide +kernel
theorem dX9_lifeElsewhere_8 : decode cX9_lifeElsewhere 8 = .ok (.getfield 40, 3) := by decide +kernel
theorem dX9_lifeElsewhere_11 : decode cX9_lifeElsewhere 11 = .ok (.aload_n 0, 1) := by decide +kernel
theorem dX9_lifeElsewhere_12 : decode cX9_lifeElsewhere 12 = .ok (.getfield 36, 3) := by decide +kernel
theorem dX9_lifeElsewhere_15 : decode cX9_lifeElsewhere 15 = .ok (.getfield 187, 3) := by decide +kernel
theorem dX9_lifeElsewhere_18 : decode cX9_lifeElsewhere 18 = .ok (.putfield 187, 3) := by decide +kernel
theorem dX9_lifeElsewhere_21 : decode cX9_lifeElsewhere 21 = .ok (.aload_n 0, 1) := by decide +kernel
theorem dX9_lifeElsewhere_22 : decode cX9_lifeElsewhere 22 = .ok (.getfield 40, 3) := by decide +kernel
theorem dX9_lifeElsewhere_25 : decode cX9_lifeElsewhere 25 = .ok (.areturn, 1) := by decide +kernel
theorem dX9_liveByDraws_0 : decode cX9_liveByDraws 0 = .ok (.aload_n 1, 1) := by decide +kernel
theorem dX9_liveByDraws_1 : decode cX9_liveByDraws 1 = .ok (.invokevirtual 230, 3) := by decide +kernel
theorem dX9_liveByDraws_4 : decode cX9_liveByDraws 4 = .ok (.istore 6, 2) := by decide +kernel
theorem dX9_liveByDraws_6 : decode cX9_liveByDraws 6 = .ok (.aload_n 0, 1) := by decide +kernel
theorem dX9_liveByDraws_7 : decode cX9_liveByDraws 7 = .ok (.getfield 72, 3) := by decide +kernel
theorem dX9_liveByDraws_10 : decode cX9_liveByDraws 10 = .ok (.iload 5, 2) := by decide +kernel
theorem dX9_liveByDraws_12 : decode cX9_liveByDraws 12 = .ok (.putfield 397, 3) := by decide +kernel
theorem dX9_liveByDraws_15 : decode cX9_liveByDraws 15 = .ok (.iload_n 3, 1) := by decide +kernel
theorem dX9_liveByDraws_16 : decode cX9_liveByDraws 16 = .ok (.ifCond .ne 11, 3) := by decide +kernel
theorem dX9_liveByDraws_19 : decode cX9_liveByDraws 19 = .ok (.aload_n 0, 1) := by decide +kernel
theorem dX9_liveByDraws_20 : decode cX9_liveByDraws 20 = .ok (.getfield 55, 3) := by decide +kernel
theorem dX9_liveByDraws_23 : decode cX9_liveByDraws 23 = .ok (.iload_n 2, 1) := by decide +kernel
theorem dX9_liveByDraws_24 : decode cX9_liveByDraws 24 = .ok (.invokevirtual 260, 3) := by decide +kernel
theorem dX9_liveByDraws_27 : decode cX9_liveByDraws 27 = .ok (.iload_n 2, 1) := by decide +kernel
theorem dX9_liveByDraws_28 : decode cX9_liveByDraws 28 = .ok (.istore 7, 2) := by decide +kernel
theorem dX9_liveByDraws_30 : decode cX9_liveByDraws 30 = .ok (.iload 7, 2) := by decide +kernel
theorem dX9_liveByDraws_32 : decode cX9_liveByDraws 32 = .ok (.ifCond .le 19, 3) := by decide +kernel
theorem dX9_liveByDraws_35 : decode cX9_liveByDraws 35 = .ok (.aload_n 0, 1) := by decide +kernel
theorem dX9_liveByDraws_36 : decode cX9_liveByDraws 36 = .ok (.aload_n 1, 1) := by decide +kernel
theorem dX9_liveByDraws_37 : decode cX9_liveByDraws 37 = .ok (.iload 7, 2) := by decide +kernel
theorem dX9_liveByDraws_39 : decode cX9_liveByDraws 39 = .ok (.iload_n 3, 1) := by decide +kernel
theorem dX9_liveByDraws_40 : decode cX9_liveByDraws 40 = .ok (.iload 4, 2) := by decide +kernel
theorem dX9_liveByDraws_42 : decode cX9_liveByDraws 42 = .ok (.invokevirtual 400, 3) := by decide +kernel
theorem dX9_liveByDraws_45 : decode cX9_liveByDraws 45 = .ok (.iinc 7 (-1), 3) := by decide +kernel
theorem dX9_liveByDraws_48 : decode cX9_liveByDraws 48 = .ok (.goto (-18), 3) := by decide +kernel
theorem dX9_liveByDraws_51 : decode cX9_liveByDraws 51 = .ok (.aload_n 1, 1) := by decide +kernel
theorem dX9_liveByDraws_52 : decode cX9_liveByDraws 52 = .ok (.invokevirtual 230, 3) := by decide +kernel
theorem dX9_liveByDraws_55 : decode cX9_liveByDraws 55 = .ok (.iload 6, 2) := by decide +kernel
theorem dX9_liveByDraws_57 : decode cX9_liveByDraws 57 = .ok (.isub, 1) := by decide +kernel
theorem dX9_liveByDraws_58 : decode cX9_liveByDraws 58 = .ok (.ireturn, 1) := by decide +kernel
theorem dX9_liveOneYear_0 : decode cX9_liveOneYear 0 = .ok (.iload_n 3, 1) := by decide +kernel
theorem dX9_liveOneYear_1 : decode cX9_liveOneYear 1 = .ok (.ifCond .ne 22, 3) := by decide +kernel
theorem dX9_liveOneYear_4 : decode cX9_liveOneYear 4 = .ok (.aload_n 0, 1) := by decide +kernel
theorem dX9_liveOneYear_5 : decode cX9_liveOneYear 5 = .ok (.getfield 55, 3) := by decide +kernel
theorem dX9_liveOneYear_8 : decode cX9_liveOneYear 8 = .ok (.iload_n 2, 1) := by decide +kernel
theorem dX9_liveOneYear_9 : decode cX9_liveOneYear 9 = .ok (.aload_n 1, 1) := by decide +kernel
theorem dX9_liveOneYear_10 : decode cX9_liveOneYear 10 = .ok (.getfield 187, 3) := by decide +kernel
theorem dX9_liveOneYear_13 : decode cX9_liveOneYear 13 = .ok (.invokevirtual 263, 3) := by decide +kernel
theorem dX9_liveOneYear_16 : decode cX9_liveOneYear 16 = .ok (.ifCond .eq 7, 3) := by decide +kernel
theorem dX9_liveOneYear_19 : decode cX9_liveOneYear 19 = .ok (.iconst 1, 1) := by decide +kernel
theorem dX9_liveOneYear_20 : decode cX9_liveOneYear 20 = .ok (.goto 4, 3) := by decide +kernel
theorem dX9_liveOneYear_23 : decode cX9_liveOneYear 23 = .ok (.iconst 0, 1) := by decide +kernel
theorem dX9_liveOneYear_24 : decode cX9_liveOneYear 24 = .ok (.istore 5, 2) := by decide +kernel
theorem dX9_liveOneYear_26 : decode cX9_liveOneYear 26 = .ok (.aload_n 0, 1) := by decide +kernel
theorem dX9_liveOneYear_27 : decode cX9_liveOneYear 27 = .ok (.getfield 26, 3) := by decide +kernel
theorem dX9_liveOneYear_30 : decode cX9_liveOneYear 30 = .ok (.invokevirtual 278, 3) := by decide +kernel
theorem dX9_liveOneYear_33 : decode cX9_liveOneYear 33 = .ok (.istore 6, 2) := by decide +kernel
theorem dX9_liveOneYear_35 : decode cX9_liveOneYear 35 = .ok (.aload_n 1, 1) := by decide +kernel
theorem dX9_liveOneYear_36 : decode cX9_liveOneYear 36 = .ok (.aload_n 0, 1) := by decide +kernel
theorem dX9_liveOneYear_37 : decode cX9_liveOneYear 37 = .ok (.getfield 26, 3) := by decide +kernel
theorem dX9_liveOneYear_40 : decode cX9_liveOneYear 40 = .ok (.iload 5, 2) := by decide +kernel
theorem dX9_liveOneYear_42 : decode cX9_liveOneYear 42 = .ok (.invokevirtual 157, 3) := by decide +kernel
theorem dX9_liveOneYear_45 : decode cX9_liveOneYear 45 = .ok (.pop, 1) := by decide +kernel
theorem dX9_liveOneYear_46 : decode cX9_liveOneYear 46 = .ok (.iconst 0, 1) := by decide +kernel
theorem dX9_liveOneYear_47 : decode cX9_liveOneYear 47 = .ok (.istore 7, 2) := by decide +kernel
theorem dX9_liveOneYear_49 : decode cX9_liveOneYear 49 = .ok (.iload 7, 2) := by decide +kernel
theorem dX9_liveOneYear_51 : decode cX9_liveOneYear 51 = .ok (.iload 6, 2) := by decide +kernel
theorem dX9_liveOneYear_53 : decode cX9_liveOneYear 53 = .ok (.if_icmp .ge 71, 3) := by decide +kernel
theorem dX9_liveOneYear_56 : decode cX9_liveOneYear 56 = .ok (.aload_n 0, 1) := by decide +kernel
theorem dX9_liveOneYear_57 : decode cX9_liveOneYear 57 = .ok (.getfield 72, 3) := by decide +kernel
theorem dX9_liveOneYear_60 : decode cX9_liveOneYear 60 = .ok (.bipush 12, 2) := by decide +kernel
theorem dX9_liveOneYear_62 : decode cX9_liveOneYear 62 = .ok (.invokevirtual 404, 3) := by decide +kernel
theorem dX9_liveOneYear_65 : decode cX9_liveOneYear 65 = .ok (.aload_n 0, 1) := by decide +kernel
theorem dX9_liveOneYear_66 : decode cX9_liveOneYear 66 = .ok (.getfield 26, 3) := by decide +kernel
theorem dX9_liveOneYear_69 : decode cX9_liveOneYear 69 = .ok (.invokevirtual 200, 3) := by decide +kernel
theorem dX9_liveOneYear_72 : decode cX9_liveOneYear 72 = .ok (.if_icmp .ge 37, 3) := by decide +kernel
theorem dX9_liveOneYear_75 : decode cX9_liveOneYear 75 = .ok (.aload_n 0, 1) := by decide +kernel
theorem dX9_liveOneYear_76 : decode cX9_liveOneYear 76 = .ok (.getfield 72, 3) := by decide +kernel
theorem dX9_liveOneYear_79 : decode cX9_liveOneYear 79 = .ok (.aload_n 0, 1) := by decide +kernel
theorem dX9_liveOneYear_80 : decode cX9_liveOneYear 80 = .ok (.getfield 26, 3) := by decide +kernel
theorem dX9_liveOneYear_83 : decode cX9_liveOneYear 83 = .ok (.invokevirtual 406, 3) := by decide +kernel
theorem dX9_liveOneYear_86 : decode cX9_liveOneYear 86 = .ok (.istore 8, 2) := by decide +kernel
theorem dX9_liveOneYear_88 : decode cX9_liveOneYear 88 = .ok (.aload_n 1, 1) := by decide +kernel
theorem dX9_liveOneYear_89 : decode cX9_liveOneYear 89 = .ok (.aload_n 0, 1) := by decide +kernel
theorem dX9_liveOneYear_90 : decode cX9_liveOneYear 90 = .ok (.getfield 26, 3) := by decide +kernel
theorem dX9_liveOneYear_93 : decode cX9_liveOneYear 93 = .ok (.iload 8, 2) := by decide +kernel
theorem dX9_liveOneYear_95 : decode cX9_liveOneYear 95 = .ok (.aload_n 0, 1) := by decide +kernel
theorem dX9_liveOneYear_96 : decode cX9_liveOneYear 96 = .ok (.aload_n 1, 1) := by decide +kernel
theorem dX9_liveOneYear_97 : decode cX9_liveOneYear 97 = .ok (.iload_n 3, 1) := by decide +kernel
theorem dX9_liveOneYear_98 : decode cX9_liveOneYear 98 = .ok (.iload 4, 2) := by decide +kernel
theorem dX9_liveOneYear_100 : decode cX9_liveOneYear 100 = .ok (.iload 8, 2) := by decide +kernel
theorem dX9_liveOneYear_102 : decode cX9_liveOneYear 102 = .ok (.invokevirtual 409, 3) := by decide +kernel
theorem dX9_liveOneYear_105 : decode cX9_liveOneYear 105 = .ok (.invokevirtual 165, 3) := by decide +kernel
theorem dX9_liveOneYear_108 : decode cX9_liveOneYear 108 = .ok (.pop, 1) := by decide +kernel
theorem dX9_liveOneYear_109 : decode cX9_liveOneYear 109 = .ok (.aload_n 1, 1) := by decide +kernel
theorem dX9_liveOneYear_110 : decode cX9_liveOneYear 110 = .ok (.aload_n 0, 1) := by decide +kernel
theorem dX9_liveOneYear_111 : decode cX9_liveOneYear 111 = .ok (.getfield 26, 3) := by decide +kernel
theorem dX9_liveOneYear_114 : decode cX9_liveOneYear 114 = .ok (.invokevirtual 161, 3) := by decide +kernel
theorem dX9_liveOneYear_117 : decode cX9_liveOneYear 117 = .ok (.pop, 1) := by decide +kernel
theorem dX9_liveOneYear_118 : decode cX9_liveOneYear 118 = .ok (.iinc 7 1, 3) := by decide +kernel
theorem dX9_liveOneYear_121 : decode cX9_liveOneYear 121 = .ok (.goto (-72), 3) := by decide +kernel
theorem dX9_liveOneYear_124 : decode cX9_liveOneYear 124 = .ok (.return_, 1) := by decide +kernel
theorem dX9_isTold_0 : decode cX9_isTold 0 = .ok (.iload_n 2, 1) := by decide +kernel
theorem dX9_isTold_1 : decode cX9_isTold 1 = .ok (.tableswitch 51 1 3 #[27, 29, 31], 27) := by decide +kernel
theorem dX9_isTold_28 : decode cX9_isTold 28 = .ok (.iconst 1, 1) := by decide +kernel
theorem dX9_isTold_29 : decode cX9_isTold 29 = .ok (.ireturn, 1) := by decide +kernel
theorem dX9_isTold_30 : decode cX9_isTold 30 = .ok (.iconst 0, 1) := by decide +kernel
theorem dX9_isTold_31 : decode cX9_isTold 31 = .ok (.ireturn, 1) := by decide +kernel
theorem dX9_isTold_32 : decode cX9_isTold 32 = .ok (.aload_n 0, 1) := by decide +kernel
theorem dX9_isTold_33 : decode cX9_isTold 33 = .ok (.getfield 26, 3) := by decide +kernel
theorem dX9_isTold_36 : decode cX9_isTold 36 = .ok (.iload 4, 2) := by decide +kernel
theorem dX9_isTold_38 : decode cX9_isTold 38 = .ok (.iconst 0, 1) := by decide +kernel
theorem dX9_isTold_39 : decode cX9_isTold 39 = .ok (.invokevirtual 140, 3) := by decide +kernel
theorem dX9_isTold_42 : decode cX9_isTold 42 = .ok (.iload_n 3, 1) := by decide +kernel
theorem dX9_isTold_43 : decode cX9_isTold 43 = .ok (.if_icmp .le 7, 3) := by decide +kernel
theorem dX9_isTold_46 : decode cX9_isTold 46 = .ok (.iconst 1, 1) := by decide +kernel
theorem dX9_isTold_47 : decode cX9_isTold 47 = .ok (.goto 4, 3) := by decide +kernel
theorem dX9_isTold_50 : decode cX9_isTold 50 = .ok (.iconst 0, 1) := by decide +kernel
theorem dX9_isTold_51 : decode cX9_isTold 51 = .ok (.ireturn, 1) := by decide +kernel
theorem dX9_isTold_52 : decode cX9_isTold 52 = .ok (.aload_n 0, 1) := by decide +kernel
theorem dX9_isTold_53 : decode cX9_isTold 53 = .ok (.getfield 55, 3) := by decide +kernel
theorem dX9_isTold_56 : decode cX9_isTold 56 = .ok (.aload_n 1, 1) := by decide +kernel
theorem dX9_isTold_57 : decode cX9_isTold 57 = .ok (.getfield 203, 3) := by decide +kernel
theorem dX9_isTold_60 : decode cX9_isTold 60 = .ok (.iconst 2, 1) := by decide +kernel
theorem dX9_isTold_61 : decode cX9_isTold 61 = .ok (.aload_n 1, 1) := by decide +kernel
theorem dX9_isTold_62 : decode cX9_isTold 62 = .ok (.getfield 206, 3) := by decide +kernel
theorem dX9_isTold_65 : decode cX9_isTold 65 = .ok (.invokestatic 243, 3) := by decide +kernel
theorem dX9_isTold_68 : decode cX9_isTold 68 = .ok (.aload_n 1, 1) := by decide +kernel
theorem dX9_isTold_69 : decode cX9_isTold 69 = .ok (.getfield 209, 3) := by decide +kernel
theorem dX9_isTold_72 : decode cX9_isTold 72 = .ok (.iload 4, 2) := by decide +kernel
theorem dX9_isTold_74 : decode cX9_isTold 74 = .ok (.invokevirtual 285, 3) := by decide +kernel
theorem dX9_isTold_77 : decode cX9_isTold 77 = .ok (.lconst 0, 1) := by decide +kernel
theorem dX9_isTold_78 : decode cX9_isTold 78 = .ok (.lcmp, 1) := by decide +kernel
theorem dX9_isTold_79 : decode cX9_isTold 79 = .ok (.ifCond .le 7, 3) := by decide +kernel
theorem dX9_isTold_82 : decode cX9_isTold 82 = .ok (.iconst 1, 1) := by decide +kernel
theorem dX9_isTold_83 : decode cX9_isTold 83 = .ok (.goto 4, 3) := by decide +kernel
theorem dX9_isTold_86 : decode cX9_isTold 86 = .ok (.iconst 0, 1) := by decide +kernel
theorem dX9_isTold_87 : decode cX9_isTold 87 = .ok (.ireturn, 1) := by decide +kernel
theorem dX9_wordOf_0 : decode cX9_wordOf 0 = .ok (.iload_n 0, 1) := by decide +kernel
theorem dX9_wordOf_1 : decode cX9_wordOf 1 = .ok (.tableswitch 47 0 3 #[31, 35, 39, 43], 31) := by decide +kernel
theorem dX9_wordOf_32 : decode cX9_wordOf 32 = .ok (.ldc_w 413, 3) := by decide +kernel
theorem dX9_wordOf_35 : decode cX9_wordOf 35 = .ok (.areturn, 1) := by decide +kernel
theorem dX9_wordOf_36 : decode cX9_wordOf 36 = .ok (.ldc_w 415, 3) := by decide +kernel
theorem dX9_wordOf_39 : decode cX9_wordOf 39 = .ok (.areturn, 1) := by decide +kernel
theorem dX9_wordOf_40 : decode cX9_wordOf 40 = .ok (.ldc_w 417, 3) := by decide +kernel
theorem dX9_wordOf_43 : decode cX9_wordOf 43 = .ok (.areturn, 1) := by decide +kernel
theorem dX9_wordOf_44 : decode cX9_wordOf 44 = .ok (.ldc_w 418, 3) := by decide +kernel
theorem dX9_wordOf_47 : decode cX9_wordOf 47 = .ok (.areturn, 1) := by decide +kernel
theorem dX9_wordOf_48 : decode cX9_wordOf 48 = .ok (.ldc_w 419, 3) := by decide +kernel
theorem dX9_wordOf_51 : decode cX9_wordOf 51 = .ok (.areturn, 1) := by decide +kernel
