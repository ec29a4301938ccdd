theorem dX10_writesSign_16 : decode cX10_writesSign 16 = .ok (.iadd, 1) := by decide +kernel
theorem dX10_writesSign_17 : decode cX10_writesSign 17 = .ok (.putfield 291, 3) := by decide +kernel
theorem dX10_writesSign_20 : decode cX10_writesSign 20 = .ok (.return_, 1) := by decide +kernel
theorem dX10_writesWord_0 : decode cX10_writesWord 0 = .ok (.aload_n 0, 1) := by decide +kernel
theorem dX10_writesWord_1 : decode cX10_writesWord 1 = .ok (.iload_n 1, 1) := by decide +kernel
theorem dX10_writesWord_2 : decode cX10_writesWord 2 = .ok (.invokevirtual 294, 3) := by decide +kernel
theorem dX10_writesWord_5 : decode cX10_writesWord 5 = .ok (.istore_n 2, 1) := by decide +kernel
theorem dX10_writesWord_6 : decode cX10_writesWord 6 = .ok (.aload_n 0, 1) := by decide +kernel
theorem dX10_writesWord_7 : decode cX10_writesWord 7 = .ok (.getfield 55, 3) := by decide +kernel
theorem dX10_writesWord_10 : decode cX10_writesWord 10 = .ok (.iload_n 2, 1) := by decide +kernel
theorem dX10_writesWord_11 : decode cX10_writesWord 11 = .ok (.baload, 1) := by decide +kernel
theorem dX10_writesWord_12 : decode cX10_writesWord 12 = .ok (.ifCond .eq 19, 3) := by decide +kernel
theorem dX10_writesWord_15 : decode cX10_writesWord 15 = .ok (.aload_n 0, 1) := by decide +kernel
theorem dX10_writesWord_16 : decode cX10_writesWord 16 = .ok (.aload_n 0, 1) := by decide +kernel
theorem dX10_writesWord_17 : decode cX10_writesWord 17 = .ok (.getfield 55, 3) := by decide +kernel
theorem dX10_writesWord_20 : decode cX10_writesWord 20 = .ok (.iload_n 2, 1) := by decide +kernel
theorem dX10_writesWord_21 : decode cX10_writesWord 21 = .ok (.baload, 1) := by decide +kernel
theorem dX10_writesWord_22 : decode cX10_writesWord 22 = .ok (.invokevirtual 297, 3) := by decide +kernel
theorem dX10_writesWord_25 : decode cX10_writesWord 25 = .ok (.iinc 2 1, 3) := by decide +kernel
theorem dX10_writesWord_28 : decode cX10_writesWord 28 = .ok (.goto (-22), 3) := by decide +kernel
theorem dX10_writesWord_31 : decode cX10_writesWord 31 = .ok (.return_, 1) := by decide +kernel
theorem dX10_writesNumber_0 : decode cX10_writesNumber 0 = .ok (.aload_n 0, 1) := by decide +kernel
theorem dX10_writesNumber_1 : decode cX10_writesNumber 1 = .ok (.bipush 32, 2) := by decide +kernel
theorem dX10_writesNumber_3 : decode cX10_writesNumber 3 = .ok (.invokevirtual 297, 3) := by decide +kernel
theorem dX10_writesNumber_6 : decode cX10_writesNumber 6 = .ok (.iconst 1, 1) := by decide +kernel
theorem dX10_writesNumber_7 : decode cX10_writesNumber 7 = .ok (.istore_n 2, 1) := by decide +kernel
theorem dX10_writesNumber_8 : decode cX10_writesNumber 8 = .ok (.iload_n 1, 1) := by decide +kernel
theorem dX10_writesNumber_9 : decode cX10_writesNumber 9 = .ok (.iload_n 2, 1) := by decide +kernel
theorem dX10_writesNumber_10 : decode cX10_writesNumber 10 = .ok (.idiv, 1) := by decide +kernel
theorem dX10_writesNumber_11 : decode cX10_writesNumber 11 = .ok (.bipush 9, 2) := by decide +kernel
theorem dX10_writesNumber_13 : decode cX10_writesNumber 13 = .ok (.if_icmp .le 11, 3) := by decide +kernel
theorem dX10_writesNumber_16 : decode cX10_writesNumber 16 = .ok (.iload_n 2, 1) := by decide +kernel
theorem dX10_writesNumber_17 : decode cX10_writesNumber 17 = .ok (.bipush 10, 2) := by decide +kernel
theorem dX10_writesNumber_19 : decode cX10_writesNumber 19 = .ok (.imul, 1) := by decide +kernel
theorem dX10_writesNumber_20 : decode cX10_writesNumber 20 = .ok (.istore_n 2, 1) := by decide +kernel
theorem dX10_writesNumber_21 : decode cX10_writesNumber 21 = .ok (.goto (-13), 3) := by decide +kernel
theorem dX10_writesNumber_24 : decode cX10_writesNumber 24 = .ok (.iload_n 2, 1) := by decide +kernel
theorem dX10_writesNumber_25 : decode cX10_writesNumber 25 = .ok (.ifCond .le 24, 3) := by decide +kernel
theorem dX10_writesNumber_28 : decode cX10_writesNumber 28 = .ok (.aload_n 0, 1) := by decide +kernel
theorem dX10_writesNumber_29 : decode cX10_writesNumber 29 = .ok (.bipush 48, 2) := by decide +kernel
theorem dX10_writesNumber_31 : decode cX10_writesNumber 31 = .ok (.iload_n 1, 1) := by decide +kernel
theorem dX10_writesNumber_32 : decode cX10_writesNumber 32 = .ok (.iload_n 2, 1) := by decide +kernel
theorem dX10_writesNumber_33 : decode cX10_writesNumber 33 = .ok (.idiv, 1) := by decide +kernel
theorem dX10_writesNumber_34 : decode cX10_writesNumber 34 = .ok (.bipush 10, 2) := by decide +kernel
theorem dX10_writesNumber_36 : decode cX10_writesNumber 36 = .ok (.irem, 1) := by decide +kernel
theorem dX10_writesNumber_37 : decode cX10_writesNumber 37 = .ok (.iadd, 1) := by decide +kernel
theorem dX10_writesNumber_38 : decode cX10_writesNumber 38 = .ok (.invokevirtual 297, 3) := by decide +kernel
theorem dX10_writesNumber_41 : decode cX10_writesNumber 41 = .ok (.iload_n 2, 1) := by decide +kernel
theorem dX10_writesNumber_42 : decode cX10_writesNumber 42 = .ok (.bipush 10, 2) := by decide +kernel
theorem dX10_writesNumber_44 : decode cX10_writesNumber 44 = .ok (.idiv, 1) := by decide +kernel
theorem dX10_writesNumber_45 : decode cX10_writesNumber 45 = .ok (.istore_n 2, 1) := by decide +kernel
theorem dX10_writesNumber_46 : decode cX10_writesNumber 46 = .ok (.goto (-22), 3) := by decide +kernel
theorem dX10_writesNumber_49 : decode cX10_writesNumber 49 = .ok (.return_, 1) := by decide +kernel
theorem dX10_toldText_0 : decode cX10_toldText 0 = .ok (.iload_n 1, 1) := by decide +kernel
theorem dX10_toldText_1 : decode cX10_toldText 1 = .ok (.iconst (-1), 1) := by decide +kernel
theorem dX10_toldText_2 : decode cX10_toldText 2 = .ok (.if_icmp .ne 10, 3) := by decide +kernel
theorem dX10_toldText_5 : decode cX10_toldText 5 = .ok (.aload_n 0, 1) := by decide +kernel
theorem dX10_toldText_6 : decode cX10_toldText 6 = .ok (.getfield 291, 3) := by decide +kernel
theorem dX10_toldText_9 : decode cX10_toldText 9 = .ok (.goto 22, 3) := by decide +kernel
theorem dX10_toldText_12 : decode cX10_toldText 12 = .ok (.iload_n 1, 1) := by decide +kernel
theorem dX10_toldText_13 : decode cX10_toldText 13 = .ok (.aload_n 0, 1) := by decide +kernel
theorem dX10_toldText_14 : decode cX10_toldText 14 = .ok (.getfield 291, 3) := by decide +kernel
theorem dX10_toldText_17 : decode cX10_toldText 17 = .ok (.if_icmp .ge 12, 3) := by decide +kernel
theorem dX10_toldText_20 : decode cX10_toldText 20 = .ok (.aload_n 0, 1) := by decide +kernel
theorem dX10_toldText_21 : decode cX10_toldText 21 = .ok (.getfield 49, 3) := by decide +kernel
theorem dX10_toldText_24 : decode cX10_toldText 24 = .ok (.iload_n 1, 1) := by decide +kernel
theorem dX10_toldText_25 : decode cX10_toldText 25 = .ok (.iaload, 1) := by decide +kernel
theorem dX10_toldText_26 : decode cX10_toldText 26 = .ok (.goto 5, 3) := by decide +kernel
theorem dX10_toldText_29 : decode cX10_toldText 29 = .ok (.bipush (-2), 2) := by decide +kernel
theorem dX10_toldText_31 : decode cX10_toldText 31 = .ok (.ireturn, 1) := by decide +kernel
theorem dX10_writesRow_0 : decode cX10_writesRow 0 = .ok (.aload_n 0, 1) := by decide +kernel
theorem dX10_writesRow_1 : decode cX10_writesRow 1 = .ok (.iload_n 1, 1) := by decide +kernel
theorem dX10_writesRow_2 : decode cX10_writesRow 2 = .ok (.invokevirtual 300, 3) := by decide +kernel
theorem dX10_writesRow_5 : decode cX10_writesRow 5 = .ok (.iconst 0, 1) := by decide +kernel
theorem dX10_writesRow_6 : decode cX10_writesRow 6 = .ok (.istore 4, 2) := by decide +kernel
theorem dX10_writesRow_8 : decode cX10_writesRow 8 = .ok (.iload 4, 2) := by decide +kernel
theorem dX10_writesRow_10 : decode cX10_writesRow 10 = .ok (.iload_n 3, 1) := by decide +kernel
theorem dX10_writesRow_11 : decode cX10_writesRow 11 = .ok (.if_icmp .ge 22, 3) := by decide +kernel
theorem dX10_writesRow_14 : decode cX10_writesRow 14 = .ok (.aload_n 0, 1) := by decide +kernel
theorem dX10_writesRow_15 : decode cX10_writesRow 15 = .ok (.aload_n 0, 1) := by decide +kernel
theorem dX10_writesRow_16 : decode cX10_writesRow 16 = .ok (.getfield 13, 3) := by decide +kernel
theorem dX10_writesRow_19 : decode cX10_writesRow 19 = .ok (.iload_n 2, 1) := by decide +kernel
theorem dX10_writesRow_20 : decode cX10_writesRow 20 = .ok (.iload 4, 2) := by decide +kernel
theorem dX10_writesRow_22 : decode cX10_writesRow 22 = .ok (.iadd, 1) := by decide +kernel
theorem dX10_writesRow_23 : decode cX10_writesRow 23 = .ok (.iaload, 1) := by decide +kernel
theorem dX10_writesRow_24 : decode cX10_writesRow 24 = .ok (.invokevirtual 303, 3) := by decide +kernel
theorem dX10_writesRow_27 : decode cX10_writesRow 27 = .ok (.iinc 4 1, 3) := by decide +kernel
theorem dX10_writesRow_30 : decode cX10_writesRow 30 = .ok (.goto (-22), 3) := by decide +kernel
theorem dX10_writesRow_33 : decode cX10_writesRow 33 = .ok (.aload_n 0, 1) := by decide +kernel
theorem dX10_writesRow_34 : decode cX10_writesRow 34 = .ok (.bipush 59, 2) := by decide +kernel
theorem dX10_writesRow_36 : decode cX10_writesRow 36 = .ok (.invokevirtual 297, 3) := by decide +kernel
theorem dX10_writesRow_39 : decode cX10_writesRow 39 = .ok (.return_, 1) := by decide +kernel
theorem dX10_spell_0 : decode cX10_spell 0 = .ok (.iload_n 1, 1) := by decide +kernel
theorem dX10_spell_1 : decode cX10_spell 1 = .ok (.iconst (-1), 1) := by decide +kernel
theorem dX10_spell_2 : decode cX10_spell 2 = .ok (.if_icmp .ge 5, 3) := by decide +kernel
theorem dX10_spell_5 : decode cX10_spell 5 = .ok (.iconst (-1), 1) := by decide +kernel
theorem dX10_spell_6 : decode cX10_spell 6 = .ok (.ireturn, 1) := by decide +kernel
theorem dX10_spell_7 : decode cX10_spell 7 = .ok (.aload_n 0, 1) := by decide +kernel
theorem dX10_spell_8 : decode cX10_spell 8 = .ok (.iconst 0, 1) := by decide +kernel
theorem dX10_spell_9 : decode cX10_spell 9 = .ok (.putfield 291, 3) := by decide +kernel
theorem dX10_spell_12 : decode cX10_spell 12 = .ok (.iconst 0, 1) := by decide +kernel
theorem dX10_spell_13 : decode cX10_spell 13 = .ok (.istore_n 2, 1) := by decide +kernel
theorem dX10_spell_14 : decode cX10_spell 14 = .ok (.iload_n 2, 1) := by decide +kernel
theorem dX10_spell_15 : decode cX10_spell 15 = .ok (.aload_n 0, 1) := by decide +kernel
theorem dX10_spell_16 : decode cX10_spell 16 = .ok (.getfield 13, 3) := by decide +kernel
theorem dX10_spell_19 : decode cX10_spell 19 = .ok (.iconst 0, 1) := by decide +kernel
theorem dX10_spell_20 : decode cX10_spell 20 = .ok (.iaload, 1) := by decide +kernel
theorem dX10_spell_21 : decode cX10_spell 21 = .ok (.if_icmp .ge 20, 3) := by decide +kernel
theorem dX10_spell_24 : decode cX10_spell 24 = .ok (.aload_n 0, 1) := by decide +kernel
theorem dX10_spell_25 : decode cX10_spell 25 = .ok (.iconst 0, 1) := by decide +kernel
theorem dX10_spell_26 : decode cX10_spell 26 = .ok (.iconst 5, 1) := by decide +kernel
theorem dX10_spell_27 : decode cX10_spell 27 = .ok (.iconst 5, 1) := by decide +kernel
theorem dX10_spell_28 : decode cX10_spell 28 = .ok (.iload_n 2, 1) := by decide +kernel
theorem dX10_spell_29 : decode cX10_spell 29 = .ok (.imul, 1) := by decide +kernel
theorem dX10_spell_30 : decode cX10_spell 30 = .ok (.iadd, 1) := by decide +kernel
theorem dX10_spell_31 : decode cX10_spell 31 = .ok (.iconst 5, 1) := by decide +kernel
theorem dX10_spell_32 : decode cX10_spell 32 = .ok (.invokevirtual 306, 3) := by decide +kernel
theorem dX10_spell_35 : decode cX10_spell 35 = .ok (.iinc 2 1, 3) := by decide +kernel
theorem dX10_spell_38 : decode cX10_spell 38 = .ok (.goto (-24), 3) := by decide +kernel
theorem dX10_spell_41 : decode cX10_spell 41 = .ok (.iconst 0, 1) := by decide +kernel
theorem dX10_spell_42 : decode cX10_spell 42 = .ok (.istore_n 2, 1) := by decide +kernel
theorem dX10_spell_43 : decode cX10_spell 43 = .ok (.iload_n 2, 1) := by decide +kernel
theorem dX10_spell_44 : decode cX10_spell 44 = .ok (.aload_n 0, 1) := by decide +kernel
theorem dX10_spell_45 : decode cX10_spell 45 = .ok (.getfield 13, 3) := by decide +kernel
theorem dX10_spell_48 : decode cX10_spell 48 = .ok (.iconst 1, 1) := by decide +kernel
theorem dX10_spell_49 : decode cX10_spell 49 = .ok (.iaload, 1) := by decide +kernel
theorem dX10_spell_50 : decode cX10_spell 50 = .ok (.if_icmp .ge 21, 3) := by decide +kernel
theorem dX10_spell_53 : decode cX10_spell 53 = .ok (.aload_n 0, 1) := by decide +kernel
theorem dX10_spell_54 : decode cX10_spell 54 = .ok (.iconst 1, 1) := by decide +kernel
theorem dX10_spell_55 : decode cX10_spell 55 = .ok (.bipush 45, 2) := by decide +kernel
theorem dX10_spell_57 : decode cX10_spell 57 = .ok (.iconst 2, 1) := by decide +kernel
theorem dX10_spell_58 : decode cX10_spell 58 = .ok (.iload_n 2, 1) := by decide +kernel
theorem dX10_spell_59 : decode cX10_spell 59 = .ok (.imul, 1) := by decide +kernel
theorem dX10_spell_60 : decode cX10_spell 60 = .ok (.iadd, 1) := by decide +kernel
theorem dX10_spell_61 : decode cX10_spell 61 = .ok (.iconst 2, 1) := by decide +kernel
theorem dX10_spell_62 : decode cX10_spell 62 = .ok (.invokevirtual 306, 3) := by decide +kernel
theorem dX10_spell_65 : decode cX10_spell 65 = .ok (.iinc 2 1, 3) := by decide +kernel
theorem dX10_spell_68 : decode cX10_spell 68 = .ok (.goto (-25), 3) := by decide +kernel
theorem dX10_spell_71 : decode cX10_spell 71 = .ok (.aload_n 0, 1) := by decide +kernel
theorem dX10_spell_72 : decode cX10_spell 72 = .ok (.iconst 2, 1) := by decide +kernel
theorem dX10_spell_73 : decode cX10_spell 73 = .ok (.iconst 2, 1) := by decide +kernel
theorem dX10_spell_74 : decode cX10_spell 74 = .ok (.iconst 1, 1) := by decide +kernel
theorem dX10_spell_75 : decode cX10_spell 75 = .ok (.invokevirtual 306, 3) := by decide +kernel
theorem dX10_spell_78 : decode cX10_spell 78 = .ok (.aload_n 0, 1) := by decide +kernel
theorem dX10_spell_79 : decode cX10_spell 79 = .ok (.iconst 3, 1) := by decide +kernel
theorem dX10_spell_80 : decode cX10_spell 80 = .ok (.iconst 3, 1) := by decide +kernel
theorem dX10_spell_81 : decode cX10_spell 81 = .ok (.iconst 1, 1) := by decide +kernel
theorem dX10_spell_82 : decode cX10_spell 82 = .ok (.invokevirtual 306, 3) := by decide +kernel
theorem dX10_spell_85 : decode cX10_spell 85 = .ok (.aload_n 0, 1) := by decide +kernel
theorem dX10_spell_86 : decode cX10_spell 86 = .ok (.iconst 4, 1) := by decide +kernel
theorem dX10_spell_87 : decode cX10_spell 87 = .ok (.iconst 4, 1) := by decide +kernel
theorem dX10_spell_88 : decode cX10_spell 88 = .ok (.iconst 1, 1) := by decide +kernel
theorem dX10_spell_89 : decode cX10_spell 89 = .ok (.invokevirtual 306, 3) := by decide +kernel
theorem dX10_spell_92 : decode cX10_spell 92 = .ok (.aload_n 0, 1) := by decide +kernel
theorem dX10_spell_93 : decode cX10_spell 93 = .ok (.iload_n 1, 1) := by decide +kernel
theorem dX10_spell_94 : decode cX10_spell 94 = .ok (.invokevirtual 310, 3) := by decide +kernel
theorem dX10_spell_97 : decode cX10_spell 97 = .ok (.ireturn, 1) := by decide +kernel
theorem dX10_writesAdvice_0 : decode cX10_writesAdvice 0 = .ok (.aload_n 0, 1) := by decide +kernel
theorem dX10_writesAdvice_1 : decode cX10_writesAdvice 1 = .ok (.iconst 0, 1) := by decide +kernel
theorem dX10_writesAdvice_2 : decode cX10_writesAdvice 2 = .ok (.invokevirtual 300, 3) := by decide +kernel
theorem dX10_writesAdvice_5 : decode cX10_writesAdvice 5 = .ok (.aload_n 0, 1) := by decide +kernel
theorem dX10_writesAdvice_6 : decode cX10_writesAdvice 6 = .ok (.iload_n 2, 1) := by decide +kernel
theorem dX10_writesAdvice_7 : decode cX10_writesAdvice 7 = .ok (.invokevirtual 303, 3) := by decide +kernel
theorem dX10_writesAdvice_10 : decode cX10_writesAdvice 10 = .ok (.aload_n 0, 1) := by decide +kernel
theorem dX10_writesAdvice_11 : decode cX10_writesAdvice 11 = .ok (.iload_n 1, 1) := by decide +kernel
theorem dX10_writesAdvice_12 : decode cX10_writesAdvice 12 = .ok (.iload_n 2, 1) := by decide +kernel
theorem dX10_writesAdvice_13 : decode cX10_writesAdvice 13 = .ok (.invokevirtual 146, 3) := by decide +kernel
theorem dX10_writesAdvice_16 : decode cX10_writesAdvice 16 = .ok (.istore_n 3, 1) := by decide +kernel
theorem dX10_writesAdvice_17 : decode cX10_writesAdvice 17 = .ok (.iload_n 3, 1) := by decide +kernel
theorem dX10_writesAdvice_18 : decode cX10_writesAdvice 18 = .ok (.ifCond .eq 14, 3) := by decide +kernel
theorem dX10_writesAdvice_21 : decode cX10_writesAdvice 21 = .ok (.aload_n 0, 1) := by decide +kernel
theorem dX10_writesAdvice_22 : decode cX10_writesAdvice 22 = .ok (.bipush 32, 2) := by decide +kernel
theorem dX10_writesAdvice_24 : decode cX10_writesAdvice 24 = .ok (.invokevirtual 297, 3) := by decide +kernel
theorem dX10_writesAdvice_27 : decode cX10_writesAdvice 27 = .ok (.aload_n 0, 1) := by decide +kernel
theorem dX10_writesAdvice_28 : decode cX10_writesAdvice 28 = .ok (.iconst 5, 1) := by decide +kernel
theorem dX10_writesAdvice_29 : decode cX10_writesAdvice 29 = .ok (.invokevirtual 300, 3) := by decide +kernel
theorem dX10_writesAdvice_32 : decode cX10_writesAdvice 32 = .ok (.aload_n 0, 1) := by decide +kernel
theorem dX10_writesAdvice_33 : decode cX10_writesAdvice 33 = .ok (.iload_n 1, 1) := by decide +kernel
theorem dX10_writesAdvice_34 : decode cX10_writesAdvice 34 = .ok (.iload_n 2, 1) := by decide +kernel
theorem dX10_writesAdvice_35 : decode cX10_writesAdvice 35 = .ok (.invokevirtual 152, 3) := by decide +kernel
theorem dX10_writesAdvice_38 : decode cX10_writesAdvice 38 = .ok (.aload_n 0, 1) := by decide +kernel
theorem dX10_writesAdvice_39 : decode cX10_writesAdvice 39 = .ok (.iconst 0, 1) := by decide +kernel
theorem dX10_writesAdvice_40 : decode cX10_writesAdvice 40 = .ok (.iconst 0, 1) := by decide +kernel
theorem dX10_writesAdvice_41 : decode cX10_writesAdvice 41 = .ok (.iload_n 3, 1) := by decide +kernel
theorem dX10_writesAdvice_42 : decode cX10_writesAdvice 42 = .ok (.ifCond .eq 7, 3) := by decide +kernel
theorem dX10_writesAdvice_45 : decode cX10_writesAdvice 45 = .ok (.iconst 1, 1) := by decide +kernel
theorem dX10_writesAdvice_46 : decode cX10_writesAdvice 46 = .ok (.goto 4, 3) := by decide +kernel
theorem dX10_writesAdvice_49 : decode cX10_writesAdvice 49 = .ok (.iconst 0, 1) := by decide +kernel
theorem dX10_writesAdvice_50 : decode cX10_writesAdvice 50 = .ok (.invokevirtual 241, 3) := by decide +kernel
theorem dX10_writesAdvice_53 : decode cX10_writesAdvice 53 = .ok (.istore 4, 2) := by decide +kernel
theorem dX10_writesAdvice_55 : decode cX10_writesAdvice 55 = .ok (.aload_n 0, 1) := by decide +kernel
theorem dX10_writesAdvice_56 : decode cX10_writesAdvice 56 = .ok (.bipush 32, 2) := by decide +kernel
theorem dX10_writesAdvice_58 : decode cX10_writesAdvice 58 = .ok (.invokevirtual 297, 3) := by decide +kernel
theorem dX10_writesAdvice_61 : decode cX10_writesAdvice 61 = .ok (.aload_n 0, 1) := by decide +kernel
theorem dX10_writesAdvice_62 : decode cX10_writesAdvice 62 = .ok (.iload 4, 2) := by decide +kernel
theorem dX10_writesAdvice_64 : decode cX10_writesAdvice 64 = .ok (.bipush (-2), 2) := by decide +kernel
theorem dX10_writesAdvice_66 : decode cX10_writesAdvice 66 = .ok (.if_icmp .ne 8, 3) := by decide +kernel
theorem dX10_writesAdvice_69 : decode cX10_writesAdvice 69 = .ok (.bipush 7, 2) := by decide +kernel
theorem dX10_writesAdvice_71 : decode cX10_writesAdvice 71 = .ok (.goto 5, 3) := by decide +kernel
theorem dX10_writesAdvice_74 : decode cX10_writesAdvice 74 = .ok (.bipush 6, 2) := by decide +kernel
theorem dX10_writesAdvice_76 : decode cX10_writesAdvice 76 = .ok (.invokevirtual 300, 3) := by decide +kernel
theorem dX10_writesAdvice_79 : decode cX10_writesAdvice 79 = .ok (.iload 4, 2) := by decide +kernel
theorem dX10_writesAdvice_81 : decode cX10_writesAdvice 81 = .ok (.bipush (-2), 2) := by decide +kernel
theorem dX10_writesAdvice_83 : decode cX10_writesAdvice 83 = .ok (.if_icmp .eq 9, 3) := by decide +kernel
theorem dX10_writesAdvice_86 : decode cX10_writesAdvice 86 = .ok (.aload_n 0, 1) := by decide +kernel
theorem dX10_writesAdvice_87 : decode cX10_writesAdvice 87 = .ok (.iload 4, 2) := by decide +kernel
theorem dX10_writesAdvice_89 : decode cX10_writesAdvice 89 = .ok (.invokevirtual 303, 3) := by decide +kernel
theorem dX10_writesAdvice_92 : decode cX10_writesAdvice 92 = .ok (.aload_n 0, 1) := by decide +kernel
theorem dX10_writesAdvice_93 : decode cX10_writesAdvice 93 = .ok (.bipush 59, 2) := by decide +kernel
theorem dX10_writesAdvice_95 : decode cX10_writesAdvice 95 = .ok (.invokevirtual 297, 3) := by decide +kernel
theorem dX10_writesAdvice_98 : decode cX10_writesAdvice 98 = .ok (.return_, 1) := by decide +kernel
theorem dX10_report_0 : decode cX10_report 0 = .ok (.iload_n 1, 1) := by decide +kernel
theorem dX10_report_1 : decode cX10_report 1 = .ok (.i2l, 1) := by decide +kernel
theorem dX10_report_2 : decode cX10_report 2 = .ok (.lconst 1, 1) := by decide +kernel
theorem dX10_report_3 : decode cX10_report 3 = .ok (.ldc2_w 163, 3) := by decide +kernel
theorem dX10_report_6 : decode cX10_report 6 = .ok (.invokestatic 66, 3) := by decide +kernel
theorem dX10_report_9 : decode cX10_report 9 = .ok (.ifCond .eq 17, 3) := by decide +kernel
theorem dX10_report_12 : decode cX10_report 12 = .ok (.iload_n 2, 1) := by decide +kernel
theorem dX10_report_13 : decode cX10_report 13 = .ok (.iconst (-1), 1) := by decide +kernel
theorem dX10_report_14 : decode cX10_report 14 = .ok (.if_icmp .lt 12, 3) := by decide +kernel
theorem dX10_report_17 : decode cX10_report 17 = .ok (.aload_n 0, 1) := by decide +kernel
theorem dX10_report_18 : decode cX10_report 18 = .ok (.getfield 13, 3) := by decide +kernel
theorem dX10_report_21 : decode cX10_report 21 = .ok (.iconst 0, 1) := by decide +kernel
theorem dX10_report_22 : decode cX10_report 22 = .ok (.iaload, 1) := by decide +kernel
theorem dX10_report_23 : decode cX10_report 23 = .ok (.ifCond .ne 5, 3) := by decide +kernel
theorem dX10_report_26 : decode cX10_report 26 = .ok (.iconst (-1), 1) := by decide +kernel
theorem dX10_report_27 : decode cX10_report 27 = .ok (.ireturn, 1) := by decide +kernel
theorem dX10_report_28 : decode cX10_report 28 = .ok (.aload_n 0, 1) := by decide +kernel
theorem dX10_report_29 : decode cX10_report 29 = .ok (.iconst 0, 1) := by decide +kernel
theorem dX10_report_30 : decode cX10_report 30 = .ok (.putfield 291, 3) := by decide +kernel
theorem dX10_report_33 : decode cX10_report 33 = .ok (.aload_n 0, 1) := by decide +kernel
theorem dX10_report_34 : decode cX10_report 34 = .ok (.iload_n 1, 1) := by decide +kernel
theorem dX10_report_35 : decode cX10_report 35 = .ok (.iconst 1, 1) := by decide +kernel
theorem dX10_report_36 : decode cX10_report 36 = .ok (.iconst 0, 1) := by decide +kernel
theorem dX10_report_37 : decode cX10_report 37 = .ok (.iconst 0, 1) := by decide +kernel
theorem dX10_report_38 : decode cX10_report 38 = .ok (.invokevirtual 142, 3) := by decide +kernel
theorem dX10_report_41 : decode cX10_report 41 = .ok (.iconst 0, 1) := by decide +kernel
theorem dX10_report_42 : decode cX10_report 42 = .ok (.istore_n 3, 1) := by decide +kernel
theorem dX10_report_43 : decode cX10_report 43 = .ok (.iload_n 3, 1) := by decide +kernel
theorem dX10_report_44 : decode cX10_report 44 = .ok (.aload_n 0, 1) := by decide +kernel
theorem dX10_report_45 : decode cX10_report 45 = .ok (.getfield 13, 3) := by decide +kernel
theorem dX10_report_48 : decode cX10_report 48 = .ok (.iconst 0, 1) := by decide +kernel
theorem dX10_report_49 : decode cX10_report 49 = .ok (.iaload, 1) := by decide +kernel
theorem dX10_report_50 : decode cX10_report 50 = .ok (.if_icmp .ge 15, 3) := by decide +kernel
theorem dX10_report_53 : decode cX10_report 53 = .ok (.aload_n 0, 1) := by decide +kernel
theorem dX10_report_54 : decode cX10_report 54 = .ok (.iload_n 1, 1) := by decide +kernel
theorem dX10_report_55 : decode cX10_report 55 = .ok (.iload_n 3, 1) := by decide +kernel
theorem dX10_report_56 : decode cX10_report 56 = .ok (.invokevirtual 313, 3) := by decide +kernel
theorem dX10_report_59 : decode cX10_report 59 = .ok (.iinc 3 1, 3) := by decide +kernel
theorem dX10_report_62 : decode cX10_report 62 = .ok (.goto (-19), 3) := by decide +kernel
theorem dX10_report_65 : decode cX10_report 65 = .ok (.aload_n 0, 1) := by decide +kernel
theorem dX10_report_66 : decode cX10_report 66 = .ok (.iload_n 2, 1) := by decide +kernel
theorem dX10_report_67 : decode cX10_report 67 = .ok (.invokevirtual 310, 3) := by decide +kernel
theorem dX10_report_70 : decode cX10_report 70 = .ok (.ireturn, 1) := by decide +kernel
theorem dX10_count_0 : decode cX10_count 0 = .ok (.iload_n 1, 1) := by decide +kernel
theorem dX10_count_1 : decode cX10_count 1 = .ok (.tableswitch 121 0 9 #[55, 62, 69, 76, 83, 90, 95, 100, 105, 113], 55) := by decide +kernel
theorem dX10_count_56 : decode cX10_count 56 = .ok (.aload_n 0, 1) := by decide +kernel
theorem dX10_count_57 : decode cX10_count 57 = .ok (.getfield 13, 3) := by decide +kernel
theorem dX10_count_60 : decode cX10_count 60 = .ok (.iconst 0, 1) := by decide +kernel
theorem dX10_count_61 : decode cX10_count 61 = .ok (.iaload, 1) := by decide +kernel
theorem dX10_count_62 : decode cX10_count 62 = .ok (.ireturn, 1) := by decide +kernel
theorem dX10_count_63 : decode cX10_count 63 = .ok (.aload_n 0, 1) := by decide +kernel
theorem dX10_count_64 : decode cX10_count 64 = .ok (.getfield 13, 3) := by decide +kernel
theorem dX10_count_67 : decode cX10_count 67 = .ok (.iconst 1, 1) := by decide +kernel
theorem dX10_count_68 : decode cX10_count 68 = .ok (.iaload, 1) := by decide +kernel
theorem dX10_count_69 : decode cX10_count 69 = .ok (.ireturn, 1) := by decide +kernel
theorem dX10_count_70 : decode cX10_count 70 = .ok (.aload_n 0, 1) := by decide +kernel
theorem dX10_count_71 : decode cX10_count 71 = .ok (.getfield 13, 3) := by decide +kernel
theorem dX10_count_74 : decode cX10_count 74 = .ok (.iconst 2, 1) := by decide +kernel
theorem dX10_count_75 : decode cX10_count 75 = .ok (.iaload, 1) := by decide +kernel
theorem dX10_count_76 : decode cX10_count 76 = .ok (.ireturn, 1) := by decide +kernel
theorem dX10_count_77 : decode cX10_count 77 = .ok (.aload_n 0, 1) := by decide +kernel
theorem dX10_count_78 : decode cX10_count 78 = .ok (.getfield 13, 3) := by decide +kernel
theorem dX10_count_81 : decode cX10_count 81 = .ok (.iconst 3, 1) := by decide +kernel
theorem dX10_count_82 : decode cX10_count 82 = .ok (.iaload, 1) := by decide +kernel
theorem dX10_count_83 : decode cX10_count 83 = .ok (.ireturn, 1) := by decide +kernel
theorem dX10_count_84 : decode cX10_count 84 = .ok (.aload_n 0, 1) := by decide +kernel
theorem dX10_count_85 : decode cX10_count 85 = .ok (.getfield 13, 3) := by decide +kernel
theorem dX10_count_88 : decode cX10_count 88 = .ok (.iconst 4, 1) := by decide +kernel
theorem dX10_count_89 : decode cX10_count 89 = .ok (.iaload, 1) := by decide +kernel
theorem dX10_count_90 : decode cX10_count 90 = .ok (.ireturn, 1) := by decide +kernel
theorem dX10_count_91 : decode cX10_count 91 = .ok (.aload_n 0, 1) := by decide +kernel
theorem dX10_count_92 : decode cX10_count 92 = .ok (.getfield 63, 3) := by decide +kernel
theorem dX10_count_95 : decode cX10_count 95 = .ok (.ireturn, 1) := by decide +kernel
theorem dX10_count_96 : decode cX10_count 96 = .ok (.aload_n 0, 1) := by decide +kernel
theorem dX10_count_97 : decode cX10_count 97 = .ok (.getfield 316, 3) := by decide +kernel
theorem dX10_count_100 : decode cX10_count 100 = .ok (.ireturn, 1) := by decide +kernel
theorem dX10_count_101 : decode cX10_count 101 = .ok (.aload_n 0, 1) := by decide +kernel
theorem dX10_count_102 : decode cX10_count 102 = .ok (.invokevirtual 135, 3) := by decide +kernel
theorem dX10_count_105 : decode cX10_count 105 = .ok (.ireturn, 1) := by decide +kernel
theorem dX10_count_106 : decode cX10_count 106 = .ok (.aload_n 0, 1) := by decide +kernel
theorem dX10_count_107 : decode cX10_count 107 = .ok (.getfield 13, 3) := by decide +kernel
theorem dX10_count_110 : decode cX10_count 110 = .ok (.bipush 69, 2) := by decide +kernel
theorem dX10_count_112 : decode cX10_count 112 = .ok (.iaload, 1) := by decide +kernel
theorem dX10_count_113 : decode cX10_count 113 = .ok (.ireturn, 1) := by decide +kernel
theorem dX10_count_114 : decode cX10_count 114 = .ok (.aload_n 0, 1) := by decide +kernel
theorem dX10_count_115 : decode cX10_count 115 = .ok (.getfield 13, 3) := by decide +kernel
theorem dX10_count_118 : decode cX10_count 118 = .ok (.bipush 118, 2) := by decide +kernel
theorem dX10_count_120 : decode cX10_count 120 = .ok (.iaload, 1) := by decide +kernel
theorem dX10_count_121 : decode cX10_count 121 = .ok (.ireturn, 1) := by decide +kernel
theorem dX10_count_122 : decode cX10_count 122 = .ok (.iconst (-1), 1) := by decide +kernel
theorem dX10_count_123 : decode cX10_count 123 = .ok (.ireturn, 1) := by decide +kernel
theorem dX10_feed_0 : decode cX10_feed 0 = .ok (.aload_n 0, 1) := by decide +kernel
theorem dX10_feed_1 : decode cX10_feed 1 = .ok (.getfield 316, 3) := by decide +kernel
theorem dX10_feed_4 : decode cX10_feed 4 = .ok (.bipush 20, 2) := by decide +kernel
theorem dX10_feed_6 : decode cX10_feed 6 = .ok (.iadd, 1) := by decide +kernel
theorem dX10_feed_7 : decode cX10_feed 7 = .ok (.sipush 400, 3) := by decide +kernel
theorem dX10_feed_10 : decode cX10_feed 10 = .ok (.if_icmp .le 5, 3) := by decide +kernel
theorem dX10_feed_13 : decode cX10_feed 13 = .ok (.iconst (-1), 1) := by decide +kernel
theorem dX10_feed_14 : decode cX10_feed 14 = .ok (.ireturn, 1) := by decide +kernel
theorem dX10_feed_15 : decode cX10_feed 15 = .ok (.iconst 0, 1) := by decide +kernel
theorem dX10_feed_16 : decode cX10_feed 16 = .ok (.istore 6, 2) := by decide +kernel
theorem dX10_feed_18 : decode cX10_feed 18 = .ok (.iload 6, 2) := by decide +kernel
theorem dX10_feed_20 : decode cX10_feed 20 = .ok (.bipush 20, 2) := by decide +kernel
theorem dX10_feed_22 : decode cX10_feed 22 = .ok (.if_icmp .ge 93, 3) := by decide +kernel
theorem dX10_feed_25 : decode cX10_feed 25 = .ok (.iload 6, 2) := by decide +kernel
theorem dX10_feed_27 : decode cX10_feed 27 = .ok (.iconst 4, 1) := by decide +kernel
theorem dX10_feed_28 : decode cX10_feed 28 = .ok (.if_icmp .ge 7, 3) := by decide +kernel
theorem dX10_feed_31 : decode cX10_feed 31 = .ok (.iload_n 1, 1) := by decide +kernel
theorem dX10_feed_32 : decode cX10_feed 32 = .ok (.goto 39, 3) := by decide +kernel
theorem dX10_feed_35 : decode cX10_feed 35 = .ok (.iload 6, 2) := by decide +kernel
theorem dX10_feed_37 : decode cX10_feed 37 = .ok (.bipush 8, 2) := by decide +kernel
theorem dX10_feed_39 : decode cX10_feed 39 = .ok (.if_icmp .ge 7, 3) := by decide +kernel
theorem dX10_feed_42 : decode cX10_feed 42 = .ok (.iload_n 2, 1) := by decide +kernel
theorem dX10_feed_43 : decode cX10_feed 43 = .ok (.goto 28, 3) := by decide +kernel
theorem dX10_feed_46 : decode cX10_feed 46 = .ok (.iload 6, 2) := by decide +kernel
theorem dX10_feed_48 : decode cX10_feed 48 = .ok (.bipush 12, 2) := by decide +kernel
theorem dX10_feed_50 : decode cX10_feed 50 = .ok (.if_icmp .ge 7, 3) := by decide +kernel
theorem dX10_feed_53 : decode cX10_feed 53 = .ok (.iload_n 3, 1) := by decide +kernel
theorem dX10_feed_54 : decode cX10_feed 54 = .ok (.goto 17, 3) := by decide +kernel
theorem dX10_feed_57 : decode cX10_feed 57 = .ok (.iload 6, 2) := by decide +kernel
theorem dX10_feed_59 : decode cX10_feed 59 = .ok (.bipush 16, 2) := by decide +kernel
theorem dX10_feed_61 : decode cX10_feed 61 = .ok (.if_icmp .ge 8, 3) := by decide +kernel
theorem dX10_feed_64 : decode cX10_feed 64 = .ok (.iload 4, 2) := by decide +kernel
theorem dX10_feed_66 : decode cX10_feed 66 = .ok (.goto 5, 3) := by decide +kernel
theorem dX10_feed_69 : decode cX10_feed 69 = .ok (.iload 5, 2) := by decide +kernel
theorem dX10_feed_71 : decode cX10_feed 71 = .ok (.istore 7, 2) := by decide +kernel
theorem dX10_feed_73 : decode cX10_feed 73 = .ok (.aload_n 0, 1) := by decide +kernel
theorem dX10_feed_74 : decode cX10_feed 74 = .ok (.getfield 52, 3) := by decide +kernel
theorem dX10_feed_77 : decode cX10_feed 77 = .ok (.aload_n 0, 1) := by decide +kernel
theorem dX10_feed_78 : decode cX10_feed 78 = .ok (.getfield 316, 3) := by decide +kernel
theorem dX10_feed_81 : decode cX10_feed 81 = .ok (.iload 7, 2) := by decide +kernel
theorem dX10_feed_83 : decode cX10_feed 83 = .ok (.bipush 24, 2) := by decide +kernel
theorem dX10_feed_85 : decode cX10_feed 85 = .ok (.bipush 8, 2) := by decide +kernel
theorem dX10_feed_87 : decode cX10_feed 87 = .ok (.iload 6, 2) := by decide +kernel
theorem dX10_feed_89 : decode cX10_feed 89 = .ok (.iconst 4, 1) := by decide +kernel
theorem dX10_feed_90 : decode cX10_feed 90 = .ok (.irem, 1) := by decide +kernel
theorem dX10_feed_91 : decode cX10_feed 91 = .ok (.imul, 1) := by decide +kernel
theorem dX10_feed_92 : decode cX10_feed 92 = .ok (.isub, 1) := by decide +kernel
theorem dX10_feed_93 : decode cX10_feed 93 = .ok (.ishr, 1) := by decide +kernel
theorem dX10_feed_94 : decode cX10_feed 94 = .ok (.sipush 255, 3) := by decide +kernel
theorem dX10_feed_97 : decode cX10_feed 97 = .ok (.iand, 1) := by decide +kernel
theorem dX10_feed_98 : decode cX10_feed 98 = .ok (.iastore, 1) := by decide +kernel
theorem dX10_feed_99 : decode cX10_feed 99 = .ok (.aload_n 0, 1) := by decide +kernel
theorem dX10_feed_100 : decode cX10_feed 100 = .ok (.dup, 1) := by decide +kernel
theorem dX10_feed_101 : decode cX10_feed 101 = .ok (.getfield 316, 3) := by decide +kernel
theorem dX10_feed_104 : decode cX10_feed 104 = .ok (.iconst 1, 1) := by decide +kernel
theorem dX10_feed_105 : decode cX10_feed 105 = .ok (.iadd, 1) := by decide +kernel
theorem dX10_feed_106 : decode cX10_feed 106 = .ok (.putfield 316, 3) := by decide +kernel
theorem dX10_feed_109 : decode cX10_feed 109 = .ok (.iinc 6 1, 3) := by decide +kernel
theorem dX10_feed_112 : decode cX10_feed 112 = .ok (.goto (-94), 3) := by decide +kernel
theorem dX10_feed_115 : decode cX10_feed 115 = .ok (.aload_n 0, 1) := by decide +kernel
theorem dX10_feed_116 : decode cX10_feed 116 = .ok (.getfield 316, 3) := by decide +kernel
theorem dX10_feed_119 : decode cX10_feed 119 = .ok (.ireturn, 1) := by decide +kernel
theorem dX10_back_0 : decode cX10_back 0 = .ok (.iload_n 1, 1) := by decide +kernel
theorem dX10_back_1 : decode cX10_back 1 = .ok (.i2l, 1) := by decide +kernel
theorem dX10_back_2 : decode cX10_back 2 = .ok (.lconst 0, 1) := by decide +kernel
theorem dX10_back_3 : decode cX10_back 3 = .ok (.aload_n 0, 1) := by decide +kernel
theorem dX10_back_4 : decode cX10_back 4 = .ok (.getfield 316, 3) := by decide +kernel
theorem dX10_back_7 : decode cX10_back 7 = .ok (.i2l, 1) := by decide +kernel
theorem dX10_back_8 : decode cX10_back 8 = .ok (.invokestatic 66, 3) := by decide +kernel
theorem dX10_back_11 : decode cX10_back 11 = .ok (.ifCond .ne 5, 3) := by decide +kernel
theorem dX10_back_14 : decode cX10_back 14 = .ok (.iconst (-1), 1) := by decide +kernel
theorem dX10_back_15 : decode cX10_back 15 = .ok (.ireturn, 1) := by decide +kernel
theorem dX10_back_16 : decode cX10_back 16 = .ok (.aload_n 0, 1) := by decide +kernel
theorem dX10_back_17 : decode cX10_back 17 = .ok (.dup, 1) := by decide +kernel
theorem dX10_back_18 : decode cX10_back 18 = .ok (.getfield 316, 3) := by decide +kernel
theorem dX10_back_21 : decode cX10_back 21 = .ok (.iload_n 1, 1) := by decide +kernel
theorem dX10_back_22 : decode cX10_back 22 = .ok (.isub, 1) := by decide +kernel
theorem dX10_back_23 : decode cX10_back 23 = .ok (.putfield 316, 3) := by decide +kernel
theorem dX10_back_26 : decode cX10_back 26 = .ok (.aload_n 0, 1) := by decide +kernel
theorem dX10_back_27 : decode cX10_back 27 = .ok (.getfield 316, 3) := by decide +kernel
theorem dX10_back_30 : decode cX10_back 30 = .ok (.ireturn, 1) := by decide +kernel
theorem dX10_wordFrom_0 : decode cX10_wordFrom 0 = .ok (.iconst 0, 1) := by decide +kernel
theorem dX10_wordFrom_1 : decode cX10_wordFrom 1 = .ok (.istore_n 2, 1) := by decide +kernel
theorem dX10_wordFrom_2 : decode cX10_wordFrom 2 = .ok (.iload_n 1, 1) := by decide +kernel
theorem dX10_wordFrom_3 : decode cX10_wordFrom 3 = .ok (.istore_n 3, 1) := by decide +kernel
theorem dX10_wordFrom_4 : decode cX10_wordFrom 4 = .ok (.iload_n 3, 1) := by decide +kernel
theorem dX10_wordFrom_5 : decode cX10_wordFrom 5 = .ok (.ifCond .le 21, 3) := by decide +kernel
theorem dX10_wordFrom_8 : decode cX10_wordFrom 8 = .ok (.aload_n 0, 1) := by decide +kernel
theorem dX10_wordFrom_9 : decode cX10_wordFrom 9 = .ok (.getfield 55, 3) := by decide +kernel
theorem dX10_wordFrom_12 : decode cX10_wordFrom 12 = .ok (.iload_n 2, 1) := by decide +kernel
theorem dX10_wordFrom_13 : decode cX10_wordFrom 13 = .ok (.baload, 1) := by decide +kernel
theorem dX10_wordFrom_14 : decode cX10_wordFrom 14 = .ok (.ifCond .ne 6, 3) := by decide +kernel
theorem dX10_wordFrom_17 : decode cX10_wordFrom 17 = .ok (.iinc 3 (-1), 3) := by decide +kernel
theorem dX10_wordFrom_20 : decode cX10_wordFrom 20 = .ok (.iinc 2 1, 3) := by decide +kernel
theorem dX10_wordFrom_23 : decode cX10_wordFrom 23 = .ok (.goto (-19), 3) := by decide +kernel
theorem dX10_wordFrom_26 : decode cX10_wordFrom 26 = .ok (.iload_n 2, 1) := by decide +kernel
theorem dX10_wordFrom_27 : decode cX10_wordFrom 27 = .ok (.ireturn, 1) := by decide +kernel
theorem dX10_here_0 : decode cX10_here 0 = .ok (.aload_n 0, 1) := by decide +kernel
theorem dX10_here_1 : decode cX10_here 1 = .ok (.getfield 319, 3) := by decide +kernel
theorem dX10_here_4 : decode cX10_here 4 = .ok (.aload_n 0, 1) := by decide +kernel
theorem dX10_here_5 : decode cX10_here 5 = .ok (.getfield 316, 3) := by decide +kernel
theorem dX10_here_8 : decode cX10_here 8 = .ok (.if_icmp .ge 15, 3) := by decide +kernel
theorem dX10_here_11 : decode cX10_here 11 = .ok (.aload_n 0, 1) := by decide +kernel
theorem dX10_here_12 : decode cX10_here 12 = .ok (.getfield 52, 3) := by decide +kernel
theorem dX10_here_15 : decode cX10_here 15 = .ok (.aload_n 0, 1) := by decide +kernel
theorem dX10_here_16 : decode cX10_here 16 = .ok (.getfield 319, 3) := by decide +kernel
theorem dX10_here_19 : decode cX10_here 19 = .ok (.iaload, 1) := by decide +kernel
theorem dX10_here_20 : decode cX10_here 20 = .ok (.goto 4, 3) := by decide +kernel
theorem dX10_here_23 : decode cX10_here 23 = .ok (.iconst (-1), 1) := by decide +kernel
theorem dX10_here_24 : decode cX10_here 24 = .ok (.ireturn, 1) := by decide +kernel
theorem dX10_goesOn_0 : decode cX10_goesOn 0 = .ok (.aload_n 0, 1) := by decide +kernel
theorem dX10_goesOn_1 : decode cX10_goesOn 1 = .ok (.getfield 322, 3) := by decide +kernel
theorem dX10_goesOn_4 : decode cX10_goesOn 4 = .ok (.istore_n 1, 1) := by decide +kernel
theorem dX10_goesOn_5 : decode cX10_goesOn 5 = .ok (.aload_n 0, 1) := by decide +kernel
theorem dX10_goesOn_6 : decode cX10_goesOn 6 = .ok (.getfield 319, 3) := by decide +kernel
theorem dX10_goesOn_9 : decode cX10_goesOn 9 = .ok (.istore_n 2, 1) := by decide +kernel
theorem dX10_goesOn_10 : decode cX10_goesOn 10 = .ok (.aload_n 0, 1) := by decide +kernel
theorem dX10_goesOn_11 : decode cX10_goesOn 11 = .ok (.invokevirtual 325, 3) := by decide +kernel
theorem dX10_goesOn_14 : decode cX10_goesOn 14 = .ok (.bipush 32, 2) := by decide +kernel
theorem dX10_goesOn_16 : decode cX10_goesOn 16 = .ok (.if_icmp .eq 12, 3) := by decide +kernel
theorem dX10_goesOn_19 : decode cX10_goesOn 19 = .ok (.aload_n 0, 1) := by decide +kernel
theorem dX10_goesOn_20 : decode cX10_goesOn 20 = .ok (.invokevirtual 325, 3) := by decide +kernel
theorem dX10_goesOn_23 : decode cX10_goesOn 23 = .ok (.bipush 10, 2) := by decide +kernel
theorem dX10_goesOn_25 : decode cX10_goesOn 25 = .ok (.if_icmp .ne 16, 3) := by decide +kernel
theorem dX10_goesOn_28 : decode cX10_goesOn 28 = .ok (.aload_n 0, 1) := by decide +kernel
theorem dX10_goesOn_29 : decode cX10_goesOn 29 = .ok (.dup, 1) := by decide +kernel
theorem dX10_goesOn_30 : decode cX10_goesOn 30 = .ok (.getfield 319, 3) := by decide +kernel
theorem dX10_goesOn_33 : decode cX10_goesOn 33 = .ok (.iconst 1, 1) := by decide +kernel
theorem dX10_goesOn_34 : decode cX10_goesOn 34 = .ok (.iadd, 1) := by decide +kernel
theorem dX10_goesOn_35 : decode cX10_goesOn 35 = .ok (.putfield 319, 3) := by decide +kernel
theorem dX10_goesOn_38 : decode cX10_goesOn 38 = .ok (.goto (-28), 3) := by decide +kernel
theorem dX10_goesOn_41 : decode cX10_goesOn 41 = .ok (.aload_n 0, 1) := by decide +kernel
theorem dX10_goesOn_42 : decode cX10_goesOn 42 = .ok (.aload_n 0, 1) := by decide +kernel
theorem dX10_goesOn_43 : decode cX10_goesOn 43 = .ok (.getfield 319, 3) := by decide +kernel
theorem dX10_goesOn_46 : decode cX10_goesOn 46 = .ok (.putfield 328, 3) := by decide +kernel
theorem dX10_goesOn_49 : decode cX10_goesOn 49 = .ok (.aload_n 0, 1) := by decide +kernel
theorem dX10_goesOn_50 : decode cX10_goesOn 50 = .ok (.getfield 328, 3) := by decide +kernel
theorem dX10_goesOn_53 : decode cX10_goesOn 53 = .ok (.iload_n 2, 1) := by decide +kernel
theorem dX10_goesOn_54 : decode cX10_goesOn 54 = .ok (.if_icmp .ne 17, 3) := by decide +kernel
theorem dX10_goesOn_57 : decode cX10_goesOn 57 = .ok (.iload_n 1, 1) := by decide +kernel
theorem dX10_goesOn_58 : decode cX10_goesOn 58 = .ok (.iconst 1, 1) := by decide +kernel
theorem dX10_goesOn_59 : decode cX10_goesOn 59 = .ok (.if_icmp .eq 8, 3) := by decide +kernel
theorem dX10_goesOn_62 : decode cX10_goesOn 62 = .ok (.iload_n 1, 1) := by decide +kernel
theorem dX10_goesOn_63 : decode cX10_goesOn 63 = .ok (.iconst 2, 1) := by decide +kernel
theorem dX10_goesOn_64 : decode cX10_goesOn 64 = .ok (.if_icmp .ne 7, 3) := by decide +kernel
theorem dX10_goesOn_67 : decode cX10_goesOn 67 = .ok (.iconst 1, 1) := by decide +kernel
theorem dX10_goesOn_68 : decode cX10_goesOn 68 = .ok (.goto 4, 3) := by decide +kernel
theorem dX10_goesOn_71 : decode cX10_goesOn 71 = .ok (.iconst 0, 1) := by decide +kernel
theorem dX10_goesOn_72 : decode cX10_goesOn 72 = .ok (.istore_n 3, 1) := by decide +kernel
theorem dX10_goesOn_73 : decode cX10_goesOn 73 = .ok (.aload_n 0, 1) := by decide +kernel
theorem dX10_goesOn_74 : decode cX10_goesOn 74 = .ok (.invokevirtual 325, 3) := by decide +kernel
theorem dX10_goesOn_77 : decode cX10_goesOn 77 = .ok (.istore 4, 2) := by decide +kernel
theorem dX10_goesOn_79 : decode cX10_goesOn 79 = .ok (.iload 4, 2) := by decide +kernel
theorem dX10_goesOn_81 : decode cX10_goesOn 81 = .ok (.iconst (-1), 1) := by decide +kernel
theorem dX10_goesOn_82 : decode cX10_goesOn 82 = .ok (.if_icmp .ne 11, 3) := by decide +kernel
theorem dX10_goesOn_85 : decode cX10_goesOn 85 = .ok (.aload_n 0, 1) := by decide +kernel
theorem dX10_goesOn_86 : decode cX10_goesOn 86 = .ok (.iconst 0, 1) := by decide +kernel
theorem dX10_goesOn_87 : decode cX10_goesOn 87 = .ok (.putfield 322, 3) := by decide +kernel
theorem dX10_goesOn_90 : decode cX10_goesOn 90 = .ok (.goto 201, 3) := by decide +kernel
theorem dX10_goesOn_93 : decode cX10_goesOn 93 = .ok (.iload 4, 2) := by decide +kernel
theorem dX10_goesOn_95 : decode cX10_goesOn 95 = .ok (.i2l, 1) := by decide +kernel
theorem dX10_goesOn_96 : decode cX10_goesOn 96 = .ok (.ldc2_w 331, 3) := by decide +kernel
theorem dX10_goesOn_99 : decode cX10_goesOn 99 = .ok (.ldc2_w 333, 3) := by decide +kernel
theorem dX10_goesOn_102 : decode cX10_goesOn 102 = .ok (.invokestatic 66, 3) := by decide +kernel
theorem dX10_goesOn_105 : decode cX10_goesOn 105 = .ok (.ifCond .eq 49, 3) := by decide +kernel
theorem dX10_goesOn_108 : decode cX10_goesOn 108 = .ok (.aload_n 0, 1) := by decide +kernel
theorem dX10_goesOn_109 : decode cX10_goesOn 109 = .ok (.invokevirtual 325, 3) := by decide +kernel
theorem dX10_goesOn_112 : decode cX10_goesOn 112 = .ok (.i2l, 1) := by decide +kernel
theorem dX10_goesOn_113 : decode cX10_goesOn 113 = .ok (.ldc2_w 331, 3) := by decide +kernel
theorem dX10_goesOn_116 : decode cX10_goesOn 116 = .ok (.ldc2_w 333, 3) := by decide +kernel
theorem dX10_goesOn_119 : decode cX10_goesOn 119 = .ok (.invokestatic 66, 3) := by decide +kernel
theorem dX10_goesOn_122 : decode cX10_goesOn 122 = .ok (.ifCond .eq 16, 3) := by decide +kernel
theorem dX10_goesOn_125 : decode cX10_goesOn 125 = .ok (.aload_n 0, 1) := by decide +kernel
theorem dX10_goesOn_126 : decode cX10_goesOn 126 = .ok (.dup, 1) := by decide +kernel
theorem dX10_goesOn_127 : decode cX10_goesOn 127 = .ok (.getfield 319, 3) := by decide +kernel
theorem dX10_goesOn_130 : decode cX10_goesOn 130 = .ok (.iconst 1, 1) := by decide +kernel
theorem dX10_goesOn_131 : decode cX10_goesOn 131 = .ok (.iadd, 1) := by decide +kernel
theorem dX10_goesOn_132 : decode cX10_goesOn 132 = .ok (.putfield 319, 3) := by decide +kernel
theorem dX10_goesOn_135 : decode cX10_goesOn 135 = .ok (.goto (-27), 3) := by decide +kernel
theorem dX10_goesOn_138 : decode cX10_goesOn 138 = .ok (.aload_n 0, 1) := by decide +kernel
theorem dX10_goesOn_139 : decode cX10_goesOn 139 = .ok (.iload_n 3, 1) := by decide +kernel
theorem dX10_goesOn_140 : decode cX10_goesOn 140 = .ok (.ifCond .eq 7, 3) := by decide +kernel
theorem dX10_goesOn_143 : decode cX10_goesOn 143 = .ok (.iconst 4, 1) := by decide +kernel
theorem dX10_goesOn_144 : decode cX10_goesOn 144 = .ok (.goto 4, 3) := by decide +kernel
theorem dX10_goesOn_147 : decode cX10_goesOn 147 = .ok (.iconst 1, 1) := by decide +kernel
theorem dX10_goesOn_148 : decode cX10_goesOn 148 = .ok (.putfield 322, 3) := by decide +kernel
theorem dX10_goesOn_151 : decode cX10_goesOn 151 = .ok (.goto 140, 3) := by decide +kernel
theorem dX10_goesOn_154 : decode cX10_goesOn 154 = .ok (.iload 4, 2) := by decide +kernel
theorem dX10_goesOn_156 : decode cX10_goesOn 156 = .ok (.i2l, 1) := by decide +kernel
theorem dX10_goesOn_157 : decode cX10_goesOn 157 = .ok (.ldc2_w 335, 3) := by decide +kernel
theorem dX10_goesOn_160 : decode cX10_goesOn 160 = .ok (.ldc2_w 337, 3) := by decide +kernel
theorem dX10_goesOn_163 : decode cX10_goesOn 163 = .ok (.invokestatic 66, 3) := by decide +kernel
theorem dX10_goesOn_166 : decode cX10_goesOn 166 = .ok (.ifCond .eq 99, 3) := by decide +kernel
theorem dX10_goesOn_169 : decode cX10_goesOn 169 = .ok (.aload_n 0, 1) := by decide +kernel
theorem dX10_goesOn_170 : decode cX10_goesOn 170 = .ok (.iconst 0, 1) := by decide +kernel
theorem dX10_goesOn_171 : decode cX10_goesOn 171 = .ok (.putfield 339, 3) := by decide +kernel
theorem dX10_goesOn_174 : decode cX10_goesOn 174 = .ok (.aload_n 0, 1) := by decide +kernel
theorem dX10_goesOn_175 : decode cX10_goesOn 175 = .ok (.invokevirtual 325, 3) := by decide +kernel
theorem dX10_goesOn_178 : decode cX10_goesOn 178 = .ok (.i2l, 1) := by decide +kernel
theorem dX10_goesOn_179 : decode cX10_goesOn 179 = .ok (.ldc2_w 335, 3) := by decide +kernel
theorem dX10_goesOn_182 : decode cX10_goesOn 182 = .ok (.ldc2_w 337, 3) := by decide +kernel
theorem dX10_goesOn_185 : decode cX10_goesOn 185 = .ok (.invokestatic 66, 3) := by decide +kernel
theorem dX10_goesOn_188 : decode cX10_goesOn 188 = .ok (.ifCond .eq 48, 3) := by decide +kernel
theorem dX10_goesOn_191 : decode cX10_goesOn 191 = .ok (.aload_n 0, 1) := by decide +kernel
theorem dX10_goesOn_192 : decode cX10_goesOn 192 = .ok (.getfield 319, 3) := by decide +kernel
theorem dX10_goesOn_195 : decode cX10_goesOn 195 = .ok (.aload_n 0, 1) := by decide +kernel
theorem dX10_goesOn_196 : decode cX10_goesOn 196 = .ok (.getfield 328, 3) := by decide +kernel
theorem dX10_goesOn_199 : decode cX10_goesOn 199 = .ok (.isub, 1) := by decide +kernel
theorem dX10_goesOn_200 : decode cX10_goesOn 200 = .ok (.iconst 3, 1) := by decide +kernel
theorem dX10_goesOn_201 : decode cX10_goesOn 201 = .ok (.if_icmp .ge 22, 3) := by decide +kernel
theorem dX10_goesOn_204 : decode cX10_goesOn 204 = .ok (.aload_n 0, 1) := by decide +kernel
theorem dX10_goesOn_205 : decode cX10_goesOn 205 = .ok (.bipush 10, 2) := by decide +kernel
theorem dX10_goesOn_207 : decode cX10_goesOn 207 = .ok (.aload_n 0, 1) := by decide +kernel
theorem dX10_goesOn_208 : decode cX10_goesOn 208 = .ok (.getfield 339, 3) := by decide +kernel
theorem dX10_goesOn_211 : decode cX10_goesOn 211 = .ok (.imul, 1) := by decide +kernel
theorem dX10_goesOn_212 : decode cX10_goesOn 212 = .ok (.aload_n 0, 1) := by decide +kernel
theorem dX10_goesOn_213 : decode cX10_goesOn 213 = .ok (.invokevirtual 325, 3) := by decide +kernel
theorem dX10_goesOn_216 : decode cX10_goesOn 216 = .ok (.iadd, 1) := by decide +kernel
theorem dX10_goesOn_217 : decode cX10_goesOn 217 = .ok (.bipush 48, 2) := by decide +kernel
theorem dX10_goesOn_219 : decode cX10_goesOn 219 = .ok (.isub, 1) := by decide +kernel
theorem dX10_goesOn_220 : decode cX10_goesOn 220 = .ok (.putfield 339, 3) := by decide +kernel
theorem dX10_goesOn_223 : decode cX10_goesOn 223 = .ok (.aload_n 0, 1) := by decide +kernel
theorem dX10_goesOn_224 : decode cX10_goesOn 224 = .ok (.dup, 1) := by decide +kernel
theorem dX10_goesOn_225 : decode cX10_goesOn 225 = .ok (.getfield 319, 3) := by decide +kernel
theorem dX10_goesOn_228 : decode cX10_goesOn 228 = .ok (.iconst 1, 1) := by decide +kernel
theorem dX10_goesOn_229 : decode cX10_goesOn 229 = .ok (.iadd, 1) := by decide +kernel
theorem dX10_goesOn_230 : decode cX10_goesOn 230 = .ok (.putfield 319, 3) := by decide +kernel
theorem dX10_goesOn_233 : decode cX10_goesOn 233 = .ok (.goto (-59), 3) := by decide +kernel
theorem dX10_goesOn_236 : decode cX10_goesOn 236 = .ok (.aload_n 0, 1) := by decide +kernel
theorem dX10_goesOn_237 : decode cX10_goesOn 237 = .ok (.iload_n 3, 1) := by decide +kernel
theorem dX10_goesOn_238 : decode cX10_goesOn 238 = .ok (.ifCond .ne 16, 3) := by decide +kernel
theorem dX10_goesOn_241 : decode cX10_goesOn 241 = .ok (.aload_n 0, 1) := by decide +kernel
theorem dX10_goesOn_242 : decode cX10_goesOn 242 = .ok (.getfield 319, 3) := by decide +kernel
theorem dX10_goesOn_245 : decode cX10_goesOn 245 = .ok (.aload_n 0, 1) := by decide +kernel
theorem dX10_goesOn_246 : decode cX10_goesOn 246 = .ok (.getfield 328, 3) := by decide +kernel
theorem dX10_goesOn_249 : decode cX10_goesOn 249 = .ok (.isub, 1) := by decide +kernel
theorem dX10_goesOn_250 : decode cX10_goesOn 250 = .ok (.iconst 3, 1) := by decide +kernel
theorem dX10_goesOn_251 : decode cX10_goesOn 251 = .ok (.if_icmp .le 7, 3) := by decide +kernel
theorem dX10_goesOn_254 : decode cX10_goesOn 254 = .ok (.iconst 4, 1) := by decide +kernel
theorem dX10_goesOn_255 : decode cX10_goesOn 255 = .ok (.goto 4, 3) := by decide +kernel
theorem dX10_goesOn_258 : decode cX10_goesOn 258 = .ok (.iconst 2, 1) := by decide +kernel
theorem dX10_goesOn_259 : decode cX10_goesOn 259 = .ok (.putfield 322, 3) := by decide +kernel
theorem dX10_goesOn_262 : decode cX10_goesOn 262 = .ok (.goto 29, 3) := by decide +kernel
theorem dX10_goesOn_265 : decode cX10_goesOn 265 = .ok (.aload_n 0, 1) := by decide +kernel
theorem dX10_goesOn_266 : decode cX10_goesOn 266 = .ok (.dup, 1) := by decide +kernel
theorem dX10_goesOn_267 : decode cX10_goesOn 267 = .ok (.getfield 319, 3) := by decide +kernel
theorem dX10_goesOn_270 : decode cX10_goesOn 270 = .ok (.iconst 1, 1) := by decide +kernel
theorem dX10_goesOn_271 : decode cX10_goesOn 271 = .ok (.iadd, 1) := by decide +kernel
theorem dX10_goesOn_272 : decode cX10_goesOn 272 = .ok (.putfield 319, 3) := by decide +kernel
theorem dX10_goesOn_275 : decode cX10_goesOn 275 = .ok (.aload_n 0, 1) := by decide +kernel
theorem dX10_goesOn_276 : decode cX10_goesOn 276 = .ok (.iload 4, 2) := by decide +kernel
theorem dX10_goesOn_278 : decode cX10_goesOn 278 = .ok (.bipush 59, 2) := by decide +kernel
theorem dX10_goesOn_280 : decode cX10_goesOn 280 = .ok (.if_icmp .ne 7, 3) := by decide +kernel
theorem dX10_goesOn_283 : decode cX10_goesOn 283 = .ok (.iconst 3, 1) := by decide +kernel
theorem dX10_goesOn_284 : decode cX10_goesOn 284 = .ok (.goto 4, 3) := by decide +kernel
theorem dX10_goesOn_287 : decode cX10_goesOn 287 = .ok (.iconst 4, 1) := by decide +kernel
theorem dX10_goesOn_288 : decode cX10_goesOn 288 = .ok (.putfield 322, 3) := by decide +kernel
theorem dX10_goesOn_291 : decode cX10_goesOn 291 = .ok (.return_, 1) := by decide +kernel
theorem dX10_takesWord_0 : decode cX10_takesWord 0 = .ok (.aload_n 0, 1) := by decide +kernel
theorem dX10_takesWord_1 : decode cX10_takesWord 1 = .ok (.getfield 342, 3) := by decide +kernel
theorem dX10_takesWord_4 : decode cX10_takesWord 4 = .ok (.ifCond .ne 11, 3) := by decide +kernel
theorem dX10_takesWord_7 : decode cX10_takesWord 7 = .ok (.aload_n 0, 1) := by decide +kernel
theorem dX10_takesWord_8 : decode cX10_takesWord 8 = .ok (.getfield 322, 3) := by decide +kernel
theorem dX10_takesWord_11 : decode cX10_takesWord 11 = .ok (.iconst 1, 1) := by decide +kernel
theorem dX10_takesWord_12 : decode cX10_takesWord 12 = .ok (.if_icmp .eq 5, 3) := by decide +kernel
theorem dX10_takesWord_15 : decode cX10_takesWord 15 = .ok (.iconst 0, 1) := by decide +kernel
theorem dX10_takesWord_16 : decode cX10_takesWord 16 = .ok (.ireturn, 1) := by decide +kernel
theorem dX10_takesWord_17 : decode cX10_takesWord 17 = .ok (.aload_n 0, 1) := by decide +kernel
theorem dX10_takesWord_18 : decode cX10_takesWord 18 = .ok (.iload_n 1, 1) := by decide +kernel
theorem dX10_takesWord_19 : decode cX10_takesWord 19 = .ok (.invokevirtual 294, 3) := by decide +kernel
theorem dX10_takesWord_22 : decode cX10_takesWord 22 = .ok (.istore_n 2, 1) := by decide +kernel
theorem dX10_takesWord_23 : decode cX10_takesWord 23 = .ok (.iconst 0, 1) := by decide +kernel
theorem dX10_takesWord_24 : decode cX10_takesWord 24 = .ok (.istore_n 3, 1) := by decide +kernel
theorem dX10_takesWord_25 : decode cX10_takesWord 25 = .ok (.aload_n 0, 1) := by decide +kernel
theorem dX10_takesWord_26 : decode cX10_takesWord 26 = .ok (.getfield 328, 3) := by decide +kernel
theorem dX10_takesWord_29 : decode cX10_takesWord 29 = .ok (.iload_n 3, 1) := by decide +kernel
theorem dX10_takesWord_30 : decode cX10_takesWord 30 = .ok (.iadd, 1) := by decide +kernel
theorem dX10_takesWord_31 : decode cX10_takesWord 31 = .ok (.aload_n 0, 1) := by decide +kernel
theorem dX10_takesWord_32 : decode cX10_takesWord 32 = .ok (.getfield 319, 3) := by decide +kernel
theorem dX10_takesWord_35 : decode cX10_takesWord 35 = .ok (.if_icmp .ge 31, 3) := by decide +kernel
theorem dX10_takesWord_38 : decode cX10_takesWord 38 = .ok (.aload_n 0, 1) := by decide +kernel
theorem dX10_takesWord_39 : decode cX10_takesWord 39 = .ok (.getfield 55, 3) := by decide +kernel
theorem dX10_takesWord_42 : decode cX10_takesWord 42 = .ok (.iload_n 2, 1) := by decide +kernel
theorem dX10_takesWord_43 : decode cX10_takesWord 43 = .ok (.iload_n 3, 1) := by decide +kernel
theorem dX10_takesWord_44 : decode cX10_takesWord 44 = .ok (.iadd, 1) := by decide +kernel
theorem dX10_takesWord_45 : decode cX10_takesWord 45 = .ok (.baload, 1) := by decide +kernel
theorem dX10_takesWord_46 : decode cX10_takesWord 46 = .ok (.aload_n 0, 1) := by decide +kernel
theorem dX10_takesWord_47 : decode cX10_takesWord 47 = .ok (.getfield 52, 3) := by decide +kernel
theorem dX10_takesWord_50 : decode cX10_takesWord 50 = .ok (.aload_n 0, 1) := by decide +kernel
theorem dX10_takesWord_51 : decode cX10_takesWord 51 = .ok (.getfield 328, 3) := by decide +kernel
theorem dX10_takesWord_54 : decode cX10_takesWord 54 = .ok (.iload_n 3, 1) := by decide +kernel
theorem dX10_takesWord_55 : decode cX10_takesWord 55 = .ok (.iadd, 1) := by decide +kernel
theorem dX10_takesWord_56 : decode cX10_takesWord 56 = .ok (.iaload, 1) := by decide +kernel
theorem dX10_takesWord_57 : decode cX10_takesWord 57 = .ok (.if_icmp .ne 9, 3) := by decide +kernel
theorem dX10_takesWord_60 : decode cX10_takesWord 60 = .ok (.iinc 3 1, 3) := by decide +kernel
theorem dX10_takesWord_63 : decode cX10_takesWord 63 = .ok (.goto (-38), 3) := by decide +kernel
theorem dX10_takesWord_66 : decode cX10_takesWord 66 = .ok (.aload_n 0, 1) := by decide +kernel
theorem dX10_takesWord_67 : decode cX10_takesWord 67 = .ok (.getfield 328, 3) := by decide +kernel
theorem dX10_takesWord_70 : decode cX10_takesWord 70 = .ok (.iload_n 3, 1) := by decide +kernel
theorem dX10_takesWord_71 : decode cX10_takesWord 71 = .ok (.iadd, 1) := by decide +kernel
theorem dX10_takesWord_72 : decode cX10_takesWord 72 = .ok (.aload_n 0, 1) := by decide +kernel
theorem dX10_takesWord_73 : decode cX10_takesWord 73 = .ok (.getfield 319, 3) := by decide +kernel
theorem dX10_takesWord_76 : decode cX10_takesWord 76 = .ok (.if_icmp .ne 14, 3) := by decide +kernel
theorem dX10_takesWord_79 : decode cX10_takesWord 79 = .ok (.aload_n 0, 1) := by decide +kernel
theorem dX10_takesWord_80 : decode cX10_takesWord 80 = .ok (.getfield 55, 3) := by decide +kernel
theorem dX10_takesWord_83 : decode cX10_takesWord 83 = .ok (.iload_n 2, 1) := by decide +kernel
theorem dX10_takesWord_84 : decode cX10_takesWord 84 = .ok (.iload_n 3, 1) := by decide +kernel
theorem dX10_takesWord_85 : decode cX10_takesWord 85 = .ok (.iadd, 1) := by decide +kernel
theorem dX10_takesWord_86 : decode cX10_takesWord 86 = .ok (.baload, 1) := by decide +kernel
theorem dX10_takesWord_87 : decode cX10_takesWord 87 = .ok (.ifCond .eq 5, 3) := by decide +kernel
theorem dX10_takesWord_90 : decode cX10_takesWord 90 = .ok (.iconst 0, 1) := by decide +kernel
theorem dX10_takesWord_91 : decode cX10_takesWord 91 = .ok (.ireturn, 1) := by decide +kernel
theorem dX10_takesWord_92 : decode cX10_takesWord 92 = .ok (.aload_n 0, 1) := by decide +kernel
theorem dX10_takesWord_93 : decode cX10_takesWord 93 = .ok (.invokevirtual 345, 3) := by decide +kernel
theorem dX10_takesWord_96 : decode cX10_takesWord 96 = .ok (.iconst 1, 1) := by decide +kernel
theorem dX10_takesWord_97 : decode cX10_takesWord 97 = .ok (.ireturn, 1) := by decide +kernel
theorem dX10_needsNumber_0 : decode cX10_needsNumber 0 = .ok (.aload_n 0, 1) := by decide +kernel
theorem dX10_needsNumber_1 : decode cX10_needsNumber 1 = .ok (.getfield 342, 3) := by decide +kernel
theorem dX10_needsNumber_4 : decode cX10_needsNumber 4 = .ok (.ifCond .ne 26, 3) := by decide +kernel
theorem dX10_needsNumber_7 : decode cX10_needsNumber 7 = .ok (.aload_n 0, 1) := by decide +kernel
theorem dX10_needsNumber_8 : decode cX10_needsNumber 8 = .ok (.getfield 322, 3) := by decide +kernel
theorem dX10_needsNumber_11 : decode cX10_needsNumber 11 = .ok (.iconst 2, 1) := by decide +kernel
theorem dX10_needsNumber_12 : decode cX10_needsNumber 12 = .ok (.if_icmp .ne 18, 3) := by decide +kernel
theorem dX10_needsNumber_15 : decode cX10_needsNumber 15 = .ok (.aload_n 0, 1) := by decide +kernel
theorem dX10_needsNumber_16 : decode cX10_needsNumber 16 = .ok (.getfield 339, 3) := by decide +kernel
theorem dX10_needsNumber_19 : decode cX10_needsNumber 19 = .ok (.i2l, 1) := by decide +kernel
theorem dX10_needsNumber_20 : decode cX10_needsNumber 20 = .ok (.iload_n 1, 1) := by decide +kernel
theorem dX10_needsNumber_21 : decode cX10_needsNumber 21 = .ok (.i2l, 1) := by decide +kernel
theorem dX10_needsNumber_22 : decode cX10_needsNumber 22 = .ok (.iload_n 2, 1) := by decide +kernel
theorem dX10_needsNumber_23 : decode cX10_needsNumber 23 = .ok (.i2l, 1) := by decide +kernel
theorem dX10_needsNumber_24 : decode cX10_needsNumber 24 = .ok (.invokestatic 66, 3) := by decide +kernel
theorem dX10_needsNumber_27 : decode cX10_needsNumber 27 = .ok (.ifCond .ne 10, 3) := by decide +kernel
theorem dX10_needsNumber_30 : decode cX10_needsNumber 30 = .ok (.aload_n 0, 1) := by decide +kernel
theorem dX10_needsNumber_31 : decode cX10_needsNumber 31 = .ok (.iconst 1, 1) := by decide +kernel
theorem dX10_needsNumber_32 : decode cX10_needsNumber 32 = .ok (.putfield 342, 3) := by decide +kernel
theorem dX10_needsNumber_35 : decode cX10_needsNumber 35 = .ok (.iload_n 1, 1) := by decide +kernel
theorem dX10_needsNumber_36 : decode cX10_needsNumber 36 = .ok (.ireturn, 1) := by decide +kernel
theorem dX10_needsNumber_37 : decode cX10_needsNumber 37 = .ok (.aload_n 0, 1) := by decide +kernel
theorem dX10_needsNumber_38 : decode cX10_needsNumber 38 = .ok (.getfield 339, 3) := by decide +kernel
theorem dX10_needsNumber_41 : decode cX10_needsNumber 41 = .ok (.istore_n 3, 1) := by decide +kernel
theorem dX10_needsNumber_42 : decode cX10_needsNumber 42 = .ok (.aload_n 0, 1) := by decide +kernel
theorem dX10_needsNumber_43 : decode cX10_needsNumber 43 = .ok (.invokevirtual 345, 3) := by decide +kernel
theorem dX10_needsNumber_46 : decode cX10_needsNumber 46 = .ok (.iload_n 3, 1) := by decide +kernel
theorem dX10_needsNumber_47 : decode cX10_needsNumber 47 = .ok (.ireturn, 1) := by decide +kernel
theorem dX10_isRoom_0 : decode cX10_isRoom 0 = .ok (.aload_n 0, 1) := by decide +kernel
theorem dX10_isRoom_1 : decode cX10_isRoom 1 = .ok (.getfield 17, 3) := by decide +kernel
theorem dX10_isRoom_4 : decode cX10_isRoom 4 = .ok (.iload_n 1, 1) := by decide +kernel
theorem dX10_isRoom_5 : decode cX10_isRoom 5 = .ok (.iaload, 1) := by decide +kernel
theorem dX10_isRoom_6 : decode cX10_isRoom 6 = .ok (.iload_n 2, 1) := by decide +kernel
theorem dX10_isRoom_7 : decode cX10_isRoom 7 = .ok (.if_icmp .ge 5, 3) := by decide +kernel
theorem dX10_isRoom_10 : decode cX10_isRoom 10 = .ok (.iconst 1, 1) := by decide +kernel
theorem dX10_isRoom_11 : decode cX10_isRoom 11 = .ok (.ireturn, 1) := by decide +kernel
theorem dX10_isRoom_12 : decode cX10_isRoom 12 = .ok (.aload_n 0, 1) := by decide +kernel
theorem dX10_isRoom_13 : decode cX10_isRoom 13 = .ok (.iload_n 3, 1) := by decide +kernel
theorem dX10_isRoom_14 : decode cX10_isRoom 14 = .ok (.putfield 328, 3) := by decide +kernel
theorem dX10_isRoom_17 : decode cX10_isRoom 17 = .ok (.aload_n 0, 1) := by decide +kernel
theorem dX10_isRoom_18 : decode cX10_isRoom 18 = .ok (.iconst 1, 1) := by decide +kernel
theorem dX10_isRoom_19 : decode cX10_isRoom 19 = .ok (.putfield 342, 3) := by decide +kernel
theorem dX10_isRoom_22 : decode cX10_isRoom 22 = .ok (.iconst 0, 1) := by decide +kernel
theorem dX10_isRoom_23 : decode cX10_isRoom 23 = .ok (.ireturn, 1) := by decide +kernel
theorem dX10_readsClass_0 : decode cX10_readsClass 0 = .ok (.aload_n 0, 1) := by decide +kernel
theorem dX10_readsClass_1 : decode cX10_readsClass 1 = .ok (.iconst 0, 1) := by decide +kernel
theorem dX10_readsClass_2 : decode cX10_readsClass 2 = .ok (.bipush 8, 2) := by decide +kernel
theorem dX10_readsClass_4 : decode cX10_readsClass 4 = .ok (.iload_n 1, 1) := by decide +kernel
theorem dX10_readsClass_5 : decode cX10_readsClass 5 = .ok (.invokevirtual 348, 3) := by decide +kernel
theorem dX10_readsClass_8 : decode cX10_readsClass 8 = .ok (.ifCond .ne 4, 3) := by decide +kernel
theorem dX10_readsClass_11 : decode cX10_readsClass 11 = .ok (.return_, 1) := by decide +kernel
theorem dX10_readsClass_12 : decode cX10_readsClass 12 = .ok (.iconst 0, 1) := by decide +kernel
theorem dX10_readsClass_13 : decode cX10_readsClass 13 = .ok (.istore_n 2, 1) := by decide +kernel
theorem dX10_readsClass_14 : decode cX10_readsClass 14 = .ok (.iload_n 2, 1) := by decide +kernel
theorem dX10_readsClass_15 : decode cX10_readsClass 15 = .ok (.iconst 4, 1) := by decide +kernel
theorem dX10_readsClass_16 : decode cX10_readsClass 16 = .ok (.if_icmp .gt 53, 3) := by decide +kernel
theorem dX10_readsClass_19 : decode cX10_readsClass 19 = .ok (.aload_n 0, 1) := by decide +kernel
theorem dX10_readsClass_20 : decode cX10_readsClass 20 = .ok (.getfield 17, 3) := by decide +kernel
theorem dX10_readsClass_23 : decode cX10_readsClass 23 = .ok (.iconst 5, 1) := by decide +kernel
theorem dX10_readsClass_24 : decode cX10_readsClass 24 = .ok (.iconst 5, 1) := by decide +kernel
theorem dX10_readsClass_25 : decode cX10_readsClass 25 = .ok (.aload_n 0, 1) := by decide +kernel
theorem dX10_readsClass_26 : decode cX10_readsClass 26 = .ok (.getfield 17, 3) := by decide +kernel
theorem dX10_readsClass_29 : decode cX10_readsClass 29 = .ok (.iconst 0, 1) := by decide +kernel
theorem dX10_readsClass_30 : decode cX10_readsClass 30 = .ok (.iaload, 1) := by decide +kernel
theorem dX10_readsClass_31 : decode cX10_readsClass 31 = .ok (.imul, 1) := by decide +kernel
theorem dX10_readsClass_32 : decode cX10_readsClass 32 = .ok (.iadd, 1) := by decide +kernel
theorem dX10_readsClass_33 : decode cX10_readsClass 33 = .ok (.iload_n 2, 1) := by decide +kernel
theorem dX10_readsClass_34 : decode cX10_readsClass 34 = .ok (.iadd, 1) := by decide +kernel
theorem dX10_readsClass_35 : decode cX10_readsClass 35 = .ok (.aload_n 0, 1) := by decide +kernel
theorem dX10_readsClass_36 : decode cX10_readsClass 36 = .ok (.iconst 0, 1) := by decide +kernel
theorem dX10_readsClass_37 : decode cX10_readsClass 37 = .ok (.iload_n 2, 1) := by decide +kernel
theorem dX10_readsClass_38 : decode cX10_readsClass 38 = .ok (.ifCond .ne 9, 3) := by decide +kernel
theorem dX10_readsClass_41 : decode cX10_readsClass 41 = .ok (.sipush 999, 3) := by decide +kernel
theorem dX10_readsClass_44 : decode cX10_readsClass 44 = .ok (.goto 15, 3) := by decide +kernel
theorem dX10_readsClass_47 : decode cX10_readsClass 47 = .ok (.iload_n 2, 1) := by decide +kernel
theorem dX10_readsClass_48 : decode cX10_readsClass 48 = .ok (.iconst 4, 1) := by decide +kernel
theorem dX10_readsClass_49 : decode cX10_readsClass 49 = .ok (.if_icmp .ne 8, 3) := by decide +kernel
theorem dX10_readsClass_52 : decode cX10_readsClass 52 = .ok (.bipush 99, 2) := by decide +kernel
theorem dX10_readsClass_54 : decode cX10_readsClass 54 = .ok (.goto 5, 3) := by decide +kernel
theorem dX10_readsClass_57 : decode cX10_readsClass 57 = .ok (.bipush 7, 2) := by decide +kernel
theorem dX10_readsClass_59 : decode cX10_readsClass 59 = .ok (.invokevirtual 351, 3) := by decide +kernel
theorem dX10_readsClass_62 : decode cX10_readsClass 62 = .ok (.iastore, 1) := by decide +kernel
theorem dX10_readsClass_63 : decode cX10_readsClass 63 = .ok (.iinc 2 1, 3) := by decide +kernel
theorem dX10_readsClass_66 : decode cX10_readsClass 66 = .ok (.goto (-52), 3) := by decide +kernel
theorem dX10_readsClass_69 : decode cX10_readsClass 69 = .ok (.aload_n 0, 1) := by decide +kernel
theorem dX10_readsClass_70 : decode cX10_readsClass 70 = .ok (.getfield 17, 3) := by decide +kernel
theorem dX10_readsClass_73 : decode cX10_readsClass 73 = .ok (.iconst 0, 1) := by decide +kernel
theorem dX10_readsClass_74 : decode cX10_readsClass 74 = .ok (.dup2, 1) := by decide +kernel
theorem dX10_readsClass_75 : decode cX10_readsClass 75 = .ok (.iaload, 1) := by decide +kernel
theorem dX10_readsClass_76 : decode cX10_readsClass 76 = .ok (.iconst 1, 1) := by decide +kernel
theorem dX10_readsClass_77 : decode cX10_readsClass 77 = .ok (.iadd, 1) := by decide +kernel
theorem dX10_readsClass_78 : decode cX10_readsClass 78 = .ok (.iastore, 1) := by decide +kernel
theorem dX10_readsClass_79 : decode cX10_readsClass 79 = .ok (.return_, 1) := by decide +kernel
theorem dX10_readsLoss_0 : decode cX10_readsLoss 0 = .ok (.aload_n 0, 1) := by decide +kernel
theorem dX10_readsLoss_1 : decode cX10_readsLoss 1 = .ok (.iconst 1, 1) := by decide +kernel
theorem dX10_readsLoss_2 : decode cX10_readsLoss 2 = .ok (.iconst 5, 1) := by decide +kernel
theorem dX10_readsLoss_3 : decode cX10_readsLoss 3 = .ok (.iload_n 1, 1) := by decide +kernel
theorem dX10_readsLoss_4 : decode cX10_readsLoss 4 = .ok (.invokevirtual 348, 3) := by decide +kernel
theorem dX10_readsLoss_7 : decode cX10_readsLoss 7 = .ok (.ifCond .ne 4, 3) := by decide +kernel
theorem dX10_readsLoss_10 : decode cX10_readsLoss 10 = .ok (.return_, 1) := by decide +kernel
theorem dX10_readsLoss_11 : decode cX10_readsLoss 11 = .ok (.iconst 0, 1) := by decide +kernel
theorem dX10_readsLoss_12 : decode cX10_readsLoss 12 = .ok (.istore_n 2, 1) := by decide +kernel
theorem dX10_readsLoss_13 : decode cX10_readsLoss 13 = .ok (.iload_n 2, 1) := by decide +kernel
theorem dX10_readsLoss_14 : decode cX10_readsLoss 14 = .ok (.iconst 2, 1) := by decide +kernel
theorem dX10_readsLoss_15 : decode cX10_readsLoss 15 = .ok (.if_icmp .ge 44, 3) := by decide +kernel
theorem dX10_readsLoss_18 : decode cX10_readsLoss 18 = .ok (.aload_n 0, 1) := by decide +kernel
theorem dX10_readsLoss_19 : decode cX10_readsLoss 19 = .ok (.getfield 17, 3) := by decide +kernel
theorem dX10_readsLoss_22 : decode cX10_readsLoss 22 = .ok (.bipush 45, 2) := by decide +kernel
theorem dX10_readsLoss_24 : decode cX10_readsLoss 24 = .ok (.iconst 2, 1) := by decide +kernel
theorem dX10_readsLoss_25 : decode cX10_readsLoss 25 = .ok (.aload_n 0, 1) := by decide +kernel
theorem dX10_readsLoss_26 : decode cX10_readsLoss 26 = .ok (.getfield 17, 3) := by decide +kernel
theorem dX10_readsLoss_29 : decode cX10_readsLoss 29 = .ok (.iconst 1, 1) := by decide +kernel
theorem dX10_readsLoss_30 : decode cX10_readsLoss 30 = .ok (.iaload, 1) := by decide +kernel
theorem dX10_readsLoss_31 : decode cX10_readsLoss 31 = .ok (.imul, 1) := by decide +kernel
theorem dX10_readsLoss_32 : decode cX10_readsLoss 32 = .ok (.iadd, 1) := by decide +kernel
theorem dX10_readsLoss_33 : decode cX10_readsLoss 33 = .ok (.iload_n 2, 1) := by decide +kernel
theorem dX10_readsLoss_34 : decode cX10_readsLoss 34 = .ok (.iadd, 1) := by decide +kernel
theorem dX10_readsLoss_35 : decode cX10_readsLoss 35 = .ok (.aload_n 0, 1) := by decide +kernel
theorem dX10_readsLoss_36 : decode cX10_readsLoss 36 = .ok (.iconst 1, 1) := by decide +kernel
theorem dX10_readsLoss_37 : decode cX10_readsLoss 37 = .ok (.iload_n 2, 1) := by decide +kernel
theorem dX10_readsLoss_38 : decode cX10_readsLoss 38 = .ok (.ifCond .ne 9, 3) := by decide +kernel
theorem dX10_readsLoss_41 : decode cX10_readsLoss 41 = .ok (.sipush 999, 3) := by decide +kernel
theorem dX10_readsLoss_44 : decode cX10_readsLoss 44 = .ok (.goto 5, 3) := by decide +kernel
theorem dX10_readsLoss_47 : decode cX10_readsLoss 47 = .ok (.bipush 9, 2) := by decide +kernel
theorem dX10_readsLoss_49 : decode cX10_readsLoss 49 = .ok (.invokevirtual 351, 3) := by decide +kernel
theorem dX10_readsLoss_52 : decode cX10_readsLoss 52 = .ok (.iastore, 1) := by decide +kernel
theorem dX10_readsLoss_53 : decode cX10_readsLoss 53 = .ok (.iinc 2 1, 3) := by decide +kernel
theorem dX10_readsLoss_56 : decode cX10_readsLoss 56 = .ok (.goto (-43), 3) := by decide +kernel
theorem dX10_readsLoss_59 : decode cX10_readsLoss 59 = .ok (.aload_n 0, 1) := by decide +kernel
theorem dX10_readsLoss_60 : decode cX10_readsLoss 60 = .ok (.getfield 17, 3) := by decide +kernel
theorem dX10_readsLoss_63 : decode cX10_readsLoss 63 = .ok (.iconst 1, 1) := by decide +kernel
theorem dX10_readsLoss_64 : decode cX10_readsLoss 64 = .ok (.dup2, 1) := by decide +kernel
theorem dX10_readsLoss_65 : decode cX10_readsLoss 65 = .ok (.iaload, 1) := by decide +kernel
theorem dX10_readsLoss_66 : decode cX10_readsLoss 66 = .ok (.iconst 1, 1) := by decide +kernel
theorem dX10_readsLoss_67 : decode cX10_readsLoss 67 = .ok (.iadd, 1) := by decide +kernel
theorem dX10_readsLoss_68 : decode cX10_readsLoss 68 = .ok (.iastore, 1) := by decide +kernel
theorem dX10_readsLoss_69 : decode cX10_readsLoss 69 = .ok (.return_, 1) := by decide +kernel
theorem dX10_readsOne_0 : decode cX10_readsOne 0 = .ok (.aload_n 0, 1) := by decide +kernel
theorem dX10_readsOne_1 : decode cX10_readsOne 1 = .ok (.getfield 328, 3) := by decide +kernel
theorem dX10_readsOne_4 : decode cX10_readsOne 4 = .ok (.istore_n 1, 1) := by decide +kernel
theorem dX10_readsOne_5 : decode cX10_readsOne 5 = .ok (.aload_n 0, 1) := by decide +kernel
theorem dX10_readsOne_6 : decode cX10_readsOne 6 = .ok (.iconst 0, 1) := by decide +kernel
theorem dX10_readsOne_7 : decode cX10_readsOne 7 = .ok (.invokevirtual 354, 3) := by decide +kernel
theorem dX10_readsOne_10 : decode cX10_readsOne 10 = .ok (.ifCond .eq 11, 3) := by decide +kernel
theorem dX10_readsOne_13 : decode cX10_readsOne 13 = .ok (.aload_n 0, 1) := by decide +kernel
theorem dX10_readsOne_14 : decode cX10_readsOne 14 = .ok (.iload_n 1, 1) := by decide +kernel
theorem dX10_readsOne_15 : decode cX10_readsOne 15 = .ok (.invokevirtual 357, 3) := by decide +kernel
theorem dX10_readsOne_18 : decode cX10_readsOne 18 = .ok (.goto 95, 3) := by decide +kernel
theorem dX10_readsOne_21 : decode cX10_readsOne 21 = .ok (.aload_n 0, 1) := by decide +kernel
theorem dX10_readsOne_22 : decode cX10_readsOne 22 = .ok (.iconst 1, 1) := by decide +kernel
theorem dX10_readsOne_23 : decode cX10_readsOne 23 = .ok (.invokevirtual 354, 3) := by decide +kernel
theorem dX10_readsOne_26 : decode cX10_readsOne 26 = .ok (.ifCond .eq 11, 3) := by decide +kernel
theorem dX10_readsOne_29 : decode cX10_readsOne 29 = .ok (.aload_n 0, 1) := by decide +kernel
theorem dX10_readsOne_30 : decode cX10_readsOne 30 = .ok (.iload_n 1, 1) := by decide +kernel
theorem dX10_readsOne_31 : decode cX10_readsOne 31 = .ok (.invokevirtual 360, 3) := by decide +kernel
theorem dX10_readsOne_34 : decode cX10_readsOne 34 = .ok (.goto 79, 3) := by decide +kernel
theorem dX10_readsOne_37 : decode cX10_readsOne 37 = .ok (.aload_n 0, 1) := by decide +kernel
theorem dX10_readsOne_38 : decode cX10_readsOne 38 = .ok (.iconst 2, 1) := by decide +kernel
theorem dX10_readsOne_39 : decode cX10_readsOne 39 = .ok (.invokevirtual 354, 3) := by decide +kernel
theorem dX10_readsOne_42 : decode cX10_readsOne 42 = .ok (.ifCond .eq 18, 3) := by decide +kernel
theorem dX10_readsOne_45 : decode cX10_readsOne 45 = .ok (.aload_n 0, 1) := by decide +kernel
theorem dX10_readsOne_46 : decode cX10_readsOne 46 = .ok (.getfield 17, 3) := by decide +kernel
theorem dX10_readsOne_49 : decode cX10_readsOne 49 = .ok (.iconst 2, 1) := by decide +kernel
theorem dX10_readsOne_50 : decode cX10_readsOne 50 = .ok (.aload_n 0, 1) := by decide +kernel
theorem dX10_readsOne_51 : decode cX10_readsOne 51 = .ok (.iconst 1, 1) := by decide +kernel
theorem dX10_readsOne_52 : decode cX10_readsOne 52 = .ok (.iconst 3, 1) := by decide +kernel
theorem dX10_readsOne_53 : decode cX10_readsOne 53 = .ok (.invokevirtual 351, 3) := by decide +kernel
theorem dX10_readsOne_56 : decode cX10_readsOne 56 = .ok (.iastore, 1) := by decide +kernel
theorem dX10_readsOne_57 : decode cX10_readsOne 57 = .ok (.goto 56, 3) := by decide +kernel
theorem dX10_readsOne_60 : decode cX10_readsOne 60 = .ok (.aload_n 0, 1) := by decide +kernel
theorem dX10_readsOne_61 : decode cX10_readsOne 61 = .ok (.iconst 3, 1) := by decide +kernel
theorem dX10_readsOne_62 : decode cX10_readsOne 62 = .ok (.invokevirtual 354, 3) := by decide +kernel
theorem dX10_readsOne_65 : decode cX10_readsOne 65 = .ok (.ifCond .eq 19, 3) := by decide +kernel
theorem dX10_readsOne_68 : decode cX10_readsOne 68 = .ok (.aload_n 0, 1) := by decide +kernel
theorem dX10_readsOne_69 : decode cX10_readsOne 69 = .ok (.getfield 17, 3) := by decide +kernel
theorem dX10_readsOne_72 : decode cX10_readsOne 72 = .ok (.iconst 3, 1) := by decide +kernel
theorem dX10_readsOne_73 : decode cX10_readsOne 73 = .ok (.aload_n 0, 1) := by decide +kernel
theorem dX10_readsOne_74 : decode cX10_readsOne 74 = .ok (.iconst 0, 1) := by decide +kernel
theorem dX10_readsOne_75 : decode cX10_readsOne 75 = .ok (.bipush 12, 2) := by decide +kernel
theorem dX10_readsOne_77 : decode cX10_readsOne 77 = .ok (.invokevirtual 351, 3) := by decide +kernel
theorem dX10_readsOne_80 : decode cX10_readsOne 80 = .ok (.iastore, 1) := by decide +kernel
theorem dX10_readsOne_81 : decode cX10_readsOne 81 = .ok (.goto 32, 3) := by decide +kernel
theorem dX10_readsOne_84 : decode cX10_readsOne 84 = .ok (.aload_n 0, 1) := by decide +kernel
theorem dX10_readsOne_85 : decode cX10_readsOne 85 = .ok (.iconst 4, 1) := by decide +kernel
theorem dX10_readsOne_86 : decode cX10_readsOne 86 = .ok (.invokevirtual 354, 3) := by decide +kernel
theorem dX10_readsOne_89 : decode cX10_readsOne 89 = .ok (.ifCond .eq 19, 3) := by decide +kernel
theorem dX10_readsOne_92 : decode cX10_readsOne 92 = .ok (.aload_n 0, 1) := by decide +kernel
theorem dX10_readsOne_93 : decode cX10_readsOne 93 = .ok (.getfield 17, 3) := by decide +kernel
theorem dX10_readsOne_96 : decode cX10_readsOne 96 = .ok (.iconst 4, 1) := by decide +kernel
theorem dX10_readsOne_97 : decode cX10_readsOne 97 = .ok (.aload_n 0, 1) := by decide +kernel
theorem dX10_readsOne_98 : decode cX10_readsOne 98 = .ok (.iconst 0, 1) := by decide +kernel
theorem dX10_readsOne_99 : decode cX10_readsOne 99 = .ok (.bipush 99, 2) := by decide +kernel
theorem dX10_readsOne_101 : decode cX10_readsOne 101 = .ok (.invokevirtual 351, 3) := by decide +kernel
theorem dX10_readsOne_104 : decode cX10_readsOne 104 = .ok (.iastore, 1) := by decide +kernel
theorem dX10_readsOne_105 : decode cX10_readsOne 105 = .ok (.goto 8, 3) := by decide +kernel
theorem dX10_readsOne_108 : decode cX10_readsOne 108 = .ok (.aload_n 0, 1) := by decide +kernel
theorem dX10_readsOne_109 : decode cX10_readsOne 109 = .ok (.iconst 1, 1) := by decide +kernel
theorem dX10_readsOne_110 : decode cX10_readsOne 110 = .ok (.putfield 342, 3) := by decide +kernel
theorem dX10_readsOne_113 : decode cX10_readsOne 113 = .ok (.aload_n 0, 1) := by decide +kernel
theorem dX10_readsOne_114 : decode cX10_readsOne 114 = .ok (.getfield 342, 3) := by decide +kernel
theorem dX10_readsOne_117 : decode cX10_readsOne 117 = .ok (.ifCond .eq 4, 3) := by decide +kernel
theorem dX10_readsOne_120 : decode cX10_readsOne 120 = .ok (.return_, 1) := by decide +kernel
theorem dX10_readsOne_121 : decode cX10_readsOne 121 = .ok (.aload_n 0, 1) := by decide +kernel
theorem dX10_readsOne_122 : decode cX10_readsOne 122 = .ok (.getfield 322, 3) := by decide +kernel
theorem dX10_readsOne_125 : decode cX10_readsOne 125 = .ok (.iconst 3, 1) := by decide +kernel
theorem dX10_readsOne_126 : decode cX10_readsOne 126 = .ok (.if_icmp .ne 10, 3) := by decide +kernel
theorem dX10_readsOne_129 : decode cX10_readsOne 129 = .ok (.aload_n 0, 1) := by decide +kernel
theorem dX10_readsOne_130 : decode cX10_readsOne 130 = .ok (.invokevirtual 345, 3) := by decide +kernel
theorem dX10_readsOne_133 : decode cX10_readsOne 133 = .ok (.goto 8, 3) := by decide +kernel
theorem dX10_readsOne_136 : decode cX10_readsOne 136 = .ok (.aload_n 0, 1) := by decide +kernel
theorem dX10_readsOne_137 : decode cX10_readsOne 137 = .ok (.iconst 1, 1) := by decide +kernel
theorem dX10_readsOne_138 : decode cX10_readsOne 138 = .ok (.putfield 342, 3) := by decide +kernel
theorem dX10_readsOne_141 : decode cX10_readsOne 141 = .ok (.return_, 1) := by decide +kernel
theorem dX10_looksOver_0 : decode cX10_looksOver 0 = .ok (.aload_n 0, 1) := by decide +kernel
theorem dX10_looksOver_1 : decode cX10_looksOver 1 = .ok (.aload_n 0, 1) := by decide +kernel
theorem dX10_looksOver_2 : decode cX10_looksOver 2 = .ok (.getfield 17, 3) := by decide +kernel
theorem dX10_looksOver_5 : decode cX10_looksOver 5 = .ok (.iconst 0, 1) := by decide +kernel
theorem dX10_looksOver_6 : decode cX10_looksOver 6 = .ok (.iaload, 1) := by decide +kernel
theorem dX10_looksOver_7 : decode cX10_looksOver 7 = .ok (.ifCond .eq 12, 3) := by decide +kernel
theorem dX10_looksOver_10 : decode cX10_looksOver 10 = .ok (.aload_n 0, 1) := by decide +kernel
theorem dX10_looksOver_11 : decode cX10_looksOver 11 = .ok (.getfield 17, 3) := by decide +kernel
theorem dX10_looksOver_14 : decode cX10_looksOver 14 = .ok (.iconst 1, 1) := by decide +kernel
theorem dX10_looksOver_15 : decode cX10_looksOver 15 = .ok (.iaload, 1) := by decide +kernel
theorem dX10_looksOver_16 : decode cX10_looksOver 16 = .ok (.ifCond .ne 7, 3) := by decide +kernel
theorem dX10_looksOver_19 : decode cX10_looksOver 19 = .ok (.iconst 1, 1) := by decide +kernel
theorem dX10_looksOver_20 : decode cX10_looksOver 20 = .ok (.goto 4, 3) := by decide +kernel
theorem dX10_looksOver_23 : decode cX10_looksOver 23 = .ok (.iconst 0, 1) := by decide +kernel
theorem dX10_looksOver_24 : decode cX10_looksOver 24 = .ok (.putfield 342, 3) := by decide +kernel
theorem dX10_looksOver_27 : decode cX10_looksOver 27 = .ok (.iconst 0, 1) := by decide +kernel
theorem dX10_looksOver_28 : decode cX10_looksOver 28 = .ok (.istore_n 1, 1) := by decide +kernel
theorem dX10_looksOver_29 : decode cX10_looksOver 29 = .ok (.iload_n 1, 1) := by decide +kernel
theorem dX10_looksOver_30 : decode cX10_looksOver 30 = .ok (.aload_n 0, 1) := by decide +kernel
theorem dX10_looksOver_31 : decode cX10_looksOver 31 = .ok (.getfield 17, 3) := by decide +kernel
theorem dX10_looksOver_34 : decode cX10_looksOver 34 = .ok (.iconst 0, 1) := by decide +kernel
theorem dX10_looksOver_35 : decode cX10_looksOver 35 = .ok (.iaload, 1) := by decide +kernel
theorem dX10_looksOver_36 : decode cX10_looksOver 36 = .ok (.if_icmp .ge 59, 3) := by decide +kernel
theorem dX10_looksOver_39 : decode cX10_looksOver 39 = .ok (.iconst 1, 1) := by decide +kernel
theorem dX10_looksOver_40 : decode cX10_looksOver 40 = .ok (.istore_n 2, 1) := by decide +kernel
theorem dX10_looksOver_41 : decode cX10_looksOver 41 = .ok (.iload_n 2, 1) := by decide +kernel
theorem dX10_looksOver_42 : decode cX10_looksOver 42 = .ok (.iconst 4, 1) := by decide +kernel
theorem dX10_looksOver_43 : decode cX10_looksOver 43 = .ok (.if_icmp .ge 46, 3) := by decide +kernel
theorem dX10_looksOver_46 : decode cX10_looksOver 46 = .ok (.aload_n 0, 1) := by decide +kernel
theorem dX10_looksOver_47 : decode cX10_looksOver 47 = .ok (.aload_n 0, 1) := by decide +kernel
theorem dX10_looksOver_48 : decode cX10_looksOver 48 = .ok (.getfield 342, 3) := by decide +kernel
theorem dX10_looksOver_51 : decode cX10_looksOver 51 = .ok (.ifCond .ne 24, 3) := by decide +kernel
theorem dX10_looksOver_54 : decode cX10_looksOver 54 = .ok (.aload_n 0, 1) := by decide +kernel
theorem dX10_looksOver_55 : decode cX10_looksOver 55 = .ok (.getfield 17, 3) := by decide +kernel
theorem dX10_looksOver_58 : decode cX10_looksOver 58 = .ok (.iconst 5, 1) := by decide +kernel
theorem dX10_looksOver_59 : decode cX10_looksOver 59 = .ok (.iconst 5, 1) := by decide +kernel
theorem dX10_looksOver_60 : decode cX10_looksOver 60 = .ok (.iload_n 1, 1) := by decide +kernel
theorem dX10_looksOver_61 : decode cX10_looksOver 61 = .ok (.imul, 1) := by decide +kernel
theorem dX10_looksOver_62 : decode cX10_looksOver 62 = .ok (.iadd, 1) := by decide +kernel
theorem dX10_looksOver_63 : decode cX10_looksOver 63 = .ok (.iload_n 2, 1) := by decide +kernel
theorem dX10_looksOver_64 : decode cX10_looksOver 64 = .ok (.iadd, 1) := by decide +kernel
theorem dX10_looksOver_65 : decode cX10_looksOver 65 = .ok (.iaload, 1) := by decide +kernel
theorem dX10_looksOver_66 : decode cX10_looksOver 66 = .ok (.aload_n 0, 1) := by decide +kernel
theorem dX10_looksOver_67 : decode cX10_looksOver 67 = .ok (.getfield 17, 3) := by decide +kernel
theorem dX10_looksOver_70 : decode cX10_looksOver 70 = .ok (.iconst 0, 1) := by decide +kernel
theorem dX10_looksOver_71 : decode cX10_looksOver 71 = .ok (.iaload, 1) := by decide +kernel
theorem dX10_looksOver_72 : decode cX10_looksOver 72 = .ok (.if_icmp .lt 7, 3) := by decide +kernel
theorem dX10_looksOver_75 : decode cX10_looksOver 75 = .ok (.iconst 1, 1) := by decide +kernel
theorem dX10_looksOver_76 : decode cX10_looksOver 76 = .ok (.goto 4, 3) := by decide +kernel
theorem dX10_looksOver_79 : decode cX10_looksOver 79 = .ok (.iconst 0, 1) := by decide +kernel
theorem dX10_looksOver_80 : decode cX10_looksOver 80 = .ok (.putfield 342, 3) := by decide +kernel
theorem dX10_looksOver_83 : decode cX10_looksOver 83 = .ok (.iinc 2 1, 3) := by decide +kernel
theorem dX10_looksOver_86 : decode cX10_looksOver 86 = .ok (.goto (-45), 3) := by decide +kernel
theorem dX10_looksOver_89 : decode cX10_looksOver 89 = .ok (.iinc 1 1, 3) := by decide +kernel
theorem dX10_looksOver_92 : decode cX10_looksOver 92 = .ok (.goto (-63), 3) := by decide +kernel
theorem dX10_looksOver_95 : decode cX10_looksOver 95 = .ok (.return_, 1) := by decide +kernel
theorem dX10_text_0 : decode cX10_text 0 = .ok (.aload_n 0, 1) := by decide +kernel
theorem dX10_text_1 : decode cX10_text 1 = .ok (.getfield 17, 3) := by decide +kernel
theorem dX10_text_4 : decode cX10_text 4 = .ok (.invokestatic 59, 3) := by decide +kernel
theorem dX10_text_7 : decode cX10_text 7 = .ok (.aload_n 0, 1) := by decide +kernel
theorem dX10_text_8 : decode cX10_text 8 = .ok (.iconst 0, 1) := by decide +kernel
theorem dX10_text_9 : decode cX10_text 9 = .ok (.putfield 319, 3) := by decide +kernel
theorem dX10_text_12 : decode cX10_text 12 = .ok (.aload_n 0, 1) := by decide +kernel
theorem dX10_text_13 : decode cX10_text 13 = .ok (.iconst 3, 1) := by decide +kernel
theorem dX10_text_14 : decode cX10_text 14 = .ok (.putfield 322, 3) := by decide +kernel
theorem dX10_text_17 : decode cX10_text 17 = .ok (.aload_n 0, 1) := by decide +kernel
theorem dX10_text_18 : decode cX10_text 18 = .ok (.iconst 0, 1) := by decide +kernel
theorem dX10_text_19 : decode cX10_text 19 = .ok (.putfield 342, 3) := by decide +kernel
theorem dX10_text_22 : decode cX10_text 22 = .ok (.aload_n 0, 1) := by decide +kernel
theorem dX10_text_23 : decode cX10_text 23 = .ok (.invokevirtual 345, 3) := by decide +kernel
theorem dX10_text_26 : decode cX10_text 26 = .ok (.aload_n 0, 1) := by decide +kernel
theorem dX10_text_27 : decode cX10_text 27 = .ok (.getfield 342, 3) := by decide +kernel
theorem dX10_text_30 : decode cX10_text 30 = .ok (.ifCond .ne 17, 3) := by decide +kernel
theorem dX10_text_33 : decode cX10_text 33 = .ok (.aload_n 0, 1) := by decide +kernel
theorem dX10_text_34 : decode cX10_text 34 = .ok (.getfield 322, 3) := by decide +kernel
theorem dX10_text_37 : decode cX10_text 37 = .ok (.ifCond .eq 10, 3) := by decide +kernel
theorem dX10_text_40 : decode cX10_text 40 = .ok (.aload_n 0, 1) := by decide +kernel
theorem dX10_text_41 : decode cX10_text 41 = .ok (.invokevirtual 363, 3) := by decide +kernel
theorem dX10_text_44 : decode cX10_text 44 = .ok (.goto (-18), 3) := by decide +kernel
theorem dX10_text_47 : decode cX10_text 47 = .ok (.aload_n 0, 1) := by decide +kernel
theorem dX10_text_48 : decode cX10_text 48 = .ok (.getfield 342, 3) := by decide +kernel
theorem dX10_text_51 : decode cX10_text 51 = .ok (.ifCond .ne 7, 3) := by decide +kernel
theorem dX10_text_54 : decode cX10_text 54 = .ok (.aload_n 0, 1) := by decide +kernel
theorem dX10_text_55 : decode cX10_text 55 = .ok (.invokevirtual 366, 3) := by decide +kernel
theorem dX10_text_58 : decode cX10_text 58 = .ok (.aload_n 0, 1) := by decide +kernel
theorem dX10_text_59 : decode cX10_text 59 = .ok (.iconst 0, 1) := by decide +kernel
theorem dX10_text_60 : decode cX10_text 60 = .ok (.putfield 316, 3) := by decide +kernel
theorem dX10_text_63 : decode cX10_text 63 = .ok (.aload_n 0, 1) := by decide +kernel
theorem dX10_text_64 : decode cX10_text 64 = .ok (.getfield 342, 3) := by decide +kernel
theorem dX10_text_67 : decode cX10_text 67 = .ok (.ifCond .eq 11, 3) := by decide +kernel
theorem dX10_text_70 : decode cX10_text 70 = .ok (.bipush (-4), 2) := by decide +kernel
theorem dX10_text_72 : decode cX10_text 72 = .ok (.aload_n 0, 1) := by decide +kernel
theorem dX10_text_73 : decode cX10_text 73 = .ok (.getfield 328, 3) := by decide +kernel
theorem dX10_text_76 : decode cX10_text 76 = .ok (.isub, 1) := by decide +kernel
theorem dX10_text_77 : decode cX10_text 77 = .ok (.ireturn, 1) := by decide +kernel
theorem dX10_text_78 : decode cX10_text 78 = .ok (.aload_n 0, 1) := by decide +kernel
theorem dX10_text_79 : decode cX10_text 79 = .ok (.getfield 17, 3) := by decide +kernel
theorem dX10_text_82 : decode cX10_text 82 = .ok (.aload_n 0, 1) := by decide +kernel
theorem dX10_text_83 : decode cX10_text 83 = .ok (.getfield 13, 3) := by decide +kernel
theorem dX10_text_86 : decode cX10_text 86 = .ok (.invokestatic 278, 3) := by decide +kernel
theorem dX10_text_89 : decode cX10_text 89 = .ok (.aload_n 0, 1) := by decide +kernel
theorem dX10_text_90 : decode cX10_text 90 = .ok (.iconst 0, 1) := by decide +kernel
theorem dX10_text_91 : decode cX10_text 91 = .ok (.putfield 63, 3) := by decide +kernel
theorem dX10_text_94 : decode cX10_text 94 = .ok (.aload_n 0, 1) := by decide +kernel
theorem dX10_text_95 : decode cX10_text 95 = .ok (.getfield 13, 3) := by decide +kernel
theorem dX10_text_98 : decode cX10_text 98 = .ok (.iconst 0, 1) := by decide +kernel
theorem dX10_text_99 : decode cX10_text 99 = .ok (.iaload, 1) := by decide +kernel
theorem dX10_text_100 : decode cX10_text 100 = .ok (.ireturn, 1) := by decide +kernel
