theorem dX0_init_0 : decode cX0_init 0 = .ok (.aload_n 0, 1) := by decide +kernel
theorem dX0_init_1 : decode cX0_init 1 = .ok (.invokespecial 3, 3) := by decide +kernel
theorem dX0_init_4 : decode cX0_init 4 = .ok (.return_, 1) := by decide +kernel
theorem dX0_next_0 : decode cX0_next 0 = .ok (.aload_n 0, 1) := by decide +kernel
theorem dX0_next_1 : decode cX0_next 1 = .ok (.aload_n 0, 1) := by decide +kernel
theorem dX0_next_2 : decode cX0_next 2 = .ok (.getfield 9, 3) := by decide +kernel
theorem dX0_next_5 : decode cX0_next 5 = .ok (.ldc 15, 2) := by decide +kernel
theorem dX0_next_7 : decode cX0_next 7 = .ok (.imul, 1) := by decide +kernel
theorem dX0_next_8 : decode cX0_next 8 = .ok (.sipush 12345, 3) := by decide +kernel
theorem dX0_next_11 : decode cX0_next 11 = .ok (.iadd, 1) := by decide +kernel
theorem dX0_next_12 : decode cX0_next 12 = .ok (.putfield 9, 3) := by decide +kernel
theorem dX0_next_15 : decode cX0_next 15 = .ok (.iload_n 1, 1) := by decide +kernel
theorem dX0_next_16 : decode cX0_next 16 = .ok (.ifCond .le 15, 3) := by decide +kernel
theorem dX0_next_19 : decode cX0_next 19 = .ok (.aload_n 0, 1) := by decide +kernel
theorem dX0_next_20 : decode cX0_next 20 = .ok (.getfield 9, 3) := by decide +kernel
theorem dX0_next_23 : decode cX0_next 23 = .ok (.bipush 8, 2) := by decide +kernel
theorem dX0_next_25 : decode cX0_next 25 = .ok (.iushr, 1) := by decide +kernel
theorem dX0_next_26 : decode cX0_next 26 = .ok (.iload_n 1, 1) := by decide +kernel
theorem dX0_next_27 : decode cX0_next 27 = .ok (.irem, 1) := by decide +kernel
theorem dX0_next_28 : decode cX0_next 28 = .ok (.goto 4, 3) := by decide +kernel
theorem dX0_next_31 : decode cX0_next 31 = .ok (.iconst 0, 1) := by decide +kernel
theorem dX0_next_32 : decode cX0_next 32 = .ok (.ireturn, 1) := by decide +kernel
theorem dX0_nextSort_0 : decode cX0_nextSort 0 = .ok (.aload_n 0, 1) := by decide +kernel
theorem dX0_nextSort_1 : decode cX0_nextSort 1 = .ok (.aload_n 1, 1) := by decide +kernel
theorem dX0_nextSort_2 : decode cX0_nextSort 2 = .ok (.invokevirtual 16, 3) := by decide +kernel
theorem dX0_nextSort_5 : decode cX0_nextSort 5 = .ok (.invokevirtual 22, 3) := by decide +kernel
theorem dX0_nextSort_8 : decode cX0_nextSort 8 = .ok (.istore_n 2, 1) := by decide +kernel
theorem dX0_nextSort_9 : decode cX0_nextSort 9 = .ok (.aload_n 1, 1) := by decide +kernel
theorem dX0_nextSort_10 : decode cX0_nextSort 10 = .ok (.getfield 26, 3) := by decide +kernel
theorem dX0_nextSort_13 : decode cX0_nextSort 13 = .ok (.iconst 1, 1) := by decide +kernel
theorem dX0_nextSort_14 : decode cX0_nextSort 14 = .ok (.isub, 1) := by decide +kernel
theorem dX0_nextSort_15 : decode cX0_nextSort 15 = .ok (.istore_n 3, 1) := by decide +kernel
theorem dX0_nextSort_16 : decode cX0_nextSort 16 = .ok (.iconst 0, 1) := by decide +kernel
theorem dX0_nextSort_17 : decode cX0_nextSort 17 = .ok (.istore 4, 2) := by decide +kernel
theorem dX0_nextSort_19 : decode cX0_nextSort 19 = .ok (.iload 4, 2) := by decide +kernel
theorem dX0_nextSort_21 : decode cX0_nextSort 21 = .ok (.iload_n 3, 1) := by decide +kernel
theorem dX0_nextSort_22 : decode cX0_nextSort 22 = .ok (.if_icmp .ge 26, 3) := by decide +kernel
theorem dX0_nextSort_25 : decode cX0_nextSort 25 = .ok (.iload_n 2, 1) := by decide +kernel
theorem dX0_nextSort_26 : decode cX0_nextSort 26 = .ok (.aload_n 1, 1) := by decide +kernel
theorem dX0_nextSort_27 : decode cX0_nextSort 27 = .ok (.iload 4, 2) := by decide +kernel
theorem dX0_nextSort_29 : decode cX0_nextSort 29 = .ok (.iconst 1, 1) := by decide +kernel
theorem dX0_nextSort_30 : decode cX0_nextSort 30 = .ok (.invokevirtual 29, 3) := by decide +kernel
theorem dX0_nextSort_33 : decode cX0_nextSort 33 = .ok (.isub, 1) := by decide +kernel
theorem dX0_nextSort_34 : decode cX0_nextSort 34 = .ok (.istore_n 2, 1) := by decide +kernel
theorem dX0_nextSort_35 : decode cX0_nextSort 35 = .ok (.iload_n 2, 1) := by decide +kernel
theorem dX0_nextSort_36 : decode cX0_nextSort 36 = .ok (.ifCond .ge 6, 3) := by decide +kernel
theorem dX0_nextSort_39 : decode cX0_nextSort 39 = .ok (.iload 4, 2) := by decide +kernel
theorem dX0_nextSort_41 : decode cX0_nextSort 41 = .ok (.ireturn, 1) := by decide +kernel
theorem dX0_nextSort_42 : decode cX0_nextSort 42 = .ok (.iinc 4 1, 3) := by decide +kernel
theorem dX0_nextSort_45 : decode cX0_nextSort 45 = .ok (.goto (-26), 3) := by decide +kernel
theorem dX0_nextSort_48 : decode cX0_nextSort 48 = .ok (.iload_n 3, 1) := by decide +kernel
theorem dX0_nextSort_49 : decode cX0_nextSort 49 = .ok (.ireturn, 1) := by decide +kernel
theorem dX1_init_0 : decode cX1_init 0 = .ok (.aload_n 0, 1) := by decide +kernel
theorem dX1_init_1 : decode cX1_init 1 = .ok (.invokespecial 3, 3) := by decide +kernel
theorem dX1_init_4 : decode cX1_init 4 = .ok (.aload_n 0, 1) := by decide +kernel
theorem dX1_init_5 : decode cX1_init 5 = .ok (.bipush 64, 2) := by decide +kernel
theorem dX1_init_7 : decode cX1_init 7 = .ok (.newarray .long, 2) := by decide +kernel
theorem dX1_init_9 : decode cX1_init 9 = .ok (.putfield 9, 3) := by decide +kernel
theorem dX1_init_12 : decode cX1_init 12 = .ok (.aload_n 0, 1) := by decide +kernel
theorem dX1_init_13 : decode cX1_init 13 = .ok (.bipush 64, 2) := by decide +kernel
theorem dX1_init_15 : decode cX1_init 15 = .ok (.newarray .long, 2) := by decide +kernel
theorem dX1_init_17 : decode cX1_init 17 = .ok (.putfield 15, 3) := by decide +kernel
theorem dX1_init_20 : decode cX1_init 20 = .ok (.aload_n 0, 1) := by decide +kernel
theorem dX1_init_21 : decode cX1_init 21 = .ok (.bipush 63, 2) := by decide +kernel
theorem dX1_init_23 : decode cX1_init 23 = .ok (.newarray .long, 2) := by decide +kernel
theorem dX1_init_25 : decode cX1_init 25 = .ok (.putfield 18, 3) := by decide +kernel
theorem dX1_init_28 : decode cX1_init 28 = .ok (.aload_n 0, 1) := by decide +kernel
theorem dX1_init_29 : decode cX1_init 29 = .ok (.new 21, 3) := by decide +kernel
theorem dX1_init_32 : decode cX1_init 32 = .ok (.dup, 1) := by decide +kernel
theorem dX1_init_33 : decode cX1_init 33 = .ok (.invokespecial 23, 3) := by decide +kernel
theorem dX1_init_36 : decode cX1_init 36 = .ok (.putfield 24, 3) := by decide +kernel
theorem dX1_init_39 : decode cX1_init 39 = .ok (.return_, 1) := by decide +kernel
theorem dX1_costOf_0 : decode cX1_costOf 0 = .ok (.aload_n 0, 1) := by decide +kernel
theorem dX1_costOf_1 : decode cX1_costOf 1 = .ok (.getfield 24, 3) := by decide +kernel
theorem dX1_costOf_4 : decode cX1_costOf 4 = .ok (.aload_n 1, 1) := by decide +kernel
theorem dX1_costOf_5 : decode cX1_costOf 5 = .ok (.iconst 0, 1) := by decide +kernel
theorem dX1_costOf_6 : decode cX1_costOf 6 = .ok (.iconst 0, 1) := by decide +kernel
theorem dX1_costOf_7 : decode cX1_costOf 7 = .ok (.iconst 0, 1) := by decide +kernel
theorem dX1_costOf_8 : decode cX1_costOf 8 = .ok (.invokevirtual 28, 3) := by decide +kernel
theorem dX1_costOf_11 : decode cX1_costOf 11 = .ok (.iconst 0, 1) := by decide +kernel
theorem dX1_costOf_12 : decode cX1_costOf 12 = .ok (.istore 5, 2) := by decide +kernel
theorem dX1_costOf_14 : decode cX1_costOf 14 = .ok (.iload 5, 2) := by decide +kernel
theorem dX1_costOf_16 : decode cX1_costOf 16 = .ok (.bipush 64, 2) := by decide +kernel
theorem dX1_costOf_18 : decode cX1_costOf 18 = .ok (.if_icmp .ge 17, 3) := by decide +kernel
theorem dX1_costOf_21 : decode cX1_costOf 21 = .ok (.aload_n 0, 1) := by decide +kernel
theorem dX1_costOf_22 : decode cX1_costOf 22 = .ok (.getfield 9, 3) := by decide +kernel
theorem dX1_costOf_25 : decode cX1_costOf 25 = .ok (.iload 5, 2) := by decide +kernel
theorem dX1_costOf_27 : decode cX1_costOf 27 = .ok (.lconst 0, 1) := by decide +kernel
theorem dX1_costOf_28 : decode cX1_costOf 28 = .ok (.lastore, 1) := by decide +kernel
theorem dX1_costOf_29 : decode cX1_costOf 29 = .ok (.iinc 5 1, 3) := by decide +kernel
theorem dX1_costOf_32 : decode cX1_costOf 32 = .ok (.goto (-18), 3) := by decide +kernel
theorem dX1_costOf_35 : decode cX1_costOf 35 = .ok (.iconst 1, 1) := by decide +kernel
theorem dX1_costOf_36 : decode cX1_costOf 36 = .ok (.istore 5, 2) := by decide +kernel
theorem dX1_costOf_38 : decode cX1_costOf 38 = .ok (.iload 5, 2) := by decide +kernel
theorem dX1_costOf_40 : decode cX1_costOf 40 = .ok (.iload_n 2, 1) := by decide +kernel
theorem dX1_costOf_41 : decode cX1_costOf 41 = .ok (.if_icmp .gt 34, 3) := by decide +kernel
theorem dX1_costOf_44 : decode cX1_costOf 44 = .ok (.aload_n 0, 1) := by decide +kernel
theorem dX1_costOf_45 : decode cX1_costOf 45 = .ok (.getfield 9, 3) := by decide +kernel
theorem dX1_costOf_48 : decode cX1_costOf 48 = .ok (.astore 6, 2) := by decide +kernel
theorem dX1_costOf_50 : decode cX1_costOf 50 = .ok (.aload_n 0, 1) := by decide +kernel
theorem dX1_costOf_51 : decode cX1_costOf 51 = .ok (.aload_n 0, 1) := by decide +kernel
theorem dX1_costOf_52 : decode cX1_costOf 52 = .ok (.getfield 15, 3) := by decide +kernel
theorem dX1_costOf_55 : decode cX1_costOf 55 = .ok (.putfield 9, 3) := by decide +kernel
theorem dX1_costOf_58 : decode cX1_costOf 58 = .ok (.aload_n 0, 1) := by decide +kernel
theorem dX1_costOf_59 : decode cX1_costOf 59 = .ok (.aload 6, 2) := by decide +kernel
theorem dX1_costOf_61 : decode cX1_costOf 61 = .ok (.putfield 15, 3) := by decide +kernel
theorem dX1_costOf_64 : decode cX1_costOf 64 = .ok (.aload_n 0, 1) := by decide +kernel
theorem dX1_costOf_65 : decode cX1_costOf 65 = .ok (.aload_n 1, 1) := by decide +kernel
theorem dX1_costOf_66 : decode cX1_costOf 66 = .ok (.invokevirtual 32, 3) := by decide +kernel
theorem dX1_costOf_69 : decode cX1_costOf 69 = .ok (.iinc 5 1, 3) := by decide +kernel
theorem dX1_costOf_72 : decode cX1_costOf 72 = .ok (.goto (-34), 3) := by decide +kernel
theorem dX1_costOf_75 : decode cX1_costOf 75 = .ok (.aload_n 0, 1) := by decide +kernel
theorem dX1_costOf_76 : decode cX1_costOf 76 = .ok (.getfield 9, 3) := by decide +kernel
theorem dX1_costOf_79 : decode cX1_costOf 79 = .ok (.iload_n 3, 1) := by decide +kernel
theorem dX1_costOf_80 : decode cX1_costOf 80 = .ok (.bipush 8, 2) := by decide +kernel
theorem dX1_costOf_82 : decode cX1_costOf 82 = .ok (.imul, 1) := by decide +kernel
theorem dX1_costOf_83 : decode cX1_costOf 83 = .ok (.iload 4, 2) := by decide +kernel
theorem dX1_costOf_85 : decode cX1_costOf 85 = .ok (.iadd, 1) := by decide +kernel
theorem dX1_costOf_86 : decode cX1_costOf 86 = .ok (.laload, 1) := by decide +kernel
theorem dX1_costOf_87 : decode cX1_costOf 87 = .ok (.lreturn, 1) := by decide +kernel
theorem dX1_fillPairs_0 : decode cX1_fillPairs 0 = .ok (.iconst 0, 1) := by decide +kernel
theorem dX1_fillPairs_1 : decode cX1_fillPairs 1 = .ok (.istore_n 2, 1) := by decide +kernel
theorem dX1_fillPairs_2 : decode cX1_fillPairs 2 = .ok (.iload_n 2, 1) := by decide +kernel
theorem dX1_fillPairs_3 : decode cX1_fillPairs 3 = .ok (.aload_n 1, 1) := by decide +kernel
theorem dX1_fillPairs_4 : decode cX1_fillPairs 4 = .ok (.getfield 36, 3) := by decide +kernel
theorem dX1_fillPairs_7 : decode cX1_fillPairs 7 = .ok (.if_icmp .ge 83, 3) := by decide +kernel
theorem dX1_fillPairs_10 : decode cX1_fillPairs 10 = .ok (.iload_n 2, 1) := by decide +kernel
theorem dX1_fillPairs_11 : decode cX1_fillPairs 11 = .ok (.istore_n 3, 1) := by decide +kernel
theorem dX1_fillPairs_12 : decode cX1_fillPairs 12 = .ok (.iload_n 3, 1) := by decide +kernel
theorem dX1_fillPairs_13 : decode cX1_fillPairs 13 = .ok (.aload_n 1, 1) := by decide +kernel
theorem dX1_fillPairs_14 : decode cX1_fillPairs 14 = .ok (.getfield 36, 3) := by decide +kernel
theorem dX1_fillPairs_17 : decode cX1_fillPairs 17 = .ok (.if_icmp .ge 67, 3) := by decide +kernel
theorem dX1_fillPairs_20 : decode cX1_fillPairs 20 = .ok (.aload_n 1, 1) := by decide +kernel
theorem dX1_fillPairs_21 : decode cX1_fillPairs 21 = .ok (.iload_n 2, 1) := by decide +kernel
theorem dX1_fillPairs_22 : decode cX1_fillPairs 22 = .ok (.iconst 0, 1) := by decide +kernel
theorem dX1_fillPairs_23 : decode cX1_fillPairs 23 = .ok (.invokevirtual 42, 3) := by decide +kernel
theorem dX1_fillPairs_26 : decode cX1_fillPairs 26 = .ok (.aload_n 1, 1) := by decide +kernel
theorem dX1_fillPairs_27 : decode cX1_fillPairs 27 = .ok (.iload_n 3, 1) := by decide +kernel
theorem dX1_fillPairs_28 : decode cX1_fillPairs 28 = .ok (.iconst 0, 1) := by decide +kernel
theorem dX1_fillPairs_29 : decode cX1_fillPairs 29 = .ok (.invokevirtual 42, 3) := by decide +kernel
theorem dX1_fillPairs_32 : decode cX1_fillPairs 32 = .ok (.iadd, 1) := by decide +kernel
theorem dX1_fillPairs_33 : decode cX1_fillPairs 33 = .ok (.istore 4, 2) := by decide +kernel
theorem dX1_fillPairs_35 : decode cX1_fillPairs 35 = .ok (.ldc2_w 46, 3) := by decide +kernel
theorem dX1_fillPairs_38 : decode cX1_fillPairs 38 = .ok (.iload 4, 2) := by decide +kernel
theorem dX1_fillPairs_40 : decode cX1_fillPairs 40 = .ok (.i2l, 1) := by decide +kernel
theorem dX1_fillPairs_41 : decode cX1_fillPairs 41 = .ok (.lmul, 1) := by decide +kernel
theorem dX1_fillPairs_42 : decode cX1_fillPairs 42 = .ok (.aload_n 0, 1) := by decide +kernel
theorem dX1_fillPairs_43 : decode cX1_fillPairs 43 = .ok (.aload_n 1, 1) := by decide +kernel
theorem dX1_fillPairs_44 : decode cX1_fillPairs 44 = .ok (.iload_n 2, 1) := by decide +kernel
theorem dX1_fillPairs_45 : decode cX1_fillPairs 45 = .ok (.iload_n 3, 1) := by decide +kernel
theorem dX1_fillPairs_46 : decode cX1_fillPairs 46 = .ok (.invokevirtual 48, 3) := by decide +kernel
theorem dX1_fillPairs_49 : decode cX1_fillPairs 49 = .ok (.ladd, 1) := by decide +kernel
theorem dX1_fillPairs_50 : decode cX1_fillPairs 50 = .ok (.lstore 5, 2) := by decide +kernel
theorem dX1_fillPairs_52 : decode cX1_fillPairs 52 = .ok (.aload_n 0, 1) := by decide +kernel
theorem dX1_fillPairs_53 : decode cX1_fillPairs 53 = .ok (.getfield 9, 3) := by decide +kernel
theorem dX1_fillPairs_56 : decode cX1_fillPairs 56 = .ok (.iload_n 2, 1) := by decide +kernel
theorem dX1_fillPairs_57 : decode cX1_fillPairs 57 = .ok (.bipush 8, 2) := by decide +kernel
theorem dX1_fillPairs_59 : decode cX1_fillPairs 59 = .ok (.imul, 1) := by decide +kernel
theorem dX1_fillPairs_60 : decode cX1_fillPairs 60 = .ok (.iload_n 3, 1) := by decide +kernel
theorem dX1_fillPairs_61 : decode cX1_fillPairs 61 = .ok (.iadd, 1) := by decide +kernel
theorem dX1_fillPairs_62 : decode cX1_fillPairs 62 = .ok (.lload 5, 2) := by decide +kernel
theorem dX1_fillPairs_64 : decode cX1_fillPairs 64 = .ok (.lastore, 1) := by decide +kernel
theorem dX1_fillPairs_65 : decode cX1_fillPairs 65 = .ok (.aload_n 0, 1) := by decide +kernel
theorem dX1_fillPairs_66 : decode cX1_fillPairs 66 = .ok (.getfield 9, 3) := by decide +kernel
theorem dX1_fillPairs_69 : decode cX1_fillPairs 69 = .ok (.iload_n 3, 1) := by decide +kernel
theorem dX1_fillPairs_70 : decode cX1_fillPairs 70 = .ok (.bipush 8, 2) := by decide +kernel
theorem dX1_fillPairs_72 : decode cX1_fillPairs 72 = .ok (.imul, 1) := by decide +kernel
theorem dX1_fillPairs_73 : decode cX1_fillPairs 73 = .ok (.iload_n 2, 1) := by decide +kernel
theorem dX1_fillPairs_74 : decode cX1_fillPairs 74 = .ok (.iadd, 1) := by decide +kernel
theorem dX1_fillPairs_75 : decode cX1_fillPairs 75 = .ok (.lload 5, 2) := by decide +kernel
theorem dX1_fillPairs_77 : decode cX1_fillPairs 77 = .ok (.lastore, 1) := by decide +kernel
theorem dX1_fillPairs_78 : decode cX1_fillPairs 78 = .ok (.iinc 3 1, 3) := by decide +kernel
theorem dX1_fillPairs_81 : decode cX1_fillPairs 81 = .ok (.goto (-69), 3) := by decide +kernel
theorem dX1_fillPairs_84 : decode cX1_fillPairs 84 = .ok (.iinc 2 1, 3) := by decide +kernel
theorem dX1_fillPairs_87 : decode cX1_fillPairs 87 = .ok (.goto (-85), 3) := by decide +kernel
theorem dX1_fillPairs_90 : decode cX1_fillPairs 90 = .ok (.return_, 1) := by decide +kernel
theorem dX1_costBehindPremiums_0 : decode cX1_costBehindPremiums 0 = .ok (.iconst 2, 1) := by decide +kernel
theorem dX1_costBehindPremiums_1 : decode cX1_costBehindPremiums 1 = .ok (.aload_n 1, 1) := by decide +kernel
theorem dX1_costBehindPremiums_2 : decode cX1_costBehindPremiums 2 = .ok (.invokevirtual 52, 3) := by decide +kernel
theorem dX1_costBehindPremiums_5 : decode cX1_costBehindPremiums 5 = .ok (.imul, 1) := by decide +kernel
theorem dX1_costBehindPremiums_6 : decode cX1_costBehindPremiums 6 = .ok (.istore 4, 2) := by decide +kernel
theorem dX1_costBehindPremiums_8 : decode cX1_costBehindPremiums 8 = .ok (.iconst 0, 1) := by decide +kernel
theorem dX1_costBehindPremiums_9 : decode cX1_costBehindPremiums 9 = .ok (.istore 5, 2) := by decide +kernel
theorem dX1_costBehindPremiums_11 : decode cX1_costBehindPremiums 11 = .ok (.iload 5, 2) := by decide +kernel
theorem dX1_costBehindPremiums_13 : decode cX1_costBehindPremiums 13 = .ok (.iconst 3, 1) := by decide +kernel
theorem dX1_costBehindPremiums_14 : decode cX1_costBehindPremiums 14 = .ok (.if_icmp .ge 61, 3) := by decide +kernel
theorem dX1_costBehindPremiums_17 : decode cX1_costBehindPremiums 17 = .ok (.iconst 0, 1) := by decide +kernel
theorem dX1_costBehindPremiums_18 : decode cX1_costBehindPremiums 18 = .ok (.istore 6, 2) := by decide +kernel
theorem dX1_costBehindPremiums_20 : decode cX1_costBehindPremiums 20 = .ok (.iload 6, 2) := by decide +kernel
theorem dX1_costBehindPremiums_22 : decode cX1_costBehindPremiums 22 = .ok (.iconst 3, 1) := by decide +kernel
theorem dX1_costBehindPremiums_23 : decode cX1_costBehindPremiums 23 = .ok (.if_icmp .ge 46, 3) := by decide +kernel
theorem dX1_costBehindPremiums_26 : decode cX1_costBehindPremiums 26 = .ok (.aload_n 0, 1) := by decide +kernel
theorem dX1_costBehindPremiums_27 : decode cX1_costBehindPremiums 27 = .ok (.getfield 18, 3) := by decide +kernel
theorem dX1_costBehindPremiums_30 : decode cX1_costBehindPremiums 30 = .ok (.iload 4, 2) := by decide +kernel
theorem dX1_costBehindPremiums_32 : decode cX1_costBehindPremiums 32 = .ok (.iload 5, 2) := by decide +kernel
theorem dX1_costBehindPremiums_34 : decode cX1_costBehindPremiums 34 = .ok (.iload 6, 2) := by decide +kernel
theorem dX1_costBehindPremiums_36 : decode cX1_costBehindPremiums 36 = .ok (.invokestatic 56, 3) := by decide +kernel
theorem dX1_costBehindPremiums_39 : decode cX1_costBehindPremiums 39 = .ok (.aload_n 0, 1) := by decide +kernel
theorem dX1_costBehindPremiums_40 : decode cX1_costBehindPremiums 40 = .ok (.getfield 15, 3) := by decide +kernel
theorem dX1_costBehindPremiums_43 : decode cX1_costBehindPremiums 43 = .ok (.aload_n 1, 1) := by decide +kernel
theorem dX1_costBehindPremiums_44 : decode cX1_costBehindPremiums 44 = .ok (.iload_n 2, 1) := by decide +kernel
theorem dX1_costBehindPremiums_45 : decode cX1_costBehindPremiums 45 = .ok (.iload 5, 2) := by decide +kernel
theorem dX1_costBehindPremiums_47 : decode cX1_costBehindPremiums 47 = .ok (.invokevirtual 60, 3) := by decide +kernel
theorem dX1_costBehindPremiums_50 : decode cX1_costBehindPremiums 50 = .ok (.bipush 8, 2) := by decide +kernel
theorem dX1_costBehindPremiums_52 : decode cX1_costBehindPremiums 52 = .ok (.imul, 1) := by decide +kernel
theorem dX1_costBehindPremiums_53 : decode cX1_costBehindPremiums 53 = .ok (.aload_n 1, 1) := by decide +kernel
theorem dX1_costBehindPremiums_54 : decode cX1_costBehindPremiums 54 = .ok (.iload_n 3, 1) := by decide +kernel
theorem dX1_costBehindPremiums_55 : decode cX1_costBehindPremiums 55 = .ok (.iload 6, 2) := by decide +kernel
theorem dX1_costBehindPremiums_57 : decode cX1_costBehindPremiums 57 = .ok (.invokevirtual 60, 3) := by decide +kernel
theorem dX1_costBehindPremiums_60 : decode cX1_costBehindPremiums 60 = .ok (.iadd, 1) := by decide +kernel
theorem dX1_costBehindPremiums_61 : decode cX1_costBehindPremiums 61 = .ok (.laload, 1) := by decide +kernel
theorem dX1_costBehindPremiums_62 : decode cX1_costBehindPremiums 62 = .ok (.lastore, 1) := by decide +kernel
theorem dX1_costBehindPremiums_63 : decode cX1_costBehindPremiums 63 = .ok (.iinc 6 1, 3) := by decide +kernel
theorem dX1_costBehindPremiums_66 : decode cX1_costBehindPremiums 66 = .ok (.goto (-46), 3) := by decide +kernel
theorem dX1_costBehindPremiums_69 : decode cX1_costBehindPremiums 69 = .ok (.iinc 5 1, 3) := by decide +kernel
theorem dX1_costBehindPremiums_72 : decode cX1_costBehindPremiums 72 = .ok (.goto (-61), 3) := by decide +kernel
theorem dX1_costBehindPremiums_75 : decode cX1_costBehindPremiums 75 = .ok (.iload 4, 2) := by decide +kernel
theorem dX1_costBehindPremiums_77 : decode cX1_costBehindPremiums 77 = .ok (.iconst 1, 1) := by decide +kernel
theorem dX1_costBehindPremiums_78 : decode cX1_costBehindPremiums 78 = .ok (.isub, 1) := by decide +kernel
theorem dX1_costBehindPremiums_79 : decode cX1_costBehindPremiums 79 = .ok (.istore 5, 2) := by decide +kernel
theorem dX1_costBehindPremiums_81 : decode cX1_costBehindPremiums 81 = .ok (.iload 5, 2) := by decide +kernel
theorem dX1_costBehindPremiums_83 : decode cX1_costBehindPremiums 83 = .ok (.ifCond .lt 99, 3) := by decide +kernel
theorem dX1_costBehindPremiums_86 : decode cX1_costBehindPremiums 86 = .ok (.iconst 0, 1) := by decide +kernel
theorem dX1_costBehindPremiums_87 : decode cX1_costBehindPremiums 87 = .ok (.istore 6, 2) := by decide +kernel
theorem dX1_costBehindPremiums_89 : decode cX1_costBehindPremiums 89 = .ok (.iload 6, 2) := by decide +kernel
theorem dX1_costBehindPremiums_91 : decode cX1_costBehindPremiums 91 = .ok (.iconst 2, 1) := by decide +kernel
theorem dX1_costBehindPremiums_92 : decode cX1_costBehindPremiums 92 = .ok (.iload 5, 2) := by decide +kernel
theorem dX1_costBehindPremiums_94 : decode cX1_costBehindPremiums 94 = .ok (.invokestatic 63, 3) := by decide +kernel
theorem dX1_costBehindPremiums_97 : decode cX1_costBehindPremiums 97 = .ok (.if_icmp .gt 79, 3) := by decide +kernel
theorem dX1_costBehindPremiums_100 : decode cX1_costBehindPremiums 100 = .ok (.iconst 0, 1) := by decide +kernel
theorem dX1_costBehindPremiums_101 : decode cX1_costBehindPremiums 101 = .ok (.istore 7, 2) := by decide +kernel
theorem dX1_costBehindPremiums_103 : decode cX1_costBehindPremiums 103 = .ok (.iload 7, 2) := by decide +kernel
theorem dX1_costBehindPremiums_105 : decode cX1_costBehindPremiums 105 = .ok (.iconst 2, 1) := by decide +kernel
theorem dX1_costBehindPremiums_106 : decode cX1_costBehindPremiums 106 = .ok (.iload 5, 2) := by decide +kernel
theorem dX1_costBehindPremiums_108 : decode cX1_costBehindPremiums 108 = .ok (.iload 6, 2) := by decide +kernel
theorem dX1_costBehindPremiums_110 : decode cX1_costBehindPremiums 110 = .ok (.isub, 1) := by decide +kernel
theorem dX1_costBehindPremiums_111 : decode cX1_costBehindPremiums 111 = .ok (.invokestatic 63, 3) := by decide +kernel
theorem dX1_costBehindPremiums_114 : decode cX1_costBehindPremiums 114 = .ok (.if_icmp .gt 56, 3) := by decide +kernel
theorem dX1_costBehindPremiums_117 : decode cX1_costBehindPremiums 117 = .ok (.aload_n 0, 1) := by decide +kernel
theorem dX1_costBehindPremiums_118 : decode cX1_costBehindPremiums 118 = .ok (.getfield 18, 3) := by decide +kernel
theorem dX1_costBehindPremiums_121 : decode cX1_costBehindPremiums 121 = .ok (.iload 5, 2) := by decide +kernel
theorem dX1_costBehindPremiums_123 : decode cX1_costBehindPremiums 123 = .ok (.iload 6, 2) := by decide +kernel
theorem dX1_costBehindPremiums_125 : decode cX1_costBehindPremiums 125 = .ok (.iload 7, 2) := by decide +kernel
theorem dX1_costBehindPremiums_127 : decode cX1_costBehindPremiums 127 = .ok (.invokestatic 56, 3) := by decide +kernel
theorem dX1_costBehindPremiums_130 : decode cX1_costBehindPremiums 130 = .ok (.aload_n 0, 1) := by decide +kernel
theorem dX1_costBehindPremiums_131 : decode cX1_costBehindPremiums 131 = .ok (.getfield 24, 3) := by decide +kernel
theorem dX1_costBehindPremiums_134 : decode cX1_costBehindPremiums 134 = .ok (.aload_n 0, 1) := by decide +kernel
theorem dX1_costBehindPremiums_135 : decode cX1_costBehindPremiums 135 = .ok (.getfield 18, 3) := by decide +kernel
theorem dX1_costBehindPremiums_138 : decode cX1_costBehindPremiums 138 = .ok (.iload 5, 2) := by decide +kernel
theorem dX1_costBehindPremiums_140 : decode cX1_costBehindPremiums 140 = .ok (.iconst 1, 1) := by decide +kernel
theorem dX1_costBehindPremiums_141 : decode cX1_costBehindPremiums 141 = .ok (.iadd, 1) := by decide +kernel
theorem dX1_costBehindPremiums_142 : decode cX1_costBehindPremiums 142 = .ok (.iload 6, 2) := by decide +kernel
theorem dX1_costBehindPremiums_144 : decode cX1_costBehindPremiums 144 = .ok (.iload 7, 2) := by decide +kernel
theorem dX1_costBehindPremiums_146 : decode cX1_costBehindPremiums 146 = .ok (.invokestatic 56, 3) := by decide +kernel
theorem dX1_costBehindPremiums_149 : decode cX1_costBehindPremiums 149 = .ok (.laload, 1) := by decide +kernel
theorem dX1_costBehindPremiums_150 : decode cX1_costBehindPremiums 150 = .ok (.aload_n 0, 1) := by decide +kernel
theorem dX1_costBehindPremiums_151 : decode cX1_costBehindPremiums 151 = .ok (.iload 5, 2) := by decide +kernel
theorem dX1_costBehindPremiums_153 : decode cX1_costBehindPremiums 153 = .ok (.iload 6, 2) := by decide +kernel
theorem dX1_costBehindPremiums_155 : decode cX1_costBehindPremiums 155 = .ok (.iload 7, 2) := by decide +kernel
theorem dX1_costBehindPremiums_157 : decode cX1_costBehindPremiums 157 = .ok (.invokevirtual 68, 3) := by decide +kernel
theorem dX1_costBehindPremiums_160 : decode cX1_costBehindPremiums 160 = .ok (.invokevirtual 72, 3) := by decide +kernel
theorem dX1_costBehindPremiums_163 : decode cX1_costBehindPremiums 163 = .ok (.lastore, 1) := by decide +kernel
theorem dX1_costBehindPremiums_164 : decode cX1_costBehindPremiums 164 = .ok (.iinc 7 1, 3) := by decide +kernel
theorem dX1_costBehindPremiums_167 : decode cX1_costBehindPremiums 167 = .ok (.goto (-64), 3) := by decide +kernel
theorem dX1_costBehindPremiums_170 : decode cX1_costBehindPremiums 170 = .ok (.iinc 6 1, 3) := by decide +kernel
theorem dX1_costBehindPremiums_173 : decode cX1_costBehindPremiums 173 = .ok (.goto (-84), 3) := by decide +kernel
theorem dX1_costBehindPremiums_176 : decode cX1_costBehindPremiums 176 = .ok (.iinc 5 (-1), 3) := by decide +kernel
theorem dX1_costBehindPremiums_179 : decode cX1_costBehindPremiums 179 = .ok (.goto (-98), 3) := by decide +kernel
theorem dX1_costBehindPremiums_182 : decode cX1_costBehindPremiums 182 = .ok (.aload_n 0, 1) := by decide +kernel
theorem dX1_costBehindPremiums_183 : decode cX1_costBehindPremiums 183 = .ok (.getfield 18, 3) := by decide +kernel
theorem dX1_costBehindPremiums_186 : decode cX1_costBehindPremiums 186 = .ok (.iconst 0, 1) := by decide +kernel
theorem dX1_costBehindPremiums_187 : decode cX1_costBehindPremiums 187 = .ok (.iconst 0, 1) := by decide +kernel
theorem dX1_costBehindPremiums_188 : decode cX1_costBehindPremiums 188 = .ok (.iconst 0, 1) := by decide +kernel
theorem dX1_costBehindPremiums_189 : decode cX1_costBehindPremiums 189 = .ok (.invokestatic 56, 3) := by decide +kernel
theorem dX1_costBehindPremiums_192 : decode cX1_costBehindPremiums 192 = .ok (.laload, 1) := by decide +kernel
theorem dX1_costBehindPremiums_193 : decode cX1_costBehindPremiums 193 = .ok (.lreturn, 1) := by decide +kernel
theorem dX1_toldCost_0 : decode cX1_toldCost 0 = .ok (.aload_n 0, 1) := by decide +kernel
theorem dX1_toldCost_1 : decode cX1_toldCost 1 = .ok (.getfield 18, 3) := by decide +kernel
theorem dX1_toldCost_4 : decode cX1_toldCost 4 = .ok (.iload_n 1, 1) := by decide +kernel
theorem dX1_toldCost_5 : decode cX1_toldCost 5 = .ok (.iconst 1, 1) := by decide +kernel
theorem dX1_toldCost_6 : decode cX1_toldCost 6 = .ok (.iadd, 1) := by decide +kernel
theorem dX1_toldCost_7 : decode cX1_toldCost 7 = .ok (.iconst 2, 1) := by decide +kernel
theorem dX1_toldCost_8 : decode cX1_toldCost 8 = .ok (.iload_n 2, 1) := by decide +kernel
theorem dX1_toldCost_9 : decode cX1_toldCost 9 = .ok (.iconst 1, 1) := by decide +kernel
theorem dX1_toldCost_10 : decode cX1_toldCost 10 = .ok (.iadd, 1) := by decide +kernel
theorem dX1_toldCost_11 : decode cX1_toldCost 11 = .ok (.invokestatic 63, 3) := by decide +kernel
theorem dX1_toldCost_14 : decode cX1_toldCost 14 = .ok (.iload_n 3, 1) := by decide +kernel
theorem dX1_toldCost_15 : decode cX1_toldCost 15 = .ok (.invokestatic 56, 3) := by decide +kernel
theorem dX1_toldCost_18 : decode cX1_toldCost 18 = .ok (.laload, 1) := by decide +kernel
theorem dX1_toldCost_19 : decode cX1_toldCost 19 = .ok (.lstore 4, 2) := by decide +kernel
theorem dX1_toldCost_21 : decode cX1_toldCost 21 = .ok (.aload_n 0, 1) := by decide +kernel
theorem dX1_toldCost_22 : decode cX1_toldCost 22 = .ok (.getfield 18, 3) := by decide +kernel
theorem dX1_toldCost_25 : decode cX1_toldCost 25 = .ok (.iload_n 1, 1) := by decide +kernel
theorem dX1_toldCost_26 : decode cX1_toldCost 26 = .ok (.iconst 1, 1) := by decide +kernel
theorem dX1_toldCost_27 : decode cX1_toldCost 27 = .ok (.iadd, 1) := by decide +kernel
theorem dX1_toldCost_28 : decode cX1_toldCost 28 = .ok (.iload_n 2, 1) := by decide +kernel
theorem dX1_toldCost_29 : decode cX1_toldCost 29 = .ok (.iconst 2, 1) := by decide +kernel
theorem dX1_toldCost_30 : decode cX1_toldCost 30 = .ok (.iload_n 3, 1) := by decide +kernel
theorem dX1_toldCost_31 : decode cX1_toldCost 31 = .ok (.iconst 1, 1) := by decide +kernel
theorem dX1_toldCost_32 : decode cX1_toldCost 32 = .ok (.iadd, 1) := by decide +kernel
theorem dX1_toldCost_33 : decode cX1_toldCost 33 = .ok (.invokestatic 63, 3) := by decide +kernel
theorem dX1_toldCost_36 : decode cX1_toldCost 36 = .ok (.invokestatic 56, 3) := by decide +kernel
theorem dX1_toldCost_39 : decode cX1_toldCost 39 = .ok (.laload, 1) := by decide +kernel
theorem dX1_toldCost_40 : decode cX1_toldCost 40 = .ok (.lstore 6, 2) := by decide +kernel
theorem dX1_toldCost_42 : decode cX1_toldCost 42 = .ok (.lload 4, 2) := by decide +kernel
theorem dX1_toldCost_44 : decode cX1_toldCost 44 = .ok (.lload 6, 2) := by decide +kernel
theorem dX1_toldCost_46 : decode cX1_toldCost 46 = .ok (.invokestatic 76, 3) := by decide +kernel
theorem dX1_toldCost_49 : decode cX1_toldCost 49 = .ok (.lreturn, 1) := by decide +kernel
theorem dX1_index_0 : decode cX1_index 0 = .ok (.iload_n 0, 1) := by decide +kernel
theorem dX1_index_1 : decode cX1_index 1 = .ok (.iconst 3, 1) := by decide +kernel
theorem dX1_index_2 : decode cX1_index 2 = .ok (.imul, 1) := by decide +kernel
theorem dX1_index_3 : decode cX1_index 3 = .ok (.iload_n 1, 1) := by decide +kernel
theorem dX1_index_4 : decode cX1_index 4 = .ok (.iadd, 1) := by decide +kernel
theorem dX1_index_5 : decode cX1_index 5 = .ok (.iconst 3, 1) := by decide +kernel
theorem dX1_index_6 : decode cX1_index 6 = .ok (.imul, 1) := by decide +kernel
theorem dX1_index_7 : decode cX1_index 7 = .ok (.iload_n 2, 1) := by decide +kernel
theorem dX1_index_8 : decode cX1_index 8 = .ok (.iadd, 1) := by decide +kernel
theorem dX1_index_9 : decode cX1_index 9 = .ok (.ireturn, 1) := by decide +kernel
theorem dX2_init_0 : decode cX2_init 0 = .ok (.aload_n 0, 1) := by decide +kernel
theorem dX2_init_1 : decode cX2_init 1 = .ok (.invokespecial 3, 3) := by decide +kernel
theorem dX2_init_4 : decode cX2_init 4 = .ok (.aload_n 0, 1) := by decide +kernel
theorem dX2_init_5 : decode cX2_init 5 = .ok (.bipush 48, 2) := by decide +kernel
theorem dX2_init_7 : decode cX2_init 7 = .ok (.newarray .int, 2) := by decide +kernel
theorem dX2_init_9 : decode cX2_init 9 = .ok (.putfield 9, 3) := by decide +kernel
theorem dX2_init_12 : decode cX2_init 12 = .ok (.aload_n 0, 1) := by decide +kernel
theorem dX2_init_13 : decode cX2_init 13 = .ok (.bipush 48, 2) := by decide +kernel
theorem dX2_init_15 : decode cX2_init 15 = .ok (.newarray .int, 2) := by decide +kernel
theorem dX2_init_17 : decode cX2_init 17 = .ok (.putfield 15, 3) := by decide +kernel
theorem dX2_init_20 : decode cX2_init 20 = .ok (.return_, 1) := by decide +kernel
theorem dX2_clear_0 : decode cX2_clear 0 = .ok (.aload_n 0, 1) := by decide +kernel
theorem dX2_clear_1 : decode cX2_clear 1 = .ok (.iconst 0, 1) := by decide +kernel
theorem dX2_clear_2 : decode cX2_clear 2 = .ok (.putfield 18, 3) := by decide +kernel
theorem dX2_clear_5 : decode cX2_clear 5 = .ok (.aload_n 0, 1) := by decide +kernel
theorem dX2_clear_6 : decode cX2_clear 6 = .ok (.iconst 0, 1) := by decide +kernel
theorem dX2_clear_7 : decode cX2_clear 7 = .ok (.putfield 22, 3) := by decide +kernel
theorem dX2_clear_10 : decode cX2_clear 10 = .ok (.aload_n 0, 1) := by decide +kernel
theorem dX2_clear_11 : decode cX2_clear 11 = .ok (.iconst 0, 1) := by decide +kernel
theorem dX2_clear_12 : decode cX2_clear 12 = .ok (.putfield 25, 3) := by decide +kernel
theorem dX2_clear_15 : decode cX2_clear 15 = .ok (.aload_n 0, 1) := by decide +kernel
theorem dX2_clear_16 : decode cX2_clear 16 = .ok (.iconst 0, 1) := by decide +kernel
theorem dX2_clear_17 : decode cX2_clear 17 = .ok (.putfield 28, 3) := by decide +kernel
theorem dX2_clear_20 : decode cX2_clear 20 = .ok (.aload_n 0, 1) := by decide +kernel
theorem dX2_clear_21 : decode cX2_clear 21 = .ok (.iconst 0, 1) := by decide +kernel
theorem dX2_clear_22 : decode cX2_clear 22 = .ok (.putfield 31, 3) := by decide +kernel
theorem dX2_clear_25 : decode cX2_clear 25 = .ok (.aload_n 0, 1) := by decide +kernel
theorem dX2_clear_26 : decode cX2_clear 26 = .ok (.iconst 0, 1) := by decide +kernel
theorem dX2_clear_27 : decode cX2_clear 27 = .ok (.putfield 34, 3) := by decide +kernel
theorem dX2_clear_30 : decode cX2_clear 30 = .ok (.aload_n 0, 1) := by decide +kernel
theorem dX2_clear_31 : decode cX2_clear 31 = .ok (.iconst 0, 1) := by decide +kernel
theorem dX2_clear_32 : decode cX2_clear 32 = .ok (.putfield 37, 3) := by decide +kernel
theorem dX2_clear_35 : decode cX2_clear 35 = .ok (.aload_n 0, 1) := by decide +kernel
theorem dX2_clear_36 : decode cX2_clear 36 = .ok (.iconst 0, 1) := by decide +kernel
theorem dX2_clear_37 : decode cX2_clear 37 = .ok (.putfield 40, 3) := by decide +kernel
theorem dX2_clear_40 : decode cX2_clear 40 = .ok (.aload_n 0, 1) := by decide +kernel
theorem dX2_clear_41 : decode cX2_clear 41 = .ok (.invokevirtual 43, 3) := by decide +kernel
theorem dX2_clear_44 : decode cX2_clear 44 = .ok (.return_, 1) := by decide +kernel
theorem dX2_copy_0 : decode cX2_copy 0 = .ok (.aload_n 0, 1) := by decide +kernel
theorem dX2_copy_1 : decode cX2_copy 1 = .ok (.aload_n 1, 1) := by decide +kernel
theorem dX2_copy_2 : decode cX2_copy 2 = .ok (.getfield 18, 3) := by decide +kernel
theorem dX2_copy_5 : decode cX2_copy 5 = .ok (.putfield 18, 3) := by decide +kernel
theorem dX2_copy_8 : decode cX2_copy 8 = .ok (.aload_n 0, 1) := by decide +kernel
theorem dX2_copy_9 : decode cX2_copy 9 = .ok (.aload_n 1, 1) := by decide +kernel
theorem dX2_copy_10 : decode cX2_copy 10 = .ok (.getfield 46, 3) := by decide +kernel
theorem dX2_copy_13 : decode cX2_copy 13 = .ok (.putfield 46, 3) := by decide +kernel
theorem dX2_copy_16 : decode cX2_copy 16 = .ok (.aload_n 0, 1) := by decide +kernel
theorem dX2_copy_17 : decode cX2_copy 17 = .ok (.aload_n 1, 1) := by decide +kernel
theorem dX2_copy_18 : decode cX2_copy 18 = .ok (.getfield 50, 3) := by decide +kernel
theorem dX2_copy_21 : decode cX2_copy 21 = .ok (.putfield 50, 3) := by decide +kernel
theorem dX2_copy_24 : decode cX2_copy 24 = .ok (.aload_n 0, 1) := by decide +kernel
theorem dX2_copy_25 : decode cX2_copy 25 = .ok (.aload_n 1, 1) := by decide +kernel
theorem dX2_copy_26 : decode cX2_copy 26 = .ok (.getfield 53, 3) := by decide +kernel
theorem dX2_copy_29 : decode cX2_copy 29 = .ok (.putfield 53, 3) := by decide +kernel
theorem dX2_copy_32 : decode cX2_copy 32 = .ok (.aload_n 0, 1) := by decide +kernel
theorem dX2_copy_33 : decode cX2_copy 33 = .ok (.aload_n 1, 1) := by decide +kernel
theorem dX2_copy_34 : decode cX2_copy 34 = .ok (.getfield 56, 3) := by decide +kernel
theorem dX2_copy_37 : decode cX2_copy 37 = .ok (.putfield 56, 3) := by decide +kernel
theorem dX2_copy_40 : decode cX2_copy 40 = .ok (.aload_n 0, 1) := by decide +kernel
theorem dX2_copy_41 : decode cX2_copy 41 = .ok (.aload_n 1, 1) := by decide +kernel
theorem dX2_copy_42 : decode cX2_copy 42 = .ok (.getfield 59, 3) := by decide +kernel
theorem dX2_copy_45 : decode cX2_copy 45 = .ok (.putfield 59, 3) := by decide +kernel
theorem dX2_copy_48 : decode cX2_copy 48 = .ok (.aload_n 0, 1) := by decide +kernel
theorem dX2_copy_49 : decode cX2_copy 49 = .ok (.aload_n 1, 1) := by decide +kernel
theorem dX2_copy_50 : decode cX2_copy 50 = .ok (.getfield 22, 3) := by decide +kernel
theorem dX2_copy_53 : decode cX2_copy 53 = .ok (.putfield 22, 3) := by decide +kernel
theorem dX2_copy_56 : decode cX2_copy 56 = .ok (.aload_n 0, 1) := by decide +kernel
theorem dX2_copy_57 : decode cX2_copy 57 = .ok (.aload_n 1, 1) := by decide +kernel
theorem dX2_copy_58 : decode cX2_copy 58 = .ok (.getfield 25, 3) := by decide +kernel
theorem dX2_copy_61 : decode cX2_copy 61 = .ok (.putfield 25, 3) := by decide +kernel
theorem dX2_copy_64 : decode cX2_copy 64 = .ok (.aload_n 0, 1) := by decide +kernel
theorem dX2_copy_65 : decode cX2_copy 65 = .ok (.aload_n 1, 1) := by decide +kernel
theorem dX2_copy_66 : decode cX2_copy 66 = .ok (.getfield 28, 3) := by decide +kernel
theorem dX2_copy_69 : decode cX2_copy 69 = .ok (.putfield 28, 3) := by decide +kernel
theorem dX2_copy_72 : decode cX2_copy 72 = .ok (.aload_n 0, 1) := by decide +kernel
theorem dX2_copy_73 : decode cX2_copy 73 = .ok (.aload_n 1, 1) := by decide +kernel
theorem dX2_copy_74 : decode cX2_copy 74 = .ok (.getfield 31, 3) := by decide +kernel
theorem dX2_copy_77 : decode cX2_copy 77 = .ok (.putfield 31, 3) := by decide +kernel
theorem dX2_copy_80 : decode cX2_copy 80 = .ok (.aload_n 0, 1) := by decide +kernel
theorem dX2_copy_81 : decode cX2_copy 81 = .ok (.aload_n 1, 1) := by decide +kernel
theorem dX2_copy_82 : decode cX2_copy 82 = .ok (.getfield 34, 3) := by decide +kernel
theorem dX2_copy_85 : decode cX2_copy 85 = .ok (.putfield 34, 3) := by decide +kernel
theorem dX2_copy_88 : decode cX2_copy 88 = .ok (.aload_n 0, 1) := by decide +kernel
theorem dX2_copy_89 : decode cX2_copy 89 = .ok (.aload_n 1, 1) := by decide +kernel
theorem dX2_copy_90 : decode cX2_copy 90 = .ok (.getfield 37, 3) := by decide +kernel
theorem dX2_copy_93 : decode cX2_copy 93 = .ok (.putfield 37, 3) := by decide +kernel
theorem dX2_copy_96 : decode cX2_copy 96 = .ok (.aload_n 0, 1) := by decide +kernel
theorem dX2_copy_97 : decode cX2_copy 97 = .ok (.aload_n 1, 1) := by decide +kernel
theorem dX2_copy_98 : decode cX2_copy 98 = .ok (.getfield 40, 3) := by decide +kernel
theorem dX2_copy_101 : decode cX2_copy 101 = .ok (.putfield 40, 3) := by decide +kernel
theorem dX2_copy_104 : decode cX2_copy 104 = .ok (.aload_n 1, 1) := by decide +kernel
theorem dX2_copy_105 : decode cX2_copy 105 = .ok (.getfield 9, 3) := by decide +kernel
theorem dX2_copy_108 : decode cX2_copy 108 = .ok (.iconst 0, 1) := by decide +kernel
theorem dX2_copy_109 : decode cX2_copy 109 = .ok (.aload_n 0, 1) := by decide +kernel
theorem dX2_copy_110 : decode cX2_copy 110 = .ok (.getfield 9, 3) := by decide +kernel
theorem dX2_copy_113 : decode cX2_copy 113 = .ok (.iconst 0, 1) := by decide +kernel
theorem dX2_copy_114 : decode cX2_copy 114 = .ok (.bipush 48, 2) := by decide +kernel
theorem dX2_copy_116 : decode cX2_copy 116 = .ok (.invokestatic 62, 3) := by decide +kernel
theorem dX2_copy_119 : decode cX2_copy 119 = .ok (.aload_n 1, 1) := by decide +kernel
theorem dX2_copy_120 : decode cX2_copy 120 = .ok (.getfield 15, 3) := by decide +kernel
theorem dX2_copy_123 : decode cX2_copy 123 = .ok (.iconst 0, 1) := by decide +kernel
theorem dX2_copy_124 : decode cX2_copy 124 = .ok (.aload_n 0, 1) := by decide +kernel
theorem dX2_copy_125 : decode cX2_copy 125 = .ok (.getfield 15, 3) := by decide +kernel
theorem dX2_copy_128 : decode cX2_copy 128 = .ok (.iconst 0, 1) := by decide +kernel
theorem dX2_copy_129 : decode cX2_copy 129 = .ok (.bipush 48, 2) := by decide +kernel
theorem dX2_copy_131 : decode cX2_copy 131 = .ok (.invokestatic 62, 3) := by decide +kernel
theorem dX2_copy_134 : decode cX2_copy 134 = .ok (.return_, 1) := by decide +kernel
theorem dX2_allPaid_0 : decode cX2_allPaid 0 = .ok (.aload_n 0, 1) := by decide +kernel
theorem dX2_allPaid_1 : decode cX2_allPaid 1 = .ok (.getfield 25, 3) := by decide +kernel
theorem dX2_allPaid_4 : decode cX2_allPaid 4 = .ok (.aload_n 0, 1) := by decide +kernel
theorem dX2_allPaid_5 : decode cX2_allPaid 5 = .ok (.getfield 28, 3) := by decide +kernel
theorem dX2_allPaid_8 : decode cX2_allPaid 8 = .ok (.iadd, 1) := by decide +kernel
theorem dX2_allPaid_9 : decode cX2_allPaid 9 = .ok (.aload_n 0, 1) := by decide +kernel
theorem dX2_allPaid_10 : decode cX2_allPaid 10 = .ok (.getfield 31, 3) := by decide +kernel
theorem dX2_allPaid_13 : decode cX2_allPaid 13 = .ok (.iadd, 1) := by decide +kernel
theorem dX2_allPaid_14 : decode cX2_allPaid 14 = .ok (.aload_n 0, 1) := by decide +kernel
theorem dX2_allPaid_15 : decode cX2_allPaid 15 = .ok (.getfield 34, 3) := by decide +kernel
theorem dX2_allPaid_18 : decode cX2_allPaid 18 = .ok (.iadd, 1) := by decide +kernel
theorem dX2_allPaid_19 : decode cX2_allPaid 19 = .ok (.ireturn, 1) := by decide +kernel
theorem dX2_startYear_0 : decode cX2_startYear 0 = .ok (.aload_n 1, 1) := by decide +kernel
theorem dX2_startYear_1 : decode cX2_startYear 1 = .ok (.aload_n 0, 1) := by decide +kernel
theorem dX2_startYear_2 : decode cX2_startYear 2 = .ok (.getfield 18, 3) := by decide +kernel
theorem dX2_startYear_5 : decode cX2_startYear 5 = .ok (.iconst 0, 1) := by decide +kernel
theorem dX2_startYear_6 : decode cX2_startYear 6 = .ok (.invokevirtual 68, 3) := by decide +kernel
theorem dX2_startYear_9 : decode cX2_startYear 9 = .ok (.istore_n 3, 1) := by decide +kernel
theorem dX2_startYear_10 : decode cX2_startYear 10 = .ok (.iload_n 2, 1) := by decide +kernel
theorem dX2_startYear_11 : decode cX2_startYear 11 = .ok (.ifCond .eq 15, 3) := by decide +kernel
theorem dX2_startYear_14 : decode cX2_startYear 14 = .ok (.aload_n 1, 1) := by decide +kernel
theorem dX2_startYear_15 : decode cX2_startYear 15 = .ok (.aload_n 0, 1) := by decide +kernel
theorem dX2_startYear_16 : decode cX2_startYear 16 = .ok (.getfield 18, 3) := by decide +kernel
theorem dX2_startYear_19 : decode cX2_startYear 19 = .ok (.iconst 4, 1) := by decide +kernel
theorem dX2_startYear_20 : decode cX2_startYear 20 = .ok (.invokevirtual 68, 3) := by decide +kernel
theorem dX2_startYear_23 : decode cX2_startYear 23 = .ok (.goto 4, 3) := by decide +kernel
theorem dX2_startYear_26 : decode cX2_startYear 26 = .ok (.iconst 0, 1) := by decide +kernel
theorem dX2_startYear_27 : decode cX2_startYear 27 = .ok (.istore 4, 2) := by decide +kernel
theorem dX2_startYear_29 : decode cX2_startYear 29 = .ok (.aload_n 0, 1) := by decide +kernel
theorem dX2_startYear_30 : decode cX2_startYear 30 = .ok (.dup, 1) := by decide +kernel
theorem dX2_startYear_31 : decode cX2_startYear 31 = .ok (.getfield 25, 3) := by decide +kernel
theorem dX2_startYear_34 : decode cX2_startYear 34 = .ok (.iload_n 3, 1) := by decide +kernel
theorem dX2_startYear_35 : decode cX2_startYear 35 = .ok (.iadd, 1) := by decide +kernel
theorem dX2_startYear_36 : decode cX2_startYear 36 = .ok (.putfield 25, 3) := by decide +kernel
theorem dX2_startYear_39 : decode cX2_startYear 39 = .ok (.aload_n 0, 1) := by decide +kernel
theorem dX2_startYear_40 : decode cX2_startYear 40 = .ok (.dup, 1) := by decide +kernel
theorem dX2_startYear_41 : decode cX2_startYear 41 = .ok (.getfield 28, 3) := by decide +kernel
theorem dX2_startYear_44 : decode cX2_startYear 44 = .ok (.iload 4, 2) := by decide +kernel
theorem dX2_startYear_46 : decode cX2_startYear 46 = .ok (.iadd, 1) := by decide +kernel
theorem dX2_startYear_47 : decode cX2_startYear 47 = .ok (.putfield 28, 3) := by decide +kernel
theorem dX2_startYear_50 : decode cX2_startYear 50 = .ok (.aload_n 0, 1) := by decide +kernel
theorem dX2_startYear_51 : decode cX2_startYear 51 = .ok (.iconst 1, 1) := by decide +kernel
theorem dX2_startYear_52 : decode cX2_startYear 52 = .ok (.putfield 46, 3) := by decide +kernel
theorem dX2_startYear_55 : decode cX2_startYear 55 = .ok (.aload_n 0, 1) := by decide +kernel
theorem dX2_startYear_56 : decode cX2_startYear 56 = .ok (.iload_n 2, 1) := by decide +kernel
theorem dX2_startYear_57 : decode cX2_startYear 57 = .ok (.putfield 56, 3) := by decide +kernel
theorem dX2_startYear_60 : decode cX2_startYear 60 = .ok (.aload_n 0, 1) := by decide +kernel
theorem dX2_startYear_61 : decode cX2_startYear 61 = .ok (.iload_n 3, 1) := by decide +kernel
theorem dX2_startYear_62 : decode cX2_startYear 62 = .ok (.iload 4, 2) := by decide +kernel
theorem dX2_startYear_64 : decode cX2_startYear 64 = .ok (.iadd, 1) := by decide +kernel
theorem dX2_startYear_65 : decode cX2_startYear 65 = .ok (.putfield 59, 3) := by decide +kernel
theorem dX2_startYear_68 : decode cX2_startYear 68 = .ok (.aload_n 0, 1) := by decide +kernel
theorem dX2_startYear_69 : decode cX2_startYear 69 = .ok (.getfield 59, 3) := by decide +kernel
theorem dX2_startYear_72 : decode cX2_startYear 72 = .ok (.ireturn, 1) := by decide +kernel
theorem dX2_passChance_0 : decode cX2_passChance 0 = .ok (.aload_n 0, 1) := by decide +kernel
theorem dX2_passChance_1 : decode cX2_passChance 1 = .ok (.dup, 1) := by decide +kernel
theorem dX2_passChance_2 : decode cX2_passChance 2 = .ok (.getfield 50, 3) := by decide +kernel
theorem dX2_passChance_5 : decode cX2_passChance 5 = .ok (.iconst 1, 1) := by decide +kernel
theorem dX2_passChance_6 : decode cX2_passChance 6 = .ok (.iadd, 1) := by decide +kernel
theorem dX2_passChance_7 : decode cX2_passChance 7 = .ok (.putfield 50, 3) := by decide +kernel
theorem dX2_passChance_10 : decode cX2_passChance 10 = .ok (.aload_n 1, 1) := by decide +kernel
theorem dX2_passChance_11 : decode cX2_passChance 11 = .ok (.invokevirtual 74, 3) := by decide +kernel
theorem dX2_passChance_14 : decode cX2_passChance 14 = .ok (.aload_n 0, 1) := by decide +kernel
theorem dX2_passChance_15 : decode cX2_passChance 15 = .ok (.getfield 50, 3) := by decide +kernel
theorem dX2_passChance_18 : decode cX2_passChance 18 = .ok (.isub, 1) := by decide +kernel
theorem dX2_passChance_19 : decode cX2_passChance 19 = .ok (.istore_n 2, 1) := by decide +kernel
theorem dX2_passChance_20 : decode cX2_passChance 20 = .ok (.iload_n 2, 1) := by decide +kernel
theorem dX2_passChance_21 : decode cX2_passChance 21 = .ok (.ifCond .gt 8, 3) := by decide +kernel
theorem dX2_passChance_24 : decode cX2_passChance 24 = .ok (.aload_n 0, 1) := by decide +kernel
theorem dX2_passChance_25 : decode cX2_passChance 25 = .ok (.aload_n 1, 1) := by decide +kernel
theorem dX2_passChance_26 : decode cX2_passChance 26 = .ok (.invokevirtual 78, 3) := by decide +kernel
theorem dX2_passChance_29 : decode cX2_passChance 29 = .ok (.iload_n 2, 1) := by decide +kernel
theorem dX2_passChance_30 : decode cX2_passChance 30 = .ok (.ireturn, 1) := by decide +kernel
theorem dX2_takeLoss_0 : decode cX2_takeLoss 0 = .ok (.aload_n 0, 1) := by decide +kernel
theorem dX2_takeLoss_1 : decode cX2_takeLoss 1 = .ok (.getfield 9, 3) := by decide +kernel
theorem dX2_takeLoss_4 : decode cX2_takeLoss 4 = .ok (.aload_n 0, 1) := by decide +kernel
theorem dX2_takeLoss_5 : decode cX2_takeLoss 5 = .ok (.getfield 37, 3) := by decide +kernel
theorem dX2_takeLoss_8 : decode cX2_takeLoss 8 = .ok (.aload_n 0, 1) := by decide +kernel
theorem dX2_takeLoss_9 : decode cX2_takeLoss 9 = .ok (.getfield 40, 3) := by decide +kernel
theorem dX2_takeLoss_12 : decode cX2_takeLoss 12 = .ok (.iadd, 1) := by decide +kernel
theorem dX2_takeLoss_13 : decode cX2_takeLoss 13 = .ok (.aload_n 0, 1) := by decide +kernel
theorem dX2_takeLoss_14 : decode cX2_takeLoss 14 = .ok (.getfield 22, 3) := by decide +kernel
theorem dX2_takeLoss_17 : decode cX2_takeLoss 17 = .ok (.iload_n 2, 1) := by decide +kernel
theorem dX2_takeLoss_18 : decode cX2_takeLoss 18 = .ok (.iload_n 3, 1) := by decide +kernel
theorem dX2_takeLoss_19 : decode cX2_takeLoss 19 = .ok (.ifCond .eq 7, 3) := by decide +kernel
theorem dX2_takeLoss_22 : decode cX2_takeLoss 22 = .ok (.iconst 1, 1) := by decide +kernel
theorem dX2_takeLoss_23 : decode cX2_takeLoss 23 = .ok (.goto 4, 3) := by decide +kernel
theorem dX2_takeLoss_26 : decode cX2_takeLoss 26 = .ok (.iconst 0, 1) := by decide +kernel
theorem dX2_takeLoss_27 : decode cX2_takeLoss 27 = .ok (.invokestatic 82, 3) := by decide +kernel
theorem dX2_takeLoss_30 : decode cX2_takeLoss 30 = .ok (.iload_n 3, 1) := by decide +kernel
theorem dX2_takeLoss_31 : decode cX2_takeLoss 31 = .ok (.ifCond .eq 11, 3) := by decide +kernel
theorem dX2_takeLoss_34 : decode cX2_takeLoss 34 = .ok (.aload_n 1, 1) := by decide +kernel
theorem dX2_takeLoss_35 : decode cX2_takeLoss 35 = .ok (.iload_n 2, 1) := by decide +kernel
theorem dX2_takeLoss_36 : decode cX2_takeLoss 36 = .ok (.invokevirtual 86, 3) := by decide +kernel
theorem dX2_takeLoss_39 : decode cX2_takeLoss 39 = .ok (.goto 9, 3) := by decide +kernel
theorem dX2_takeLoss_42 : decode cX2_takeLoss 42 = .ok (.aload_n 1, 1) := by decide +kernel
theorem dX2_takeLoss_43 : decode cX2_takeLoss 43 = .ok (.iload_n 2, 1) := by decide +kernel
theorem dX2_takeLoss_44 : decode cX2_takeLoss 44 = .ok (.iconst 0, 1) := by decide +kernel
theorem dX2_takeLoss_45 : decode cX2_takeLoss 45 = .ok (.invokevirtual 90, 3) := by decide +kernel
theorem dX2_takeLoss_48 : decode cX2_takeLoss 48 = .ok (.istore 4, 2) := by decide +kernel
theorem dX2_takeLoss_50 : decode cX2_takeLoss 50 = .ok (.aload_n 0, 1) := by decide +kernel
theorem dX2_takeLoss_51 : decode cX2_takeLoss 51 = .ok (.dup, 1) := by decide +kernel
theorem dX2_takeLoss_52 : decode cX2_takeLoss 52 = .ok (.getfield 59, 3) := by decide +kernel
theorem dX2_takeLoss_55 : decode cX2_takeLoss 55 = .ok (.iload 4, 2) := by decide +kernel
theorem dX2_takeLoss_57 : decode cX2_takeLoss 57 = .ok (.iadd, 1) := by decide +kernel
theorem dX2_takeLoss_58 : decode cX2_takeLoss 58 = .ok (.putfield 59, 3) := by decide +kernel
theorem dX2_takeLoss_61 : decode cX2_takeLoss 61 = .ok (.iload_n 3, 1) := by decide +kernel
theorem dX2_takeLoss_62 : decode cX2_takeLoss 62 = .ok (.ifCond .eq 31, 3) := by decide +kernel
theorem dX2_takeLoss_65 : decode cX2_takeLoss 65 = .ok (.aload_n 0, 1) := by decide +kernel
theorem dX2_takeLoss_66 : decode cX2_takeLoss 66 = .ok (.dup, 1) := by decide +kernel
theorem dX2_takeLoss_67 : decode cX2_takeLoss 67 = .ok (.getfield 37, 3) := by decide +kernel
theorem dX2_takeLoss_70 : decode cX2_takeLoss 70 = .ok (.iconst 1, 1) := by decide +kernel
theorem dX2_takeLoss_71 : decode cX2_takeLoss 71 = .ok (.iadd, 1) := by decide +kernel
theorem dX2_takeLoss_72 : decode cX2_takeLoss 72 = .ok (.putfield 37, 3) := by decide +kernel
theorem dX2_takeLoss_75 : decode cX2_takeLoss 75 = .ok (.aload_n 0, 1) := by decide +kernel
theorem dX2_takeLoss_76 : decode cX2_takeLoss 76 = .ok (.dup, 1) := by decide +kernel
theorem dX2_takeLoss_77 : decode cX2_takeLoss 77 = .ok (.getfield 31, 3) := by decide +kernel
theorem dX2_takeLoss_80 : decode cX2_takeLoss 80 = .ok (.iload 4, 2) := by decide +kernel
theorem dX2_takeLoss_82 : decode cX2_takeLoss 82 = .ok (.iadd, 1) := by decide +kernel
theorem dX2_takeLoss_83 : decode cX2_takeLoss 83 = .ok (.putfield 31, 3) := by decide +kernel
theorem dX2_takeLoss_86 : decode cX2_takeLoss 86 = .ok (.aload_n 0, 1) := by decide +kernel
theorem dX2_takeLoss_87 : decode cX2_takeLoss 87 = .ok (.invokevirtual 93, 3) := by decide +kernel
theorem dX2_takeLoss_90 : decode cX2_takeLoss 90 = .ok (.goto 24, 3) := by decide +kernel
theorem dX2_takeLoss_93 : decode cX2_takeLoss 93 = .ok (.aload_n 0, 1) := by decide +kernel
theorem dX2_takeLoss_94 : decode cX2_takeLoss 94 = .ok (.dup, 1) := by decide +kernel
theorem dX2_takeLoss_95 : decode cX2_takeLoss 95 = .ok (.getfield 40, 3) := by decide +kernel
theorem dX2_takeLoss_98 : decode cX2_takeLoss 98 = .ok (.iconst 1, 1) := by decide +kernel
theorem dX2_takeLoss_99 : decode cX2_takeLoss 99 = .ok (.iadd, 1) := by decide +kernel
theorem dX2_takeLoss_100 : decode cX2_takeLoss 100 = .ok (.putfield 40, 3) := by decide +kernel
theorem dX2_takeLoss_103 : decode cX2_takeLoss 103 = .ok (.aload_n 0, 1) := by decide +kernel
theorem dX2_takeLoss_104 : decode cX2_takeLoss 104 = .ok (.dup, 1) := by decide +kernel
theorem dX2_takeLoss_105 : decode cX2_takeLoss 105 = .ok (.getfield 34, 3) := by decide +kernel
theorem dX2_takeLoss_108 : decode cX2_takeLoss 108 = .ok (.iload 4, 2) := by decide +kernel
theorem dX2_takeLoss_110 : decode cX2_takeLoss 110 = .ok (.iadd, 1) := by decide +kernel
theorem dX2_takeLoss_111 : decode cX2_takeLoss 111 = .ok (.putfield 34, 3) := by decide +kernel
theorem dX2_takeLoss_114 : decode cX2_takeLoss 114 = .ok (.iload 4, 2) := by decide +kernel
theorem dX2_takeLoss_116 : decode cX2_takeLoss 116 = .ok (.ireturn, 1) := by decide +kernel
theorem dX2_countTold_0 : decode cX2_countTold 0 = .ok (.aload_n 0, 1) := by decide +kernel
theorem dX2_countTold_1 : decode cX2_countTold 1 = .ok (.getfield 56, 3) := by decide +kernel
theorem dX2_countTold_4 : decode cX2_countTold 4 = .ok (.ifCond .eq 11, 3) := by decide +kernel
theorem dX2_countTold_7 : decode cX2_countTold 7 = .ok (.aload_n 0, 1) := by decide +kernel
theorem dX2_countTold_8 : decode cX2_countTold 8 = .ok (.iconst 0, 1) := by decide +kernel
theorem dX2_countTold_9 : decode cX2_countTold 9 = .ok (.putfield 56, 3) := by decide +kernel
theorem dX2_countTold_12 : decode cX2_countTold 12 = .ok (.goto 13, 3) := by decide +kernel
theorem dX2_countTold_15 : decode cX2_countTold 15 = .ok (.aload_n 0, 1) := by decide +kernel
theorem dX2_countTold_16 : decode cX2_countTold 16 = .ok (.dup, 1) := by decide +kernel
theorem dX2_countTold_17 : decode cX2_countTold 17 = .ok (.getfield 53, 3) := by decide +kernel
theorem dX2_countTold_20 : decode cX2_countTold 20 = .ok (.iconst 1, 1) := by decide +kernel
theorem dX2_countTold_21 : decode cX2_countTold 21 = .ok (.iadd, 1) := by decide +kernel
theorem dX2_countTold_22 : decode cX2_countTold 22 = .ok (.putfield 53, 3) := by decide +kernel
theorem dX2_countTold_25 : decode cX2_countTold 25 = .ok (.return_, 1) := by decide +kernel
theorem dX2_endYear_0 : decode cX2_endYear 0 = .ok (.aload_n 0, 1) := by decide +kernel
theorem dX2_endYear_1 : decode cX2_endYear 1 = .ok (.getfield 15, 3) := by decide +kernel
theorem dX2_endYear_4 : decode cX2_endYear 4 = .ok (.aload_n 0, 1) := by decide +kernel
theorem dX2_endYear_5 : decode cX2_endYear 5 = .ok (.getfield 22, 3) := by decide +kernel
theorem dX2_endYear_8 : decode cX2_endYear 8 = .ok (.aload_n 0, 1) := by decide +kernel
theorem dX2_endYear_9 : decode cX2_endYear 9 = .ok (.getfield 18, 3) := by decide +kernel
theorem dX2_endYear_12 : decode cX2_endYear 12 = .ok (.aload_n 0, 1) := by decide +kernel
theorem dX2_endYear_13 : decode cX2_endYear 13 = .ok (.getfield 59, 3) := by decide +kernel
theorem dX2_endYear_16 : decode cX2_endYear 16 = .ok (.aload_n 0, 1) := by decide +kernel
theorem dX2_endYear_17 : decode cX2_endYear 17 = .ok (.getfield 53, 3) := by decide +kernel
theorem dX2_endYear_20 : decode cX2_endYear 20 = .ok (.invokestatic 82, 3) := by decide +kernel
theorem dX2_endYear_23 : decode cX2_endYear 23 = .ok (.aload_n 0, 1) := by decide +kernel
theorem dX2_endYear_24 : decode cX2_endYear 24 = .ok (.dup, 1) := by decide +kernel
theorem dX2_endYear_25 : decode cX2_endYear 25 = .ok (.getfield 22, 3) := by decide +kernel
theorem dX2_endYear_28 : decode cX2_endYear 28 = .ok (.iconst 1, 1) := by decide +kernel
theorem dX2_endYear_29 : decode cX2_endYear 29 = .ok (.iadd, 1) := by decide +kernel
theorem dX2_endYear_30 : decode cX2_endYear 30 = .ok (.putfield 22, 3) := by decide +kernel
theorem dX2_endYear_33 : decode cX2_endYear 33 = .ok (.aload_n 0, 1) := by decide +kernel
theorem dX2_endYear_34 : decode cX2_endYear 34 = .ok (.aload_n 1, 1) := by decide +kernel
theorem dX2_endYear_35 : decode cX2_endYear 35 = .ok (.aload_n 0, 1) := by decide +kernel
theorem dX2_endYear_36 : decode cX2_endYear 36 = .ok (.getfield 18, 3) := by decide +kernel
theorem dX2_endYear_39 : decode cX2_endYear 39 = .ok (.aload_n 0, 1) := by decide +kernel
theorem dX2_endYear_40 : decode cX2_endYear 40 = .ok (.getfield 53, 3) := by decide +kernel
theorem dX2_endYear_43 : decode cX2_endYear 43 = .ok (.invokevirtual 96, 3) := by decide +kernel
theorem dX2_endYear_46 : decode cX2_endYear 46 = .ok (.putfield 18, 3) := by decide +kernel
theorem dX2_endYear_49 : decode cX2_endYear 49 = .ok (.aload_n 0, 1) := by decide +kernel
theorem dX2_endYear_50 : decode cX2_endYear 50 = .ok (.invokevirtual 43, 3) := by decide +kernel
theorem dX2_endYear_53 : decode cX2_endYear 53 = .ok (.return_, 1) := by decide +kernel
theorem dX2_leaveYear_0 : decode cX2_leaveYear 0 = .ok (.aload_n 0, 1) := by decide +kernel
theorem dX2_leaveYear_1 : decode cX2_leaveYear 1 = .ok (.iconst 0, 1) := by decide +kernel
theorem dX2_leaveYear_2 : decode cX2_leaveYear 2 = .ok (.putfield 46, 3) := by decide +kernel
theorem dX2_leaveYear_5 : decode cX2_leaveYear 5 = .ok (.aload_n 0, 1) := by decide +kernel
theorem dX2_leaveYear_6 : decode cX2_leaveYear 6 = .ok (.iconst 0, 1) := by decide +kernel
theorem dX2_leaveYear_7 : decode cX2_leaveYear 7 = .ok (.putfield 50, 3) := by decide +kernel
theorem dX2_leaveYear_10 : decode cX2_leaveYear 10 = .ok (.aload_n 0, 1) := by decide +kernel
theorem dX2_leaveYear_11 : decode cX2_leaveYear 11 = .ok (.iconst 0, 1) := by decide +kernel
theorem dX2_leaveYear_12 : decode cX2_leaveYear 12 = .ok (.putfield 53, 3) := by decide +kernel
theorem dX2_leaveYear_15 : decode cX2_leaveYear 15 = .ok (.aload_n 0, 1) := by decide +kernel
theorem dX2_leaveYear_16 : decode cX2_leaveYear 16 = .ok (.iconst 0, 1) := by decide +kernel
theorem dX2_leaveYear_17 : decode cX2_leaveYear 17 = .ok (.putfield 56, 3) := by decide +kernel
theorem dX2_leaveYear_20 : decode cX2_leaveYear 20 = .ok (.aload_n 0, 1) := by decide +kernel
theorem dX2_leaveYear_21 : decode cX2_leaveYear 21 = .ok (.iconst 0, 1) := by decide +kernel
theorem dX2_leaveYear_22 : decode cX2_leaveYear 22 = .ok (.putfield 59, 3) := by decide +kernel
theorem dX2_leaveYear_25 : decode cX2_leaveYear 25 = .ok (.return_, 1) := by decide +kernel
theorem dX2_putEntry_0 : decode cX2_putEntry 0 = .ok (.iload_n 1, 1) := by decide +kernel
theorem dX2_putEntry_1 : decode cX2_putEntry 1 = .ok (.bipush 16, 2) := by decide +kernel
theorem dX2_putEntry_3 : decode cX2_putEntry 3 = .ok (.invokestatic 99, 3) := by decide +kernel
theorem dX2_putEntry_6 : decode cX2_putEntry 6 = .ok (.iconst 3, 1) := by decide +kernel
theorem dX2_putEntry_7 : decode cX2_putEntry 7 = .ok (.imul, 1) := by decide +kernel
theorem dX2_putEntry_8 : decode cX2_putEntry 8 = .ok (.istore 5, 2) := by decide +kernel
theorem dX2_putEntry_10 : decode cX2_putEntry 10 = .ok (.aload_n 0, 1) := by decide +kernel
theorem dX2_putEntry_11 : decode cX2_putEntry 11 = .ok (.iload 5, 2) := by decide +kernel
theorem dX2_putEntry_13 : decode cX2_putEntry 13 = .ok (.iload_n 2, 1) := by decide +kernel
theorem dX2_putEntry_14 : decode cX2_putEntry 14 = .ok (.iastore, 1) := by decide +kernel
theorem dX2_putEntry_15 : decode cX2_putEntry 15 = .ok (.aload_n 0, 1) := by decide +kernel
theorem dX2_putEntry_16 : decode cX2_putEntry 16 = .ok (.iload 5, 2) := by decide +kernel
theorem dX2_putEntry_18 : decode cX2_putEntry 18 = .ok (.iconst 1, 1) := by decide +kernel
theorem dX2_putEntry_19 : decode cX2_putEntry 19 = .ok (.iadd, 1) := by decide +kernel
theorem dX2_putEntry_20 : decode cX2_putEntry 20 = .ok (.iload_n 3, 1) := by decide +kernel
theorem dX2_putEntry_21 : decode cX2_putEntry 21 = .ok (.iastore, 1) := by decide +kernel
theorem dX2_putEntry_22 : decode cX2_putEntry 22 = .ok (.aload_n 0, 1) := by decide +kernel
theorem dX2_putEntry_23 : decode cX2_putEntry 23 = .ok (.iload 5, 2) := by decide +kernel
theorem dX2_putEntry_25 : decode cX2_putEntry 25 = .ok (.iconst 2, 1) := by decide +kernel
theorem dX2_putEntry_26 : decode cX2_putEntry 26 = .ok (.iadd, 1) := by decide +kernel
theorem dX2_putEntry_27 : decode cX2_putEntry 27 = .ok (.iload 4, 2) := by decide +kernel
theorem dX2_putEntry_29 : decode cX2_putEntry 29 = .ok (.iastore, 1) := by decide +kernel
theorem dX2_putEntry_30 : decode cX2_putEntry 30 = .ok (.return_, 1) := by decide +kernel
theorem dX3_init_0 : decode cX3_init 0 = .ok (.aload_n 0, 1) := by decide +kernel
theorem dX3_init_1 : decode cX3_init 1 = .ok (.invokespecial 3, 3) := by decide +kernel
theorem dX3_init_4 : decode cX3_init 4 = .ok (.aload_n 0, 1) := by decide +kernel
theorem dX3_init_5 : decode cX3_init 5 = .ok (.iconst 5, 1) := by decide +kernel
theorem dX3_init_6 : decode cX3_init 6 = .ok (.newarray .long, 2) := by decide +kernel
theorem dX3_init_8 : decode cX3_init 8 = .ok (.putfield 9, 3) := by decide +kernel
theorem dX3_init_11 : decode cX3_init 11 = .ok (.aload_n 0, 1) := by decide +kernel
theorem dX3_init_12 : decode cX3_init 12 = .ok (.iconst 5, 1) := by decide +kernel
theorem dX3_init_13 : decode cX3_init 13 = .ok (.newarray .long, 2) := by decide +kernel
theorem dX3_init_15 : decode cX3_init 15 = .ok (.putfield 15, 3) := by decide +kernel
theorem dX3_init_18 : decode cX3_init 18 = .ok (.aload_n 0, 1) := by decide +kernel
theorem dX3_init_19 : decode cX3_init 19 = .ok (.iconst 5, 1) := by decide +kernel
theorem dX3_init_20 : decode cX3_init 20 = .ok (.newarray .long, 2) := by decide +kernel
theorem dX3_init_22 : decode cX3_init 22 = .ok (.putfield 18, 3) := by decide +kernel
theorem dX3_init_25 : decode cX3_init 25 = .ok (.aload_n 0, 1) := by decide +kernel
theorem dX3_init_26 : decode cX3_init 26 = .ok (.iconst 5, 1) := by decide +kernel
theorem dX3_init_27 : decode cX3_init 27 = .ok (.newarray .int, 2) := by decide +kernel
theorem dX3_init_29 : decode cX3_init 29 = .ok (.putfield 21, 3) := by decide +kernel
theorem dX3_init_32 : decode cX3_init 32 = .ok (.return_, 1) := by decide +kernel
theorem dX3_take_0 : decode cX3_take 0 = .ok (.aload_n 0, 1) := by decide +kernel
theorem dX3_take_1 : decode cX3_take 1 = .ok (.aload_n 1, 1) := by decide +kernel
theorem dX3_take_2 : decode cX3_take 2 = .ok (.getfield 25, 3) := by decide +kernel
theorem dX3_take_5 : decode cX3_take 5 = .ok (.putfield 31, 3) := by decide +kernel
theorem dX3_take_8 : decode cX3_take 8 = .ok (.aload_n 0, 1) := by decide +kernel
theorem dX3_take_9 : decode cX3_take 9 = .ok (.aload_n 1, 1) := by decide +kernel
theorem dX3_take_10 : decode cX3_take 10 = .ok (.invokevirtual 32, 3) := by decide +kernel
theorem dX3_take_13 : decode cX3_take 13 = .ok (.i2l, 1) := by decide +kernel
theorem dX3_take_14 : decode cX3_take 14 = .ok (.putfield 36, 3) := by decide +kernel
theorem dX3_take_17 : decode cX3_take 17 = .ok (.aload_n 0, 1) := by decide +kernel
theorem dX3_take_18 : decode cX3_take 18 = .ok (.aload_n 1, 1) := by decide +kernel
theorem dX3_take_19 : decode cX3_take 19 = .ok (.invokevirtual 39, 3) := by decide +kernel
theorem dX3_take_22 : decode cX3_take 22 = .ok (.i2l, 1) := by decide +kernel
theorem dX3_take_23 : decode cX3_take 23 = .ok (.putfield 42, 3) := by decide +kernel
theorem dX3_take_26 : decode cX3_take 26 = .ok (.aload_n 0, 1) := by decide +kernel
theorem dX3_take_27 : decode cX3_take 27 = .ok (.iload 4, 2) := by decide +kernel
theorem dX3_take_29 : decode cX3_take 29 = .ok (.putfield 44, 3) := by decide +kernel
theorem dX3_take_32 : decode cX3_take 32 = .ok (.iconst 0, 1) := by decide +kernel
theorem dX3_take_33 : decode cX3_take 33 = .ok (.istore 5, 2) := by decide +kernel
theorem dX3_take_35 : decode cX3_take 35 = .ok (.iload 5, 2) := by decide +kernel
theorem dX3_take_37 : decode cX3_take 37 = .ok (.aload_n 0, 1) := by decide +kernel
theorem dX3_take_38 : decode cX3_take 38 = .ok (.getfield 31, 3) := by decide +kernel
theorem dX3_take_41 : decode cX3_take 41 = .ok (.if_icmp .ge 96, 3) := by decide +kernel
theorem dX3_take_44 : decode cX3_take 44 = .ok (.aload_n 1, 1) := by decide +kernel
theorem dX3_take_45 : decode cX3_take 45 = .ok (.iload 5, 2) := by decide +kernel
theorem dX3_take_47 : decode cX3_take 47 = .ok (.iconst 0, 1) := by decide +kernel
theorem dX3_take_48 : decode cX3_take 48 = .ok (.invokevirtual 48, 3) := by decide +kernel
theorem dX3_take_51 : decode cX3_take 51 = .ok (.istore 6, 2) := by decide +kernel
theorem dX3_take_53 : decode cX3_take 53 = .ok (.aload_n 0, 1) := by decide +kernel
theorem dX3_take_54 : decode cX3_take 54 = .ok (.getfield 9, 3) := by decide +kernel
theorem dX3_take_57 : decode cX3_take 57 = .ok (.iload 5, 2) := by decide +kernel
theorem dX3_take_59 : decode cX3_take 59 = .ok (.ldc2_w 52, 3) := by decide +kernel
theorem dX3_take_62 : decode cX3_take 62 = .ok (.iload 6, 2) := by decide +kernel
theorem dX3_take_64 : decode cX3_take 64 = .ok (.i2l, 1) := by decide +kernel
theorem dX3_take_65 : decode cX3_take 65 = .ok (.lmul, 1) := by decide +kernel
theorem dX3_take_66 : decode cX3_take 66 = .ok (.lastore, 1) := by decide +kernel
theorem dX3_take_67 : decode cX3_take 67 = .ok (.aload_n 0, 1) := by decide +kernel
theorem dX3_take_68 : decode cX3_take 68 = .ok (.getfield 15, 3) := by decide +kernel
theorem dX3_take_71 : decode cX3_take 71 = .ok (.iload 5, 2) := by decide +kernel
theorem dX3_take_73 : decode cX3_take 73 = .ok (.ldc2_w 52, 3) := by decide +kernel
theorem dX3_take_76 : decode cX3_take 76 = .ok (.aload_n 1, 1) := by decide +kernel
theorem dX3_take_77 : decode cX3_take 77 = .ok (.iload 5, 2) := by decide +kernel
theorem dX3_take_79 : decode cX3_take 79 = .ok (.invokevirtual 54, 3) := by decide +kernel
theorem dX3_take_82 : decode cX3_take 82 = .ok (.i2l, 1) := by decide +kernel
theorem dX3_take_83 : decode cX3_take 83 = .ok (.lmul, 1) := by decide +kernel
theorem dX3_take_84 : decode cX3_take 84 = .ok (.lastore, 1) := by decide +kernel
theorem dX3_take_85 : decode cX3_take 85 = .ok (.aload_n 0, 1) := by decide +kernel
theorem dX3_take_86 : decode cX3_take 86 = .ok (.getfield 18, 3) := by decide +kernel
theorem dX3_take_89 : decode cX3_take 89 = .ok (.iload 5, 2) := by decide +kernel
theorem dX3_take_91 : decode cX3_take 91 = .ok (.aload_n 1, 1) := by decide +kernel
theorem dX3_take_92 : decode cX3_take 92 = .ok (.iload 5, 2) := by decide +kernel
theorem dX3_take_94 : decode cX3_take 94 = .ok (.iconst 1, 1) := by decide +kernel
theorem dX3_take_95 : decode cX3_take 95 = .ok (.invokevirtual 48, 3) := by decide +kernel
theorem dX3_take_98 : decode cX3_take 98 = .ok (.i2l, 1) := by decide +kernel
theorem dX3_take_99 : decode cX3_take 99 = .ok (.lastore, 1) := by decide +kernel
theorem dX3_take_100 : decode cX3_take 100 = .ok (.aload_n 0, 1) := by decide +kernel
theorem dX3_take_101 : decode cX3_take 101 = .ok (.getfield 21, 3) := by decide +kernel
theorem dX3_take_104 : decode cX3_take 104 = .ok (.iload 5, 2) := by decide +kernel
theorem dX3_take_106 : decode cX3_take 106 = .ok (.iload_n 2, 1) := by decide +kernel
theorem dX3_take_107 : decode cX3_take 107 = .ok (.iastore, 1) := by decide +kernel
theorem dX3_take_108 : decode cX3_take 108 = .ok (.iload_n 2, 1) := by decide +kernel
theorem dX3_take_109 : decode cX3_take 109 = .ok (.iconst 3, 1) := by decide +kernel
theorem dX3_take_110 : decode cX3_take 110 = .ok (.if_icmp .ne 21, 3) := by decide +kernel
theorem dX3_take_113 : decode cX3_take 113 = .ok (.aload_n 0, 1) := by decide +kernel
theorem dX3_take_114 : decode cX3_take 114 = .ok (.getfield 21, 3) := by decide +kernel
theorem dX3_take_117 : decode cX3_take 117 = .ok (.iload 5, 2) := by decide +kernel
theorem dX3_take_119 : decode cX3_take 119 = .ok (.iload 6, 2) := by decide +kernel
theorem dX3_take_121 : decode cX3_take 121 = .ok (.iload_n 3, 1) := by decide +kernel
theorem dX3_take_122 : decode cX3_take 122 = .ok (.if_icmp .le 7, 3) := by decide +kernel
theorem dX3_take_125 : decode cX3_take 125 = .ok (.iconst 1, 1) := by decide +kernel
theorem dX3_take_126 : decode cX3_take 126 = .ok (.goto 4, 3) := by decide +kernel
theorem dX3_take_129 : decode cX3_take 129 = .ok (.iconst 2, 1) := by decide +kernel
theorem dX3_take_130 : decode cX3_take 130 = .ok (.iastore, 1) := by decide +kernel
theorem dX3_take_131 : decode cX3_take 131 = .ok (.iinc 5 1, 3) := by decide +kernel
theorem dX3_take_134 : decode cX3_take 134 = .ok (.goto (-99), 3) := by decide +kernel
theorem dX3_take_137 : decode cX3_take 137 = .ok (.return_, 1) := by decide +kernel
theorem dX3_chanceCost_0 : decode cX3_chanceCost 0 = .ok (.lconst 0, 1) := by decide +kernel
theorem dX3_chanceCost_1 : decode cX3_chanceCost 1 = .ok (.lstore 5, 2) := by decide +kernel
theorem dX3_chanceCost_3 : decode cX3_chanceCost 3 = .ok (.aload_n 0, 1) := by decide +kernel
theorem dX3_chanceCost_4 : decode cX3_chanceCost 4 = .ok (.getfield 36, 3) := by decide +kernel
theorem dX3_chanceCost_7 : decode cX3_chanceCost 7 = .ok (.ldc2_w 58, 3) := by decide +kernel
theorem dX3_chanceCost_10 : decode cX3_chanceCost 10 = .ok (.lcmp, 1) := by decide +kernel
theorem dX3_chanceCost_11 : decode cX3_chanceCost 11 = .ok (.ifCond .ge 7, 3) := by decide +kernel
theorem dX3_chanceCost_14 : decode cX3_chanceCost 14 = .ok (.lload_n 1, 1) := by decide +kernel
theorem dX3_chanceCost_15 : decode cX3_chanceCost 15 = .ok (.goto 4, 3) := by decide +kernel
theorem dX3_chanceCost_18 : decode cX3_chanceCost 18 = .ok (.lconst 0, 1) := by decide +kernel
theorem dX3_chanceCost_19 : decode cX3_chanceCost 19 = .ok (.lstore 7, 2) := by decide +kernel
theorem dX3_chanceCost_21 : decode cX3_chanceCost 21 = .ok (.iconst 0, 1) := by decide +kernel
theorem dX3_chanceCost_22 : decode cX3_chanceCost 22 = .ok (.istore 9, 2) := by decide +kernel
theorem dX3_chanceCost_24 : decode cX3_chanceCost 24 = .ok (.iload 9, 2) := by decide +kernel
theorem dX3_chanceCost_26 : decode cX3_chanceCost 26 = .ok (.aload_n 0, 1) := by decide +kernel
theorem dX3_chanceCost_27 : decode cX3_chanceCost 27 = .ok (.getfield 31, 3) := by decide +kernel
theorem dX3_chanceCost_30 : decode cX3_chanceCost 30 = .ok (.if_icmp .ge 43, 3) := by decide +kernel
theorem dX3_chanceCost_33 : decode cX3_chanceCost 33 = .ok (.aload_n 0, 1) := by decide +kernel
theorem dX3_chanceCost_34 : decode cX3_chanceCost 34 = .ok (.iload 9, 2) := by decide +kernel
theorem dX3_chanceCost_36 : decode cX3_chanceCost 36 = .ok (.lload_n 1, 1) := by decide +kernel
theorem dX3_chanceCost_37 : decode cX3_chanceCost 37 = .ok (.lload_n 3, 1) := by decide +kernel
theorem dX3_chanceCost_38 : decode cX3_chanceCost 38 = .ok (.invokevirtual 60, 3) := by decide +kernel
theorem dX3_chanceCost_41 : decode cX3_chanceCost 41 = .ok (.lstore 10, 2) := by decide +kernel
theorem dX3_chanceCost_43 : decode cX3_chanceCost 43 = .ok (.lload 5, 2) := by decide +kernel
theorem dX3_chanceCost_45 : decode cX3_chanceCost 45 = .ok (.aload_n 0, 1) := by decide +kernel
theorem dX3_chanceCost_46 : decode cX3_chanceCost 46 = .ok (.getfield 18, 3) := by decide +kernel
theorem dX3_chanceCost_49 : decode cX3_chanceCost 49 = .ok (.iload 9, 2) := by decide +kernel
theorem dX3_chanceCost_51 : decode cX3_chanceCost 51 = .ok (.laload, 1) := by decide +kernel
theorem dX3_chanceCost_52 : decode cX3_chanceCost 52 = .ok (.lload 10, 2) := by decide +kernel
theorem dX3_chanceCost_54 : decode cX3_chanceCost 54 = .ok (.lmul, 1) := by decide +kernel
theorem dX3_chanceCost_55 : decode cX3_chanceCost 55 = .ok (.ladd, 1) := by decide +kernel
theorem dX3_chanceCost_56 : decode cX3_chanceCost 56 = .ok (.lstore 5, 2) := by decide +kernel
theorem dX3_chanceCost_58 : decode cX3_chanceCost 58 = .ok (.lload 7, 2) := by decide +kernel
theorem dX3_chanceCost_60 : decode cX3_chanceCost 60 = .ok (.lload 10, 2) := by decide +kernel
theorem dX3_chanceCost_62 : decode cX3_chanceCost 62 = .ok (.invokestatic 64, 3) := by decide +kernel
theorem dX3_chanceCost_65 : decode cX3_chanceCost 65 = .ok (.lstore 7, 2) := by decide +kernel
theorem dX3_chanceCost_67 : decode cX3_chanceCost 67 = .ok (.iinc 9 1, 3) := by decide +kernel
theorem dX3_chanceCost_70 : decode cX3_chanceCost 70 = .ok (.goto (-46), 3) := by decide +kernel
theorem dX3_chanceCost_73 : decode cX3_chanceCost 73 = .ok (.ldc2_w 58, 3) := by decide +kernel
theorem dX3_chanceCost_76 : decode cX3_chanceCost 76 = .ok (.aload_n 0, 1) := by decide +kernel
theorem dX3_chanceCost_77 : decode cX3_chanceCost 77 = .ok (.getfield 42, 3) := by decide +kernel
theorem dX3_chanceCost_80 : decode cX3_chanceCost 80 = .ok (.lmul, 1) := by decide +kernel
theorem dX3_chanceCost_81 : decode cX3_chanceCost 81 = .ok (.lstore 9, 2) := by decide +kernel
theorem dX3_chanceCost_83 : decode cX3_chanceCost 83 = .ok (.aload_n 0, 1) := by decide +kernel
theorem dX3_chanceCost_84 : decode cX3_chanceCost 84 = .ok (.getfield 36, 3) := by decide +kernel
theorem dX3_chanceCost_87 : decode cX3_chanceCost 87 = .ok (.lconst 0, 1) := by decide +kernel
theorem dX3_chanceCost_88 : decode cX3_chanceCost 88 = .ok (.lcmp, 1) := by decide +kernel
theorem dX3_chanceCost_89 : decode cX3_chanceCost 89 = .ok (.ifCond .eq 10, 3) := by decide +kernel
theorem dX3_chanceCost_92 : decode cX3_chanceCost 92 = .ok (.lload 9, 2) := by decide +kernel
theorem dX3_chanceCost_94 : decode cX3_chanceCost 94 = .ok (.lconst 0, 1) := by decide +kernel
theorem dX3_chanceCost_95 : decode cX3_chanceCost 95 = .ok (.lcmp, 1) := by decide +kernel
theorem dX3_chanceCost_96 : decode cX3_chanceCost 96 = .ok (.ifCond .gt 5, 3) := by decide +kernel
theorem dX3_chanceCost_99 : decode cX3_chanceCost 99 = .ok (.lload_n 1, 1) := by decide +kernel
theorem dX3_chanceCost_100 : decode cX3_chanceCost 100 = .ok (.lreturn, 1) := by decide +kernel
theorem dX3_chanceCost_101 : decode cX3_chanceCost 101 = .ok (.aload_n 0, 1) := by decide +kernel
theorem dX3_chanceCost_102 : decode cX3_chanceCost 102 = .ok (.getfield 44, 3) := by decide +kernel
theorem dX3_chanceCost_105 : decode cX3_chanceCost 105 = .ok (.ifCond .eq 8, 3) := by decide +kernel
theorem dX3_chanceCost_108 : decode cX3_chanceCost 108 = .ok (.lload 7, 2) := by decide +kernel
theorem dX3_chanceCost_110 : decode cX3_chanceCost 110 = .ok (.goto 29, 3) := by decide +kernel
theorem dX3_chanceCost_113 : decode cX3_chanceCost 113 = .ok (.ldc2_w 58, 3) := by decide +kernel
theorem dX3_chanceCost_116 : decode cX3_chanceCost 116 = .ok (.aload_n 0, 1) := by decide +kernel
theorem dX3_chanceCost_117 : decode cX3_chanceCost 117 = .ok (.getfield 36, 3) := by decide +kernel
theorem dX3_chanceCost_120 : decode cX3_chanceCost 120 = .ok (.lsub, 1) := by decide +kernel
theorem dX3_chanceCost_121 : decode cX3_chanceCost 121 = .ok (.aload_n 0, 1) := by decide +kernel
theorem dX3_chanceCost_122 : decode cX3_chanceCost 122 = .ok (.getfield 42, 3) := by decide +kernel
theorem dX3_chanceCost_125 : decode cX3_chanceCost 125 = .ok (.lmul, 1) := by decide +kernel
theorem dX3_chanceCost_126 : decode cX3_chanceCost 126 = .ok (.lload_n 1, 1) := by decide +kernel
theorem dX3_chanceCost_127 : decode cX3_chanceCost 127 = .ok (.lmul, 1) := by decide +kernel
theorem dX3_chanceCost_128 : decode cX3_chanceCost 128 = .ok (.aload_n 0, 1) := by decide +kernel
theorem dX3_chanceCost_129 : decode cX3_chanceCost 129 = .ok (.getfield 36, 3) := by decide +kernel
theorem dX3_chanceCost_132 : decode cX3_chanceCost 132 = .ok (.lload 5, 2) := by decide +kernel
theorem dX3_chanceCost_134 : decode cX3_chanceCost 134 = .ok (.lmul, 1) := by decide +kernel
theorem dX3_chanceCost_135 : decode cX3_chanceCost 135 = .ok (.ladd, 1) := by decide +kernel
theorem dX3_chanceCost_136 : decode cX3_chanceCost 136 = .ok (.lload 9, 2) := by decide +kernel
theorem dX3_chanceCost_138 : decode cX3_chanceCost 138 = .ok (.ldiv, 1) := by decide +kernel
theorem dX3_chanceCost_139 : decode cX3_chanceCost 139 = .ok (.lreturn, 1) := by decide +kernel
theorem dX3_savedIfTold_0 : decode cX3_savedIfTold 0 = .ok (.aload_n 0, 1) := by decide +kernel
theorem dX3_savedIfTold_1 : decode cX3_savedIfTold 1 = .ok (.getfield 9, 3) := by decide +kernel
theorem dX3_savedIfTold_4 : decode cX3_savedIfTold 4 = .ok (.iload_n 1, 1) := by decide +kernel
theorem dX3_savedIfTold_5 : decode cX3_savedIfTold 5 = .ok (.laload, 1) := by decide +kernel
theorem dX3_savedIfTold_6 : decode cX3_savedIfTold 6 = .ok (.aload_n 0, 1) := by decide +kernel
theorem dX3_savedIfTold_7 : decode cX3_savedIfTold 7 = .ok (.getfield 15, 3) := by decide +kernel
theorem dX3_savedIfTold_10 : decode cX3_savedIfTold 10 = .ok (.iload_n 1, 1) := by decide +kernel
theorem dX3_savedIfTold_11 : decode cX3_savedIfTold 11 = .ok (.laload, 1) := by decide +kernel
theorem dX3_savedIfTold_12 : decode cX3_savedIfTold 12 = .ok (.lsub, 1) := by decide +kernel
theorem dX3_savedIfTold_13 : decode cX3_savedIfTold 13 = .ok (.lreturn, 1) := by decide +kernel
theorem dX3_lossCost_0 : decode cX3_lossCost 0 = .ok (.aload_n 0, 1) := by decide +kernel
theorem dX3_lossCost_1 : decode cX3_lossCost 1 = .ok (.getfield 15, 3) := by decide +kernel
theorem dX3_lossCost_4 : decode cX3_lossCost 4 = .ok (.iload_n 1, 1) := by decide +kernel
theorem dX3_lossCost_5 : decode cX3_lossCost 5 = .ok (.laload, 1) := by decide +kernel
theorem dX3_lossCost_6 : decode cX3_lossCost 6 = .ok (.lload 4, 2) := by decide +kernel
theorem dX3_lossCost_8 : decode cX3_lossCost 8 = .ok (.ladd, 1) := by decide +kernel
theorem dX3_lossCost_9 : decode cX3_lossCost 9 = .ok (.lstore 6, 2) := by decide +kernel
theorem dX3_lossCost_11 : decode cX3_lossCost 11 = .ok (.aload_n 0, 1) := by decide +kernel
theorem dX3_lossCost_12 : decode cX3_lossCost 12 = .ok (.getfield 9, 3) := by decide +kernel
theorem dX3_lossCost_15 : decode cX3_lossCost 15 = .ok (.iload_n 1, 1) := by decide +kernel
theorem dX3_lossCost_16 : decode cX3_lossCost 16 = .ok (.laload, 1) := by decide +kernel
theorem dX3_lossCost_17 : decode cX3_lossCost 17 = .ok (.lload_n 2, 1) := by decide +kernel
theorem dX3_lossCost_18 : decode cX3_lossCost 18 = .ok (.ladd, 1) := by decide +kernel
theorem dX3_lossCost_19 : decode cX3_lossCost 19 = .ok (.lstore 8, 2) := by decide +kernel
theorem dX3_lossCost_21 : decode cX3_lossCost 21 = .ok (.aload_n 0, 1) := by decide +kernel
theorem dX3_lossCost_22 : decode cX3_lossCost 22 = .ok (.getfield 21, 3) := by decide +kernel
theorem dX3_lossCost_25 : decode cX3_lossCost 25 = .ok (.iload_n 1, 1) := by decide +kernel
theorem dX3_lossCost_26 : decode cX3_lossCost 26 = .ok (.iaload, 1) := by decide +kernel
theorem dX3_lossCost_27 : decode cX3_lossCost 27 = .ok (.ifCond .ne 19, 3) := by decide +kernel
theorem dX3_lossCost_30 : decode cX3_lossCost 30 = .ok (.lload 6, 2) := by decide +kernel
theorem dX3_lossCost_32 : decode cX3_lossCost 32 = .ok (.lload 8, 2) := by decide +kernel
theorem dX3_lossCost_34 : decode cX3_lossCost 34 = .ok (.lcmp, 1) := by decide +kernel
theorem dX3_lossCost_35 : decode cX3_lossCost 35 = .ok (.ifCond .ge 8, 3) := by decide +kernel
theorem dX3_lossCost_38 : decode cX3_lossCost 38 = .ok (.lload 6, 2) := by decide +kernel
theorem dX3_lossCost_40 : decode cX3_lossCost 40 = .ok (.goto 5, 3) := by decide +kernel
theorem dX3_lossCost_43 : decode cX3_lossCost 43 = .ok (.lload 8, 2) := by decide +kernel
theorem dX3_lossCost_45 : decode cX3_lossCost 45 = .ok (.lreturn, 1) := by decide +kernel
theorem dX3_lossCost_46 : decode cX3_lossCost 46 = .ok (.aload_n 0, 1) := by decide +kernel
theorem dX3_lossCost_47 : decode cX3_lossCost 47 = .ok (.getfield 21, 3) := by decide +kernel
theorem dX3_lossCost_50 : decode cX3_lossCost 50 = .ok (.iload_n 1, 1) := by decide +kernel
theorem dX3_lossCost_51 : decode cX3_lossCost 51 = .ok (.iaload, 1) := by decide +kernel
theorem dX3_lossCost_52 : decode cX3_lossCost 52 = .ok (.iconst 1, 1) := by decide +kernel
theorem dX3_lossCost_53 : decode cX3_lossCost 53 = .ok (.if_icmp .ne 8, 3) := by decide +kernel
theorem dX3_lossCost_56 : decode cX3_lossCost 56 = .ok (.lload 6, 2) := by decide +kernel
theorem dX3_lossCost_58 : decode cX3_lossCost 58 = .ok (.goto 5, 3) := by decide +kernel
theorem dX3_lossCost_61 : decode cX3_lossCost 61 = .ok (.lload 8, 2) := by decide +kernel
theorem dX3_lossCost_63 : decode cX3_lossCost 63 = .ok (.lreturn, 1) := by decide +kernel
theorem dX4_init_0 : decode cX4_init 0 = .ok (.aload_n 0, 1) := by decide +kernel
theorem dX4_init_1 : decode cX4_init 1 = .ok (.invokespecial 3, 3) := by decide +kernel
theorem dX4_init_4 : decode cX4_init 4 = .ok (.aload_n 0, 1) := by decide +kernel
theorem dX4_init_5 : decode cX4_init 5 = .ok (.new 9, 3) := by decide +kernel
theorem dX4_init_8 : decode cX4_init 8 = .ok (.dup, 1) := by decide +kernel
theorem dX4_init_9 : decode cX4_init 9 = .ok (.invokespecial 11, 3) := by decide +kernel
theorem dX4_init_12 : decode cX4_init 12 = .ok (.putfield 12, 3) := by decide +kernel
theorem dX4_init_15 : decode cX4_init 15 = .ok (.aload_n 0, 1) := by decide +kernel
theorem dX4_init_16 : decode cX4_init 16 = .ok (.sipush 168, 3) := by decide +kernel
theorem dX4_init_19 : decode cX4_init 19 = .ok (.newarray .long, 2) := by decide +kernel
theorem dX4_init_21 : decode cX4_init 21 = .ok (.putfield 18, 3) := by decide +kernel
theorem dX4_init_24 : decode cX4_init 24 = .ok (.aload_n 0, 1) := by decide +kernel
theorem dX4_init_25 : decode cX4_init 25 = .ok (.bipush 42, 2) := by decide +kernel
theorem dX4_init_27 : decode cX4_init 27 = .ok (.newarray .long, 2) := by decide +kernel
theorem dX4_init_29 : decode cX4_init 29 = .ok (.putfield 22, 3) := by decide +kernel
theorem dX4_init_32 : decode cX4_init 32 = .ok (.aload_n 0, 1) := by decide +kernel
theorem dX4_init_33 : decode cX4_init 33 = .ok (.aload_n 1, 1) := by decide +kernel
theorem dX4_init_34 : decode cX4_init 34 = .ok (.putfield 25, 3) := by decide +kernel
theorem dX4_init_37 : decode cX4_init 37 = .ok (.aload_n 0, 1) := by decide +kernel
theorem dX4_init_38 : decode cX4_init 38 = .ok (.iconst 1, 1) := by decide +kernel
theorem dX4_init_39 : decode cX4_init 39 = .ok (.putfield 29, 3) := by decide +kernel
theorem dX4_init_42 : decode cX4_init 42 = .ok (.aload_n 0, 1) := by decide +kernel
theorem dX4_init_43 : decode cX4_init 43 = .ok (.iconst 1, 1) := by decide +kernel
theorem dX4_init_44 : decode cX4_init 44 = .ok (.putfield 33, 3) := by decide +kernel
theorem dX4_init_47 : decode cX4_init 47 = .ok (.return_, 1) := by decide +kernel
theorem dX4_look_0 : decode cX4_look 0 = .ok (.aload_n 0, 1) := by decide +kernel
theorem dX4_look_1 : decode cX4_look 1 = .ok (.aload_n 1, 1) := by decide +kernel
theorem dX4_look_2 : decode cX4_look 2 = .ok (.putfield 25, 3) := by decide +kernel
theorem dX4_look_5 : decode cX4_look 5 = .ok (.aload_n 0, 1) := by decide +kernel
theorem dX4_look_6 : decode cX4_look 6 = .ok (.iload_n 2, 1) := by decide +kernel
theorem dX4_look_7 : decode cX4_look 7 = .ok (.putfield 29, 3) := by decide +kernel
theorem dX4_look_10 : decode cX4_look 10 = .ok (.aload_n 0, 1) := by decide +kernel
theorem dX4_look_11 : decode cX4_look 11 = .ok (.iconst 0, 1) := by decide +kernel
theorem dX4_look_12 : decode cX4_look 12 = .ok (.putfield 37, 3) := by decide +kernel
theorem dX4_look_15 : decode cX4_look 15 = .ok (.aload_n 0, 1) := by decide +kernel
theorem dX4_look_16 : decode cX4_look 16 = .ok (.iconst 0, 1) := by decide +kernel
theorem dX4_look_17 : decode cX4_look 17 = .ok (.putfield 40, 3) := by decide +kernel
theorem dX4_look_20 : decode cX4_look 20 = .ok (.aload_n 0, 1) := by decide +kernel
theorem dX4_look_21 : decode cX4_look 21 = .ok (.iconst 0, 1) := by decide +kernel
theorem dX4_look_22 : decode cX4_look 22 = .ok (.putfield 43, 3) := by decide +kernel
theorem dX4_look_25 : decode cX4_look 25 = .ok (.aload_n 0, 1) := by decide +kernel
theorem dX4_look_26 : decode cX4_look 26 = .ok (.iconst 1, 1) := by decide +kernel
theorem dX4_look_27 : decode cX4_look 27 = .ok (.putfield 33, 3) := by decide +kernel
theorem dX4_look_30 : decode cX4_look 30 = .ok (.aload_n 0, 1) := by decide +kernel
theorem dX4_look_31 : decode cX4_look 31 = .ok (.iconst 0, 1) := by decide +kernel
theorem dX4_look_32 : decode cX4_look 32 = .ok (.putfield 46, 3) := by decide +kernel
theorem dX4_look_35 : decode cX4_look 35 = .ok (.aload_n 0, 1) := by decide +kernel
theorem dX4_look_36 : decode cX4_look 36 = .ok (.iconst 0, 1) := by decide +kernel
theorem dX4_look_37 : decode cX4_look 37 = .ok (.putfield 49, 3) := by decide +kernel
theorem dX4_look_40 : decode cX4_look 40 = .ok (.return_, 1) := by decide +kernel
theorem dX4_learn_0 : decode cX4_learn 0 = .ok (.aload_n 0, 1) := by decide +kernel
theorem dX4_learn_1 : decode cX4_learn 1 = .ok (.getfield 49, 3) := by decide +kernel
theorem dX4_learn_4 : decode cX4_learn 4 = .ok (.ifCond .ne 42, 3) := by decide +kernel
theorem dX4_learn_7 : decode cX4_learn 7 = .ok (.aload_n 0, 1) := by decide +kernel
theorem dX4_learn_8 : decode cX4_learn 8 = .ok (.aload_n 0, 1) := by decide +kernel
theorem dX4_learn_9 : decode cX4_learn 9 = .ok (.getfield 25, 3) := by decide +kernel
theorem dX4_learn_12 : decode cX4_learn 12 = .ok (.invokevirtual 52, 3) := by decide +kernel
theorem dX4_learn_15 : decode cX4_learn 15 = .ok (.aload_n 0, 1) := by decide +kernel
theorem dX4_learn_16 : decode cX4_learn 16 = .ok (.getfield 33, 3) := by decide +kernel
theorem dX4_learn_19 : decode cX4_learn 19 = .ok (.imul, 1) := by decide +kernel
theorem dX4_learn_20 : decode cX4_learn 20 = .ok (.putfield 58, 3) := by decide +kernel
theorem dX4_learn_23 : decode cX4_learn 23 = .ok (.aload_n 0, 1) := by decide +kernel
theorem dX4_learn_24 : decode cX4_learn 24 = .ok (.getfield 12, 3) := by decide +kernel
theorem dX4_learn_27 : decode cX4_learn 27 = .ok (.aload_n 0, 1) := by decide +kernel
theorem dX4_learn_28 : decode cX4_learn 28 = .ok (.getfield 25, 3) := by decide +kernel
theorem dX4_learn_31 : decode cX4_learn 31 = .ok (.aload_n 0, 1) := by decide +kernel
theorem dX4_learn_32 : decode cX4_learn 32 = .ok (.getfield 37, 3) := by decide +kernel
theorem dX4_learn_35 : decode cX4_learn 35 = .ok (.aload_n 0, 1) := by decide +kernel
theorem dX4_learn_36 : decode cX4_learn 36 = .ok (.getfield 40, 3) := by decide +kernel
theorem dX4_learn_39 : decode cX4_learn 39 = .ok (.aload_n 0, 1) := by decide +kernel
theorem dX4_learn_40 : decode cX4_learn 40 = .ok (.getfield 43, 3) := by decide +kernel
theorem dX4_learn_43 : decode cX4_learn 43 = .ok (.invokevirtual 60, 3) := by decide +kernel
theorem dX4_learn_46 : decode cX4_learn 46 = .ok (.aload_n 0, 1) := by decide +kernel
theorem dX4_learn_47 : decode cX4_learn 47 = .ok (.getfield 49, 3) := by decide +kernel
theorem dX4_learn_50 : decode cX4_learn 50 = .ok (.iconst 1, 1) := by decide +kernel
theorem dX4_learn_51 : decode cX4_learn 51 = .ok (.iadd, 1) := by decide +kernel
theorem dX4_learn_52 : decode cX4_learn 52 = .ok (.istore_n 2, 1) := by decide +kernel
theorem dX4_learn_53 : decode cX4_learn 53 = .ok (.iload_n 2, 1) := by decide +kernel
theorem dX4_learn_54 : decode cX4_learn 54 = .ok (.iload_n 1, 1) := by decide +kernel
theorem dX4_learn_55 : decode cX4_learn 55 = .ok (.if_icmp .gt 67, 3) := by decide +kernel
theorem dX4_learn_58 : decode cX4_learn 58 = .ok (.iconst 0, 1) := by decide +kernel
theorem dX4_learn_59 : decode cX4_learn 59 = .ok (.istore_n 3, 1) := by decide +kernel
theorem dX4_learn_60 : decode cX4_learn 60 = .ok (.iload_n 3, 1) := by decide +kernel
theorem dX4_learn_61 : decode cX4_learn 61 = .ok (.aload_n 0, 1) := by decide +kernel
theorem dX4_learn_62 : decode cX4_learn 62 = .ok (.getfield 25, 3) := by decide +kernel
theorem dX4_learn_65 : decode cX4_learn 65 = .ok (.getfield 64, 3) := by decide +kernel
theorem dX4_learn_68 : decode cX4_learn 68 = .ok (.if_icmp .ge 43, 3) := by decide +kernel
theorem dX4_learn_71 : decode cX4_learn 71 = .ok (.aload_n 0, 1) := by decide +kernel
theorem dX4_learn_72 : decode cX4_learn 72 = .ok (.iload_n 2, 1) := by decide +kernel
theorem dX4_learn_73 : decode cX4_learn 73 = .ok (.iload_n 3, 1) := by decide +kernel
theorem dX4_learn_74 : decode cX4_learn 74 = .ok (.iconst 0, 1) := by decide +kernel
theorem dX4_learn_75 : decode cX4_learn 75 = .ok (.iconst 0, 1) := by decide +kernel
theorem dX4_learn_76 : decode cX4_learn 76 = .ok (.aload_n 0, 1) := by decide +kernel
theorem dX4_learn_77 : decode cX4_learn 77 = .ok (.getfield 29, 3) := by decide +kernel
theorem dX4_learn_80 : decode cX4_learn 80 = .ok (.invokevirtual 67, 3) := by decide +kernel
theorem dX4_learn_83 : decode cX4_learn 83 = .ok (.aload_n 0, 1) := by decide +kernel
theorem dX4_learn_84 : decode cX4_learn 84 = .ok (.getfield 18, 3) := by decide +kernel
theorem dX4_learn_87 : decode cX4_learn 87 = .ok (.iload_n 2, 1) := by decide +kernel
theorem dX4_learn_88 : decode cX4_learn 88 = .ok (.bipush 8, 2) := by decide +kernel
theorem dX4_learn_90 : decode cX4_learn 90 = .ok (.imul, 1) := by decide +kernel
theorem dX4_learn_91 : decode cX4_learn 91 = .ok (.iload_n 3, 1) := by decide +kernel
theorem dX4_learn_92 : decode cX4_learn 92 = .ok (.iadd, 1) := by decide +kernel
theorem dX4_learn_93 : decode cX4_learn 93 = .ok (.aload_n 0, 1) := by decide +kernel
theorem dX4_learn_94 : decode cX4_learn 94 = .ok (.iload_n 3, 1) := by decide +kernel
theorem dX4_learn_95 : decode cX4_learn 95 = .ok (.invokevirtual 71, 3) := by decide +kernel
theorem dX4_learn_98 : decode cX4_learn 98 = .ok (.aload_n 0, 1) := by decide +kernel
theorem dX4_learn_99 : decode cX4_learn 99 = .ok (.iload_n 3, 1) := by decide +kernel
theorem dX4_learn_100 : decode cX4_learn 100 = .ok (.invokevirtual 75, 3) := by decide +kernel
theorem dX4_learn_103 : decode cX4_learn 103 = .ok (.ladd, 1) := by decide +kernel
theorem dX4_learn_104 : decode cX4_learn 104 = .ok (.lastore, 1) := by decide +kernel
theorem dX4_learn_105 : decode cX4_learn 105 = .ok (.iinc 3 1, 3) := by decide +kernel
theorem dX4_learn_108 : decode cX4_learn 108 = .ok (.goto (-48), 3) := by decide +kernel
theorem dX4_learn_111 : decode cX4_learn 111 = .ok (.aload_n 0, 1) := by decide +kernel
theorem dX4_learn_112 : decode cX4_learn 112 = .ok (.iload_n 2, 1) := by decide +kernel
theorem dX4_learn_113 : decode cX4_learn 113 = .ok (.putfield 49, 3) := by decide +kernel
theorem dX4_learn_116 : decode cX4_learn 116 = .ok (.iinc 2 1, 3) := by decide +kernel
theorem dX4_learn_119 : decode cX4_learn 119 = .ok (.goto (-66), 3) := by decide +kernel
theorem dX4_learn_122 : decode cX4_learn 122 = .ok (.return_, 1) := by decide +kernel
theorem dX4_costOf_0 : decode cX4_costOf 0 = .ok (.aload_n 0, 1) := by decide +kernel
theorem dX4_costOf_1 : decode cX4_costOf 1 = .ok (.iload_n 1, 1) := by decide +kernel
theorem dX4_costOf_2 : decode cX4_costOf 2 = .ok (.invokevirtual 78, 3) := by decide +kernel
theorem dX4_costOf_5 : decode cX4_costOf 5 = .ok (.aload_n 0, 1) := by decide +kernel
theorem dX4_costOf_6 : decode cX4_costOf 6 = .ok (.getfield 18, 3) := by decide +kernel
theorem dX4_costOf_9 : decode cX4_costOf 9 = .ok (.iload_n 1, 1) := by decide +kernel
theorem dX4_costOf_10 : decode cX4_costOf 10 = .ok (.bipush 8, 2) := by decide +kernel
theorem dX4_costOf_12 : decode cX4_costOf 12 = .ok (.imul, 1) := by decide +kernel
theorem dX4_costOf_13 : decode cX4_costOf 13 = .ok (.iload_n 2, 1) := by decide +kernel
theorem dX4_costOf_14 : decode cX4_costOf 14 = .ok (.iadd, 1) := by decide +kernel
theorem dX4_costOf_15 : decode cX4_costOf 15 = .ok (.laload, 1) := by decide +kernel
theorem dX4_costOf_16 : decode cX4_costOf 16 = .ok (.lreturn, 1) := by decide +kernel
theorem dX4_lookAhead_0 : decode cX4_lookAhead 0 = .ok (.iconst 0, 1) := by decide +kernel
theorem dX4_lookAhead_1 : decode cX4_lookAhead 1 = .ok (.istore 6, 2) := by decide +kernel
theorem dX4_lookAhead_3 : decode cX4_lookAhead 3 = .ok (.iload 6, 2) := by decide +kernel
theorem dX4_lookAhead_5 : decode cX4_lookAhead 5 = .ok (.iconst 3, 1) := by decide +kernel
theorem dX4_lookAhead_6 : decode cX4_lookAhead 6 = .ok (.if_icmp .ge 67, 3) := by decide +kernel
theorem dX4_lookAhead_9 : decode cX4_lookAhead 9 = .ok (.aload_n 0, 1) := by decide +kernel
theorem dX4_lookAhead_10 : decode cX4_lookAhead 10 = .ok (.getfield 18, 3) := by decide +kernel
theorem dX4_lookAhead_13 : decode cX4_lookAhead 13 = .ok (.iload_n 1, 1) := by decide +kernel
theorem dX4_lookAhead_14 : decode cX4_lookAhead 14 = .ok (.iconst 1, 1) := by decide +kernel
theorem dX4_lookAhead_15 : decode cX4_lookAhead 15 = .ok (.isub, 1) := by decide +kernel
theorem dX4_lookAhead_16 : decode cX4_lookAhead 16 = .ok (.bipush 8, 2) := by decide +kernel
theorem dX4_lookAhead_18 : decode cX4_lookAhead 18 = .ok (.imul, 1) := by decide +kernel
theorem dX4_lookAhead_19 : decode cX4_lookAhead 19 = .ok (.aload_n 0, 1) := by decide +kernel
theorem dX4_lookAhead_20 : decode cX4_lookAhead 20 = .ok (.getfield 25, 3) := by decide +kernel
theorem dX4_lookAhead_23 : decode cX4_lookAhead 23 = .ok (.iload_n 2, 1) := by decide +kernel
theorem dX4_lookAhead_24 : decode cX4_lookAhead 24 = .ok (.iload 6, 2) := by decide +kernel
theorem dX4_lookAhead_26 : decode cX4_lookAhead 26 = .ok (.invokevirtual 82, 3) := by decide +kernel
theorem dX4_lookAhead_29 : decode cX4_lookAhead 29 = .ok (.iadd, 1) := by decide +kernel
theorem dX4_lookAhead_30 : decode cX4_lookAhead 30 = .ok (.laload, 1) := by decide +kernel
theorem dX4_lookAhead_31 : decode cX4_lookAhead 31 = .ok (.lstore 7, 2) := by decide +kernel
theorem dX4_lookAhead_33 : decode cX4_lookAhead 33 = .ok (.aload_n 0, 1) := by decide +kernel
theorem dX4_lookAhead_34 : decode cX4_lookAhead 34 = .ok (.getfield 22, 3) := by decide +kernel
theorem dX4_lookAhead_37 : decode cX4_lookAhead 37 = .ok (.aload_n 0, 1) := by decide +kernel
theorem dX4_lookAhead_38 : decode cX4_lookAhead 38 = .ok (.getfield 58, 3) := by decide +kernel
theorem dX4_lookAhead_41 : decode cX4_lookAhead 41 = .ok (.iload 6, 2) := by decide +kernel
theorem dX4_lookAhead_43 : decode cX4_lookAhead 43 = .ok (.iconst 0, 1) := by decide +kernel
theorem dX4_lookAhead_44 : decode cX4_lookAhead 44 = .ok (.invokestatic 86, 3) := by decide +kernel
theorem dX4_lookAhead_47 : decode cX4_lookAhead 47 = .ok (.lload 7, 2) := by decide +kernel
theorem dX4_lookAhead_49 : decode cX4_lookAhead 49 = .ok (.lastore, 1) := by decide +kernel
theorem dX4_lookAhead_50 : decode cX4_lookAhead 50 = .ok (.aload_n 0, 1) := by decide +kernel
theorem dX4_lookAhead_51 : decode cX4_lookAhead 51 = .ok (.getfield 22, 3) := by decide +kernel
theorem dX4_lookAhead_54 : decode cX4_lookAhead 54 = .ok (.aload_n 0, 1) := by decide +kernel
theorem dX4_lookAhead_55 : decode cX4_lookAhead 55 = .ok (.getfield 58, 3) := by decide +kernel
theorem dX4_lookAhead_58 : decode cX4_lookAhead 58 = .ok (.iload 6, 2) := by decide +kernel
theorem dX4_lookAhead_60 : decode cX4_lookAhead 60 = .ok (.iconst 1, 1) := by decide +kernel
theorem dX4_lookAhead_61 : decode cX4_lookAhead 61 = .ok (.invokestatic 86, 3) := by decide +kernel
theorem dX4_lookAhead_64 : decode cX4_lookAhead 64 = .ok (.lload 7, 2) := by decide +kernel
theorem dX4_lookAhead_66 : decode cX4_lookAhead 66 = .ok (.lastore, 1) := by decide +kernel
theorem dX4_lookAhead_67 : decode cX4_lookAhead 67 = .ok (.iinc 6 1, 3) := by decide +kernel
theorem dX4_lookAhead_70 : decode cX4_lookAhead 70 = .ok (.goto (-67), 3) := by decide +kernel
theorem dX4_lookAhead_73 : decode cX4_lookAhead 73 = .ok (.aload_n 0, 1) := by decide +kernel
theorem dX4_lookAhead_74 : decode cX4_lookAhead 74 = .ok (.getfield 58, 3) := by decide +kernel
theorem dX4_lookAhead_77 : decode cX4_lookAhead 77 = .ok (.iconst 1, 1) := by decide +kernel
theorem dX4_lookAhead_78 : decode cX4_lookAhead 78 = .ok (.isub, 1) := by decide +kernel
theorem dX4_lookAhead_79 : decode cX4_lookAhead 79 = .ok (.istore 6, 2) := by decide +kernel
theorem dX4_lookAhead_81 : decode cX4_lookAhead 81 = .ok (.iload 6, 2) := by decide +kernel
theorem dX4_lookAhead_83 : decode cX4_lookAhead 83 = .ok (.iload_n 3, 1) := by decide +kernel
theorem dX4_lookAhead_84 : decode cX4_lookAhead 84 = .ok (.if_icmp .lt 140, 3) := by decide +kernel
theorem dX4_lookAhead_87 : decode cX4_lookAhead 87 = .ok (.iconst 2, 1) := by decide +kernel
theorem dX4_lookAhead_88 : decode cX4_lookAhead 88 = .ok (.iload 4, 2) := by decide +kernel
theorem dX4_lookAhead_90 : decode cX4_lookAhead 90 = .ok (.iload 6, 2) := by decide +kernel
theorem dX4_lookAhead_92 : decode cX4_lookAhead 92 = .ok (.iadd, 1) := by decide +kernel
theorem dX4_lookAhead_93 : decode cX4_lookAhead 93 = .ok (.iload_n 3, 1) := by decide +kernel
theorem dX4_lookAhead_94 : decode cX4_lookAhead 94 = .ok (.isub, 1) := by decide +kernel
theorem dX4_lookAhead_95 : decode cX4_lookAhead 95 = .ok (.invokestatic 90, 3) := by decide +kernel
theorem dX4_lookAhead_98 : decode cX4_lookAhead 98 = .ok (.istore 7, 2) := by decide +kernel
theorem dX4_lookAhead_100 : decode cX4_lookAhead 100 = .ok (.iload 4, 2) := by decide +kernel
theorem dX4_lookAhead_102 : decode cX4_lookAhead 102 = .ok (.istore 8, 2) := by decide +kernel
theorem dX4_lookAhead_104 : decode cX4_lookAhead 104 = .ok (.iload 8, 2) := by decide +kernel
theorem dX4_lookAhead_106 : decode cX4_lookAhead 106 = .ok (.iload 7, 2) := by decide +kernel
theorem dX4_lookAhead_108 : decode cX4_lookAhead 108 = .ok (.if_icmp .gt 57, 3) := by decide +kernel
theorem dX4_lookAhead_111 : decode cX4_lookAhead 111 = .ok (.aload_n 0, 1) := by decide +kernel
theorem dX4_lookAhead_112 : decode cX4_lookAhead 112 = .ok (.getfield 22, 3) := by decide +kernel
theorem dX4_lookAhead_115 : decode cX4_lookAhead 115 = .ok (.iload 6, 2) := by decide +kernel
theorem dX4_lookAhead_117 : decode cX4_lookAhead 117 = .ok (.iload 8, 2) := by decide +kernel
theorem dX4_lookAhead_119 : decode cX4_lookAhead 119 = .ok (.iconst 0, 1) := by decide +kernel
theorem dX4_lookAhead_120 : decode cX4_lookAhead 120 = .ok (.invokestatic 86, 3) := by decide +kernel
theorem dX4_lookAhead_123 : decode cX4_lookAhead 123 = .ok (.aload_n 0, 1) := by decide +kernel
theorem dX4_lookAhead_124 : decode cX4_lookAhead 124 = .ok (.getfield 12, 3) := by decide +kernel
theorem dX4_lookAhead_127 : decode cX4_lookAhead 127 = .ok (.aload_n 0, 1) := by decide +kernel
theorem dX4_lookAhead_128 : decode cX4_lookAhead 128 = .ok (.getfield 22, 3) := by decide +kernel
theorem dX4_lookAhead_131 : decode cX4_lookAhead 131 = .ok (.iload 6, 2) := by decide +kernel
theorem dX4_lookAhead_133 : decode cX4_lookAhead 133 = .ok (.iconst 1, 1) := by decide +kernel
theorem dX4_lookAhead_134 : decode cX4_lookAhead 134 = .ok (.iadd, 1) := by decide +kernel
theorem dX4_lookAhead_135 : decode cX4_lookAhead 135 = .ok (.iload 8, 2) := by decide +kernel
theorem dX4_lookAhead_137 : decode cX4_lookAhead 137 = .ok (.iconst 0, 1) := by decide +kernel
theorem dX4_lookAhead_138 : decode cX4_lookAhead 138 = .ok (.invokestatic 86, 3) := by decide +kernel
theorem dX4_lookAhead_141 : decode cX4_lookAhead 141 = .ok (.laload, 1) := by decide +kernel
theorem dX4_lookAhead_142 : decode cX4_lookAhead 142 = .ok (.aload_n 0, 1) := by decide +kernel
theorem dX4_lookAhead_143 : decode cX4_lookAhead 143 = .ok (.getfield 22, 3) := by decide +kernel
theorem dX4_lookAhead_146 : decode cX4_lookAhead 146 = .ok (.iload 6, 2) := by decide +kernel
theorem dX4_lookAhead_148 : decode cX4_lookAhead 148 = .ok (.iload 8, 2) := by decide +kernel
theorem dX4_lookAhead_150 : decode cX4_lookAhead 150 = .ok (.iconst 0, 1) := by decide +kernel
theorem dX4_lookAhead_151 : decode cX4_lookAhead 151 = .ok (.invokestatic 95, 3) := by decide +kernel
theorem dX4_lookAhead_154 : decode cX4_lookAhead 154 = .ok (.laload, 1) := by decide +kernel
theorem dX4_lookAhead_155 : decode cX4_lookAhead 155 = .ok (.invokevirtual 98, 3) := by decide +kernel
theorem dX4_lookAhead_158 : decode cX4_lookAhead 158 = .ok (.lastore, 1) := by decide +kernel
theorem dX4_lookAhead_159 : decode cX4_lookAhead 159 = .ok (.iinc 8 1, 3) := by decide +kernel
theorem dX4_lookAhead_162 : decode cX4_lookAhead 162 = .ok (.goto (-58), 3) := by decide +kernel
theorem dX4_lookAhead_165 : decode cX4_lookAhead 165 = .ok (.iload 5, 2) := by decide +kernel
theorem dX4_lookAhead_167 : decode cX4_lookAhead 167 = .ok (.ifCond .eq 51, 3) := by decide +kernel
theorem dX4_lookAhead_170 : decode cX4_lookAhead 170 = .ok (.aload_n 0, 1) := by decide +kernel
theorem dX4_lookAhead_171 : decode cX4_lookAhead 171 = .ok (.getfield 22, 3) := by decide +kernel
theorem dX4_lookAhead_174 : decode cX4_lookAhead 174 = .ok (.iload 6, 2) := by decide +kernel
theorem dX4_lookAhead_176 : decode cX4_lookAhead 176 = .ok (.iload 4, 2) := by decide +kernel
theorem dX4_lookAhead_178 : decode cX4_lookAhead 178 = .ok (.iconst 1, 1) := by decide +kernel
theorem dX4_lookAhead_179 : decode cX4_lookAhead 179 = .ok (.invokestatic 86, 3) := by decide +kernel
theorem dX4_lookAhead_182 : decode cX4_lookAhead 182 = .ok (.aload_n 0, 1) := by decide +kernel
theorem dX4_lookAhead_183 : decode cX4_lookAhead 183 = .ok (.getfield 12, 3) := by decide +kernel
theorem dX4_lookAhead_186 : decode cX4_lookAhead 186 = .ok (.aload_n 0, 1) := by decide +kernel
theorem dX4_lookAhead_187 : decode cX4_lookAhead 187 = .ok (.getfield 22, 3) := by decide +kernel
theorem dX4_lookAhead_190 : decode cX4_lookAhead 190 = .ok (.iload 6, 2) := by decide +kernel
theorem dX4_lookAhead_192 : decode cX4_lookAhead 192 = .ok (.iconst 1, 1) := by decide +kernel
theorem dX4_lookAhead_193 : decode cX4_lookAhead 193 = .ok (.iadd, 1) := by decide +kernel
theorem dX4_lookAhead_194 : decode cX4_lookAhead 194 = .ok (.iload 4, 2) := by decide +kernel
theorem dX4_lookAhead_196 : decode cX4_lookAhead 196 = .ok (.iconst 1, 1) := by decide +kernel
theorem dX4_lookAhead_197 : decode cX4_lookAhead 197 = .ok (.invokestatic 86, 3) := by decide +kernel
theorem dX4_lookAhead_200 : decode cX4_lookAhead 200 = .ok (.laload, 1) := by decide +kernel
theorem dX4_lookAhead_201 : decode cX4_lookAhead 201 = .ok (.aload_n 0, 1) := by decide +kernel
theorem dX4_lookAhead_202 : decode cX4_lookAhead 202 = .ok (.getfield 22, 3) := by decide +kernel
theorem dX4_lookAhead_205 : decode cX4_lookAhead 205 = .ok (.iload 6, 2) := by decide +kernel
theorem dX4_lookAhead_207 : decode cX4_lookAhead 207 = .ok (.iload 4, 2) := by decide +kernel
theorem dX4_lookAhead_209 : decode cX4_lookAhead 209 = .ok (.iconst 1, 1) := by decide +kernel
theorem dX4_lookAhead_210 : decode cX4_lookAhead 210 = .ok (.invokestatic 95, 3) := by decide +kernel
theorem dX4_lookAhead_213 : decode cX4_lookAhead 213 = .ok (.laload, 1) := by decide +kernel
theorem dX4_lookAhead_214 : decode cX4_lookAhead 214 = .ok (.invokevirtual 98, 3) := by decide +kernel
theorem dX4_lookAhead_217 : decode cX4_lookAhead 217 = .ok (.lastore, 1) := by decide +kernel
theorem dX4_lookAhead_218 : decode cX4_lookAhead 218 = .ok (.iinc 6 (-1), 3) := by decide +kernel
theorem dX4_lookAhead_221 : decode cX4_lookAhead 221 = .ok (.goto (-140), 3) := by decide +kernel
theorem dX4_lookAhead_224 : decode cX4_lookAhead 224 = .ok (.return_, 1) := by decide +kernel
theorem dX4_buys_0 : decode cX4_buys 0 = .ok (.aload_n 0, 1) := by decide +kernel
theorem dX4_buys_1 : decode cX4_buys 1 = .ok (.iload_n 1, 1) := by decide +kernel
theorem dX4_buys_2 : decode cX4_buys 2 = .ok (.iload_n 2, 1) := by decide +kernel
theorem dX4_buys_3 : decode cX4_buys 3 = .ok (.iconst 0, 1) := by decide +kernel
theorem dX4_buys_4 : decode cX4_buys 4 = .ok (.iconst 0, 1) := by decide +kernel
theorem dX4_buys_5 : decode cX4_buys 5 = .ok (.iconst 1, 1) := by decide +kernel
theorem dX4_buys_6 : decode cX4_buys 6 = .ok (.invokevirtual 67, 3) := by decide +kernel
theorem dX4_buys_9 : decode cX4_buys 9 = .ok (.aload_n 0, 1) := by decide +kernel
theorem dX4_buys_10 : decode cX4_buys 10 = .ok (.iload_n 2, 1) := by decide +kernel
theorem dX4_buys_11 : decode cX4_buys 11 = .ok (.invokevirtual 102, 3) := by decide +kernel
theorem dX4_buys_14 : decode cX4_buys 14 = .ok (.ireturn, 1) := by decide +kernel
theorem dX4_aheadOf_0 : decode cX4_aheadOf 0 = .ok (.aload_n 0, 1) := by decide +kernel
theorem dX4_aheadOf_1 : decode cX4_aheadOf 1 = .ok (.getfield 22, 3) := by decide +kernel
theorem dX4_aheadOf_4 : decode cX4_aheadOf 4 = .ok (.iload_n 1, 1) := by decide +kernel
theorem dX4_aheadOf_5 : decode cX4_aheadOf 5 = .ok (.iload_n 2, 1) := by decide +kernel
theorem dX4_aheadOf_6 : decode cX4_aheadOf 6 = .ok (.iload_n 3, 1) := by decide +kernel
theorem dX4_aheadOf_7 : decode cX4_aheadOf 7 = .ok (.invokestatic 86, 3) := by decide +kernel
theorem dX4_aheadOf_10 : decode cX4_aheadOf 10 = .ok (.laload, 1) := by decide +kernel
theorem dX4_aheadOf_11 : decode cX4_aheadOf 11 = .ok (.lreturn, 1) := by decide +kernel
theorem dX4_gainOf_0 : decode cX4_gainOf 0 = .ok (.aload_n 0, 1) := by decide +kernel
theorem dX4_gainOf_1 : decode cX4_gainOf 1 = .ok (.getfield 12, 3) := by decide +kernel
theorem dX4_gainOf_4 : decode cX4_gainOf 4 = .ok (.iload 4, 2) := by decide +kernel
theorem dX4_gainOf_6 : decode cX4_gainOf 6 = .ok (.invokevirtual 106, 3) := by decide +kernel
theorem dX4_gainOf_9 : decode cX4_gainOf 9 = .ok (.aload_n 0, 1) := by decide +kernel
theorem dX4_gainOf_10 : decode cX4_gainOf 10 = .ok (.iload_n 1, 1) := by decide +kernel
theorem dX4_gainOf_11 : decode cX4_gainOf 11 = .ok (.iload_n 2, 1) := by decide +kernel
theorem dX4_gainOf_12 : decode cX4_gainOf 12 = .ok (.iload_n 3, 1) := by decide +kernel
theorem dX4_gainOf_13 : decode cX4_gainOf 13 = .ok (.invokevirtual 109, 3) := by decide +kernel
theorem dX4_gainOf_16 : decode cX4_gainOf 16 = .ok (.lsub, 1) := by decide +kernel
theorem dX4_gainOf_17 : decode cX4_gainOf 17 = .ok (.lreturn, 1) := by decide +kernel
theorem dX4_leastTold_0 : decode cX4_leastTold 0 = .ok (.aload_n 0, 1) := by decide +kernel
theorem dX4_leastTold_1 : decode cX4_leastTold 1 = .ok (.iload_n 1, 1) := by decide +kernel
theorem dX4_leastTold_2 : decode cX4_leastTold 2 = .ok (.iload_n 2, 1) := by decide +kernel
theorem dX4_leastTold_3 : decode cX4_leastTold 3 = .ok (.iload_n 3, 1) := by decide +kernel
theorem dX4_leastTold_4 : decode cX4_leastTold 4 = .ok (.invokevirtual 109, 3) := by decide +kernel
theorem dX4_leastTold_7 : decode cX4_leastTold 7 = .ok (.lstore 4, 2) := by decide +kernel
theorem dX4_leastTold_9 : decode cX4_leastTold 9 = .ok (.lload 4, 2) := by decide +kernel
theorem dX4_leastTold_11 : decode cX4_leastTold 11 = .ok (.lconst 0, 1) := by decide +kernel
theorem dX4_leastTold_12 : decode cX4_leastTold 12 = .ok (.lcmp, 1) := by decide +kernel
theorem dX4_leastTold_13 : decode cX4_leastTold 13 = .ok (.ifCond .ge 5, 3) := by decide +kernel
theorem dX4_leastTold_16 : decode cX4_leastTold 16 = .ok (.iconst 1, 1) := by decide +kernel
theorem dX4_leastTold_17 : decode cX4_leastTold 17 = .ok (.ireturn, 1) := by decide +kernel
theorem dX4_leastTold_18 : decode cX4_leastTold 18 = .ok (.aload_n 0, 1) := by decide +kernel
theorem dX4_leastTold_19 : decode cX4_leastTold 19 = .ok (.getfield 25, 3) := by decide +kernel
theorem dX4_leastTold_22 : decode cX4_leastTold 22 = .ok (.invokevirtual 113, 3) := by decide +kernel
theorem dX4_leastTold_25 : decode cX4_leastTold 25 = .ok (.i2l, 1) := by decide +kernel
theorem dX4_leastTold_26 : decode cX4_leastTold 26 = .ok (.lload 4, 2) := by decide +kernel
theorem dX4_leastTold_28 : decode cX4_leastTold 28 = .ok (.ldc2_w 116, 3) := by decide +kernel
theorem dX4_leastTold_31 : decode cX4_leastTold 31 = .ok (.ldiv, 1) := by decide +kernel
theorem dX4_leastTold_32 : decode cX4_leastTold 32 = .ok (.ladd, 1) := by decide +kernel
theorem dX4_leastTold_33 : decode cX4_leastTold 33 = .ok (.lconst 1, 1) := by decide +kernel
theorem dX4_leastTold_34 : decode cX4_leastTold 34 = .ok (.ladd, 1) := by decide +kernel
theorem dX4_leastTold_35 : decode cX4_leastTold 35 = .ok (.lstore 6, 2) := by decide +kernel
theorem dX4_leastTold_37 : decode cX4_leastTold 37 = .ok (.lload 6, 2) := by decide +kernel
theorem dX4_leastTold_39 : decode cX4_leastTold 39 = .ok (.ldc2_w 118, 3) := by decide +kernel
theorem dX4_leastTold_42 : decode cX4_leastTold 42 = .ok (.lcmp, 1) := by decide +kernel
theorem dX4_leastTold_43 : decode cX4_leastTold 43 = .ok (.ifCond .le 8, 3) := by decide +kernel
theorem dX4_leastTold_46 : decode cX4_leastTold 46 = .ok (.bipush (-2), 2) := by decide +kernel
theorem dX4_leastTold_48 : decode cX4_leastTold 48 = .ok (.goto 6, 3) := by decide +kernel
theorem dX4_leastTold_51 : decode cX4_leastTold 51 = .ok (.lload 6, 2) := by decide +kernel
theorem dX4_leastTold_53 : decode cX4_leastTold 53 = .ok (.l2i, 1) := by decide +kernel
theorem dX4_leastTold_54 : decode cX4_leastTold 54 = .ok (.ireturn, 1) := by decide +kernel
theorem dX4_dearerIfTold_0 : decode cX4_dearerIfTold 0 = .ok (.aload_n 0, 1) := by decide +kernel
theorem dX4_dearerIfTold_1 : decode cX4_dearerIfTold 1 = .ok (.getfield 22, 3) := by decide +kernel
theorem dX4_dearerIfTold_4 : decode cX4_dearerIfTold 4 = .ok (.iload_n 1, 1) := by decide +kernel
theorem dX4_dearerIfTold_5 : decode cX4_dearerIfTold 5 = .ok (.iload_n 2, 1) := by decide +kernel
theorem dX4_dearerIfTold_6 : decode cX4_dearerIfTold 6 = .ok (.iload_n 3, 1) := by decide +kernel
theorem dX4_dearerIfTold_7 : decode cX4_dearerIfTold 7 = .ok (.invokestatic 95, 3) := by decide +kernel
theorem dX4_dearerIfTold_10 : decode cX4_dearerIfTold 10 = .ok (.laload, 1) := by decide +kernel
theorem dX4_dearerIfTold_11 : decode cX4_dearerIfTold 11 = .ok (.aload_n 0, 1) := by decide +kernel
theorem dX4_dearerIfTold_12 : decode cX4_dearerIfTold 12 = .ok (.getfield 22, 3) := by decide +kernel
theorem dX4_dearerIfTold_15 : decode cX4_dearerIfTold 15 = .ok (.iload_n 1, 1) := by decide +kernel
theorem dX4_dearerIfTold_16 : decode cX4_dearerIfTold 16 = .ok (.iconst 1, 1) := by decide +kernel
theorem dX4_dearerIfTold_17 : decode cX4_dearerIfTold 17 = .ok (.iadd, 1) := by decide +kernel
theorem dX4_dearerIfTold_18 : decode cX4_dearerIfTold 18 = .ok (.iload_n 2, 1) := by decide +kernel
theorem dX4_dearerIfTold_19 : decode cX4_dearerIfTold 19 = .ok (.iload_n 3, 1) := by decide +kernel
theorem dX4_dearerIfTold_20 : decode cX4_dearerIfTold 20 = .ok (.invokestatic 86, 3) := by decide +kernel
theorem dX4_dearerIfTold_23 : decode cX4_dearerIfTold 23 = .ok (.laload, 1) := by decide +kernel
theorem dX4_dearerIfTold_24 : decode cX4_dearerIfTold 24 = .ok (.lsub, 1) := by decide +kernel
theorem dX4_dearerIfTold_25 : decode cX4_dearerIfTold 25 = .ok (.lreturn, 1) := by decide +kernel
theorem dX4_costBehindPremium_0 : decode cX4_costBehindPremium 0 = .ok (.aload_n 0, 1) := by decide +kernel
theorem dX4_costBehindPremium_1 : decode cX4_costBehindPremium 1 = .ok (.getfield 29, 3) := by decide +kernel
theorem dX4_costBehindPremium_4 : decode cX4_costBehindPremium 4 = .ok (.ifCond .eq 38, 3) := by decide +kernel
theorem dX4_costBehindPremium_7 : decode cX4_costBehindPremium 7 = .ok (.aload_n 0, 1) := by decide +kernel
theorem dX4_costBehindPremium_8 : decode cX4_costBehindPremium 8 = .ok (.iload_n 1, 1) := by decide +kernel
theorem dX4_costBehindPremium_9 : decode cX4_costBehindPremium 9 = .ok (.invokevirtual 102, 3) := by decide +kernel
theorem dX4_costBehindPremium_12 : decode cX4_costBehindPremium 12 = .ok (.ifCond .eq 30, 3) := by decide +kernel
theorem dX4_costBehindPremium_15 : decode cX4_costBehindPremium 15 = .ok (.ldc2_w 116, 3) := by decide +kernel
theorem dX4_costBehindPremium_18 : decode cX4_costBehindPremium 18 = .ok (.aload_n 0, 1) := by decide +kernel
theorem dX4_costBehindPremium_19 : decode cX4_costBehindPremium 19 = .ok (.getfield 25, 3) := by decide +kernel
theorem dX4_costBehindPremium_22 : decode cX4_costBehindPremium 22 = .ok (.iload_n 1, 1) := by decide +kernel
theorem dX4_costBehindPremium_23 : decode cX4_costBehindPremium 23 = .ok (.iconst 4, 1) := by decide +kernel
theorem dX4_costBehindPremium_24 : decode cX4_costBehindPremium 24 = .ok (.invokevirtual 120, 3) := by decide +kernel
theorem dX4_costBehindPremium_27 : decode cX4_costBehindPremium 27 = .ok (.i2l, 1) := by decide +kernel
theorem dX4_costBehindPremium_28 : decode cX4_costBehindPremium 28 = .ok (.lmul, 1) := by decide +kernel
theorem dX4_costBehindPremium_29 : decode cX4_costBehindPremium 29 = .ok (.aload_n 0, 1) := by decide +kernel
theorem dX4_costBehindPremium_30 : decode cX4_costBehindPremium 30 = .ok (.getfield 22, 3) := by decide +kernel
theorem dX4_costBehindPremium_33 : decode cX4_costBehindPremium 33 = .ok (.iconst 0, 1) := by decide +kernel
theorem dX4_costBehindPremium_34 : decode cX4_costBehindPremium 34 = .ok (.iconst 0, 1) := by decide +kernel
theorem dX4_costBehindPremium_35 : decode cX4_costBehindPremium 35 = .ok (.iconst 1, 1) := by decide +kernel
theorem dX4_costBehindPremium_36 : decode cX4_costBehindPremium 36 = .ok (.invokestatic 86, 3) := by decide +kernel
theorem dX4_costBehindPremium_39 : decode cX4_costBehindPremium 39 = .ok (.laload, 1) := by decide +kernel
theorem dX4_costBehindPremium_40 : decode cX4_costBehindPremium 40 = .ok (.ladd, 1) := by decide +kernel
theorem dX4_costBehindPremium_41 : decode cX4_costBehindPremium 41 = .ok (.lreturn, 1) := by decide +kernel
theorem dX4_costBehindPremium_42 : decode cX4_costBehindPremium 42 = .ok (.aload_n 0, 1) := by decide +kernel
theorem dX4_costBehindPremium_43 : decode cX4_costBehindPremium 43 = .ok (.getfield 22, 3) := by decide +kernel
theorem dX4_costBehindPremium_46 : decode cX4_costBehindPremium 46 = .ok (.iconst 0, 1) := by decide +kernel
theorem dX4_costBehindPremium_47 : decode cX4_costBehindPremium 47 = .ok (.iconst 0, 1) := by decide +kernel
theorem dX4_costBehindPremium_48 : decode cX4_costBehindPremium 48 = .ok (.iconst 0, 1) := by decide +kernel
theorem dX4_costBehindPremium_49 : decode cX4_costBehindPremium 49 = .ok (.invokestatic 86, 3) := by decide +kernel
theorem dX4_costBehindPremium_52 : decode cX4_costBehindPremium 52 = .ok (.laload, 1) := by decide +kernel
theorem dX4_costBehindPremium_53 : decode cX4_costBehindPremium 53 = .ok (.lreturn, 1) := by decide +kernel
theorem dX4_guardPays_0 : decode cX4_guardPays 0 = .ok (.ldc2_w 116, 3) := by decide +kernel
theorem dX4_guardPays_3 : decode cX4_guardPays 3 = .ok (.aload_n 0, 1) := by decide +kernel
theorem dX4_guardPays_4 : decode cX4_guardPays 4 = .ok (.getfield 25, 3) := by decide +kernel
theorem dX4_guardPays_7 : decode cX4_guardPays 7 = .ok (.iload_n 1, 1) := by decide +kernel
theorem dX4_guardPays_8 : decode cX4_guardPays 8 = .ok (.iconst 4, 1) := by decide +kernel
theorem dX4_guardPays_9 : decode cX4_guardPays 9 = .ok (.invokevirtual 120, 3) := by decide +kernel
theorem dX4_guardPays_12 : decode cX4_guardPays 12 = .ok (.i2l, 1) := by decide +kernel
theorem dX4_guardPays_13 : decode cX4_guardPays 13 = .ok (.lmul, 1) := by decide +kernel
theorem dX4_guardPays_14 : decode cX4_guardPays 14 = .ok (.aload_n 0, 1) := by decide +kernel
theorem dX4_guardPays_15 : decode cX4_guardPays 15 = .ok (.getfield 22, 3) := by decide +kernel
theorem dX4_guardPays_18 : decode cX4_guardPays 18 = .ok (.iconst 0, 1) := by decide +kernel
theorem dX4_guardPays_19 : decode cX4_guardPays 19 = .ok (.iconst 0, 1) := by decide +kernel
theorem dX4_guardPays_20 : decode cX4_guardPays 20 = .ok (.iconst 1, 1) := by decide +kernel
theorem dX4_guardPays_21 : decode cX4_guardPays 21 = .ok (.invokestatic 86, 3) := by decide +kernel
theorem dX4_guardPays_24 : decode cX4_guardPays 24 = .ok (.laload, 1) := by decide +kernel
theorem dX4_guardPays_25 : decode cX4_guardPays 25 = .ok (.ladd, 1) := by decide +kernel
theorem dX4_guardPays_26 : decode cX4_guardPays 26 = .ok (.aload_n 0, 1) := by decide +kernel
theorem dX4_guardPays_27 : decode cX4_guardPays 27 = .ok (.getfield 22, 3) := by decide +kernel
theorem dX4_guardPays_30 : decode cX4_guardPays 30 = .ok (.iconst 0, 1) := by decide +kernel
theorem dX4_guardPays_31 : decode cX4_guardPays 31 = .ok (.iconst 0, 1) := by decide +kernel
theorem dX4_guardPays_32 : decode cX4_guardPays 32 = .ok (.iconst 0, 1) := by decide +kernel
theorem dX4_guardPays_33 : decode cX4_guardPays 33 = .ok (.invokestatic 86, 3) := by decide +kernel
theorem dX4_guardPays_36 : decode cX4_guardPays 36 = .ok (.laload, 1) := by decide +kernel
theorem dX4_guardPays_37 : decode cX4_guardPays 37 = .ok (.lcmp, 1) := by decide +kernel
theorem dX4_guardPays_38 : decode cX4_guardPays 38 = .ok (.ifCond .ge 7, 3) := by decide +kernel
theorem dX4_guardPays_41 : decode cX4_guardPays 41 = .ok (.iconst 1, 1) := by decide +kernel
theorem dX4_guardPays_42 : decode cX4_guardPays 42 = .ok (.goto 4, 3) := by decide +kernel
theorem dX4_guardPays_45 : decode cX4_guardPays 45 = .ok (.iconst 0, 1) := by decide +kernel
theorem dX4_guardPays_46 : decode cX4_guardPays 46 = .ok (.ireturn, 1) := by decide +kernel
theorem dX4_premiumPaid_0 : decode cX4_premiumPaid 0 = .ok (.ldc2_w 116, 3) := by decide +kernel
theorem dX4_premiumPaid_3 : decode cX4_premiumPaid 3 = .ok (.aload_n 0, 1) := by decide +kernel
theorem dX4_premiumPaid_4 : decode cX4_premiumPaid 4 = .ok (.getfield 33, 3) := by decide +kernel
theorem dX4_premiumPaid_7 : decode cX4_premiumPaid 7 = .ok (.i2l, 1) := by decide +kernel
theorem dX4_premiumPaid_8 : decode cX4_premiumPaid 8 = .ok (.lmul, 1) := by decide +kernel
theorem dX4_premiumPaid_9 : decode cX4_premiumPaid 9 = .ok (.aload_n 0, 1) := by decide +kernel
theorem dX4_premiumPaid_10 : decode cX4_premiumPaid 10 = .ok (.getfield 25, 3) := by decide +kernel
theorem dX4_premiumPaid_13 : decode cX4_premiumPaid 13 = .ok (.iload_n 1, 1) := by decide +kernel
theorem dX4_premiumPaid_14 : decode cX4_premiumPaid 14 = .ok (.iconst 0, 1) := by decide +kernel
theorem dX4_premiumPaid_15 : decode cX4_premiumPaid 15 = .ok (.invokevirtual 120, 3) := by decide +kernel
theorem dX4_premiumPaid_18 : decode cX4_premiumPaid 18 = .ok (.i2l, 1) := by decide +kernel
theorem dX4_premiumPaid_19 : decode cX4_premiumPaid 19 = .ok (.lmul, 1) := by decide +kernel
theorem dX4_premiumPaid_20 : decode cX4_premiumPaid 20 = .ok (.lstore_n 2, 1) := by decide +kernel
theorem dX4_premiumPaid_21 : decode cX4_premiumPaid 21 = .ok (.lload_n 2, 1) := by decide +kernel
theorem dX4_premiumPaid_22 : decode cX4_premiumPaid 22 = .ok (.lload_n 2, 1) := by decide +kernel
theorem dX4_premiumPaid_23 : decode cX4_premiumPaid 23 = .ok (.aload_n 0, 1) := by decide +kernel
theorem dX4_premiumPaid_24 : decode cX4_premiumPaid 24 = .ok (.getfield 46, 3) := by decide +kernel
theorem dX4_premiumPaid_27 : decode cX4_premiumPaid 27 = .ok (.i2l, 1) := by decide +kernel
theorem dX4_premiumPaid_28 : decode cX4_premiumPaid 28 = .ok (.lmul, 1) := by decide +kernel
theorem dX4_premiumPaid_29 : decode cX4_premiumPaid 29 = .ok (.ldc2_w 123, 3) := by decide +kernel
theorem dX4_premiumPaid_32 : decode cX4_premiumPaid 32 = .ok (.ldiv, 1) := by decide +kernel
theorem dX4_premiumPaid_33 : decode cX4_premiumPaid 33 = .ok (.lsub, 1) := by decide +kernel
theorem dX4_premiumPaid_34 : decode cX4_premiumPaid 34 = .ok (.lreturn, 1) := by decide +kernel
theorem dX4_index_0 : decode cX4_index 0 = .ok (.iload_n 0, 1) := by decide +kernel
theorem dX4_index_1 : decode cX4_index 1 = .ok (.iconst 3, 1) := by decide +kernel
theorem dX4_index_2 : decode cX4_index 2 = .ok (.imul, 1) := by decide +kernel
theorem dX4_index_3 : decode cX4_index 3 = .ok (.iload_n 1, 1) := by decide +kernel
theorem dX4_index_4 : decode cX4_index 4 = .ok (.iadd, 1) := by decide +kernel
theorem dX4_index_5 : decode cX4_index 5 = .ok (.iconst 2, 1) := by decide +kernel
theorem dX4_index_6 : decode cX4_index 6 = .ok (.imul, 1) := by decide +kernel
theorem dX4_index_7 : decode cX4_index 7 = .ok (.iload_n 2, 1) := by decide +kernel
theorem dX4_index_8 : decode cX4_index 8 = .ok (.ifCond .eq 7, 3) := by decide +kernel
theorem dX4_index_11 : decode cX4_index 11 = .ok (.iconst 1, 1) := by decide +kernel
theorem dX4_index_12 : decode cX4_index 12 = .ok (.goto 4, 3) := by decide +kernel
theorem dX4_index_15 : decode cX4_index 15 = .ok (.iconst 0, 1) := by decide +kernel
theorem dX4_index_16 : decode cX4_index 16 = .ok (.iadd, 1) := by decide +kernel
theorem dX4_index_17 : decode cX4_index 17 = .ok (.ireturn, 1) := by decide +kernel
theorem dX4_toldIndex_0 : decode cX4_toldIndex 0 = .ok (.iload_n 0, 1) := by decide +kernel
theorem dX4_toldIndex_1 : decode cX4_toldIndex 1 = .ok (.iconst 1, 1) := by decide +kernel
theorem dX4_toldIndex_2 : decode cX4_toldIndex 2 = .ok (.iadd, 1) := by decide +kernel
theorem dX4_toldIndex_3 : decode cX4_toldIndex 3 = .ok (.iload_n 2, 1) := by decide +kernel
theorem dX4_toldIndex_4 : decode cX4_toldIndex 4 = .ok (.ifCond .eq 7, 3) := by decide +kernel
theorem dX4_toldIndex_7 : decode cX4_toldIndex 7 = .ok (.iload_n 1, 1) := by decide +kernel
theorem dX4_toldIndex_8 : decode cX4_toldIndex 8 = .ok (.goto 10, 3) := by decide +kernel
theorem dX4_toldIndex_11 : decode cX4_toldIndex 11 = .ok (.iconst 2, 1) := by decide +kernel
theorem dX4_toldIndex_12 : decode cX4_toldIndex 12 = .ok (.iload_n 1, 1) := by decide +kernel
theorem dX4_toldIndex_13 : decode cX4_toldIndex 13 = .ok (.iconst 1, 1) := by decide +kernel
theorem dX4_toldIndex_14 : decode cX4_toldIndex 14 = .ok (.iadd, 1) := by decide +kernel
theorem dX4_toldIndex_15 : decode cX4_toldIndex 15 = .ok (.invokestatic 90, 3) := by decide +kernel
theorem dX4_toldIndex_18 : decode cX4_toldIndex 18 = .ok (.iconst 0, 1) := by decide +kernel
theorem dX4_toldIndex_19 : decode cX4_toldIndex 19 = .ok (.invokestatic 86, 3) := by decide +kernel
theorem dX4_toldIndex_22 : decode cX4_toldIndex 22 = .ok (.ireturn, 1) := by decide +kernel
theorem dX5_init_0 : decode cX5_init 0 = .ok (.aload_n 0, 1) := by decide +kernel
theorem dX5_init_1 : decode cX5_init 1 = .ok (.invokespecial 3, 3) := by decide +kernel
theorem dX5_init_4 : decode cX5_init 4 = .ok (.aload_n 0, 1) := by decide +kernel
theorem dX5_init_5 : decode cX5_init 5 = .ok (.sipush 256, 3) := by decide +kernel
theorem dX5_init_8 : decode cX5_init 8 = .ok (.newarray .int, 2) := by decide +kernel
theorem dX5_init_10 : decode cX5_init 10 = .ok (.putfield 9, 3) := by decide +kernel
theorem dX5_init_13 : decode cX5_init 13 = .ok (.return_, 1) := by decide +kernel
theorem dX5_putWord_0 : decode cX5_putWord 0 = .ok (.aload_n 0, 1) := by decide +kernel
theorem dX5_putWord_1 : decode cX5_putWord 1 = .ok (.invokevirtual 15, 3) := by decide +kernel
theorem dX5_putWord_4 : decode cX5_putWord 4 = .ok (.iconst 0, 1) := by decide +kernel
theorem dX5_putWord_5 : decode cX5_putWord 5 = .ok (.istore_n 2, 1) := by decide +kernel
theorem dX5_putWord_6 : decode cX5_putWord 6 = .ok (.iload_n 2, 1) := by decide +kernel
theorem dX5_putWord_7 : decode cX5_putWord 7 = .ok (.aload_n 1, 1) := by decide +kernel
theorem dX5_putWord_8 : decode cX5_putWord 8 = .ok (.invokevirtual 18, 3) := by decide +kernel
theorem dX5_putWord_11 : decode cX5_putWord 11 = .ok (.if_icmp .ge 18, 3) := by decide +kernel
theorem dX5_putWord_14 : decode cX5_putWord 14 = .ok (.aload_n 0, 1) := by decide +kernel
theorem dX5_putWord_15 : decode cX5_putWord 15 = .ok (.aload_n 1, 1) := by decide +kernel
theorem dX5_putWord_16 : decode cX5_putWord 16 = .ok (.iload_n 2, 1) := by decide +kernel
theorem dX5_putWord_17 : decode cX5_putWord 17 = .ok (.invokevirtual 24, 3) := by decide +kernel
theorem dX5_putWord_20 : decode cX5_putWord 20 = .ok (.invokevirtual 28, 3) := by decide +kernel
theorem dX5_putWord_23 : decode cX5_putWord 23 = .ok (.iinc 2 1, 3) := by decide +kernel
theorem dX5_putWord_26 : decode cX5_putWord 26 = .ok (.goto (-20), 3) := by decide +kernel
theorem dX5_putWord_29 : decode cX5_putWord 29 = .ok (.return_, 1) := by decide +kernel
theorem dX5_putNumber_0 : decode cX5_putNumber 0 = .ok (.aload_n 0, 1) := by decide +kernel
theorem dX5_putNumber_1 : decode cX5_putNumber 1 = .ok (.invokevirtual 15, 3) := by decide +kernel
theorem dX5_putNumber_4 : decode cX5_putNumber 4 = .ok (.iconst 1, 1) := by decide +kernel
theorem dX5_putNumber_5 : decode cX5_putNumber 5 = .ok (.istore_n 2, 1) := by decide +kernel
theorem dX5_putNumber_6 : decode cX5_putNumber 6 = .ok (.iconst 0, 1) := by decide +kernel
theorem dX5_putNumber_7 : decode cX5_putNumber 7 = .ok (.istore_n 3, 1) := by decide +kernel
theorem dX5_putNumber_8 : decode cX5_putNumber 8 = .ok (.iload_n 3, 1) := by decide +kernel
theorem dX5_putNumber_9 : decode cX5_putNumber 9 = .ok (.bipush 9, 2) := by decide +kernel
theorem dX5_putNumber_11 : decode cX5_putNumber 11 = .ok (.if_icmp .ge 22, 3) := by decide +kernel
theorem dX5_putNumber_14 : decode cX5_putNumber 14 = .ok (.iload_n 1, 1) := by decide +kernel
theorem dX5_putNumber_15 : decode cX5_putNumber 15 = .ok (.iload_n 2, 1) := by decide +kernel
theorem dX5_putNumber_16 : decode cX5_putNumber 16 = .ok (.idiv, 1) := by decide +kernel
theorem dX5_putNumber_17 : decode cX5_putNumber 17 = .ok (.bipush 10, 2) := by decide +kernel
theorem dX5_putNumber_19 : decode cX5_putNumber 19 = .ok (.if_icmp .lt 14, 3) := by decide +kernel
theorem dX5_putNumber_22 : decode cX5_putNumber 22 = .ok (.iload_n 2, 1) := by decide +kernel
theorem dX5_putNumber_23 : decode cX5_putNumber 23 = .ok (.bipush 10, 2) := by decide +kernel
theorem dX5_putNumber_25 : decode cX5_putNumber 25 = .ok (.imul, 1) := by decide +kernel
theorem dX5_putNumber_26 : decode cX5_putNumber 26 = .ok (.istore_n 2, 1) := by decide +kernel
theorem dX5_putNumber_27 : decode cX5_putNumber 27 = .ok (.iinc 3 1, 3) := by decide +kernel
theorem dX5_putNumber_30 : decode cX5_putNumber 30 = .ok (.goto (-22), 3) := by decide +kernel
theorem dX5_putNumber_33 : decode cX5_putNumber 33 = .ok (.iconst 0, 1) := by decide +kernel
theorem dX5_putNumber_34 : decode cX5_putNumber 34 = .ok (.istore_n 3, 1) := by decide +kernel
theorem dX5_putNumber_35 : decode cX5_putNumber 35 = .ok (.iload_n 3, 1) := by decide +kernel
theorem dX5_putNumber_36 : decode cX5_putNumber 36 = .ok (.bipush 10, 2) := by decide +kernel
theorem dX5_putNumber_38 : decode cX5_putNumber 38 = .ok (.if_icmp .ge 31, 3) := by decide +kernel
theorem dX5_putNumber_41 : decode cX5_putNumber 41 = .ok (.iload_n 2, 1) := by decide +kernel
theorem dX5_putNumber_42 : decode cX5_putNumber 42 = .ok (.ifCond .le 27, 3) := by decide +kernel
theorem dX5_putNumber_45 : decode cX5_putNumber 45 = .ok (.aload_n 0, 1) := by decide +kernel
theorem dX5_putNumber_46 : decode cX5_putNumber 46 = .ok (.bipush 48, 2) := by decide +kernel
theorem dX5_putNumber_48 : decode cX5_putNumber 48 = .ok (.iload_n 1, 1) := by decide +kernel
theorem dX5_putNumber_49 : decode cX5_putNumber 49 = .ok (.iload_n 2, 1) := by decide +kernel
theorem dX5_putNumber_50 : decode cX5_putNumber 50 = .ok (.idiv, 1) := by decide +kernel
theorem dX5_putNumber_51 : decode cX5_putNumber 51 = .ok (.bipush 10, 2) := by decide +kernel
theorem dX5_putNumber_53 : decode cX5_putNumber 53 = .ok (.irem, 1) := by decide +kernel
theorem dX5_putNumber_54 : decode cX5_putNumber 54 = .ok (.iadd, 1) := by decide +kernel
theorem dX5_putNumber_55 : decode cX5_putNumber 55 = .ok (.invokevirtual 28, 3) := by decide +kernel
theorem dX5_putNumber_58 : decode cX5_putNumber 58 = .ok (.iload_n 2, 1) := by decide +kernel
theorem dX5_putNumber_59 : decode cX5_putNumber 59 = .ok (.bipush 10, 2) := by decide +kernel
theorem dX5_putNumber_61 : decode cX5_putNumber 61 = .ok (.idiv, 1) := by decide +kernel
theorem dX5_putNumber_62 : decode cX5_putNumber 62 = .ok (.istore_n 2, 1) := by decide +kernel
theorem dX5_putNumber_63 : decode cX5_putNumber 63 = .ok (.iinc 3 1, 3) := by decide +kernel
theorem dX5_putNumber_66 : decode cX5_putNumber 66 = .ok (.goto (-31), 3) := by decide +kernel
theorem dX5_putNumber_69 : decode cX5_putNumber 69 = .ok (.return_, 1) := by decide +kernel
theorem dX5_endPhrase_0 : decode cX5_endPhrase 0 = .ok (.aload_n 0, 1) := by decide +kernel
theorem dX5_endPhrase_1 : decode cX5_endPhrase 1 = .ok (.bipush 59, 2) := by decide +kernel
theorem dX5_endPhrase_3 : decode cX5_endPhrase 3 = .ok (.invokevirtual 28, 3) := by decide +kernel
theorem dX5_endPhrase_6 : decode cX5_endPhrase 6 = .ok (.return_, 1) := by decide +kernel
theorem dX5_signAt_0 : decode cX5_signAt 0 = .ok (.iload_n 1, 1) := by decide +kernel
theorem dX5_signAt_1 : decode cX5_signAt 1 = .ok (.ifCond .ge 8, 3) := by decide +kernel
theorem dX5_signAt_4 : decode cX5_signAt 4 = .ok (.aload_n 0, 1) := by decide +kernel
theorem dX5_signAt_5 : decode cX5_signAt 5 = .ok (.getfield 32, 3) := by decide +kernel
theorem dX5_signAt_8 : decode cX5_signAt 8 = .ok (.ireturn, 1) := by decide +kernel
theorem dX5_signAt_9 : decode cX5_signAt 9 = .ok (.iload_n 1, 1) := by decide +kernel
theorem dX5_signAt_10 : decode cX5_signAt 10 = .ok (.aload_n 0, 1) := by decide +kernel
theorem dX5_signAt_11 : decode cX5_signAt 11 = .ok (.getfield 32, 3) := by decide +kernel
theorem dX5_signAt_14 : decode cX5_signAt 14 = .ok (.if_icmp .ge 19, 3) := by decide +kernel
theorem dX5_signAt_17 : decode cX5_signAt 17 = .ok (.iload_n 1, 1) := by decide +kernel
theorem dX5_signAt_18 : decode cX5_signAt 18 = .ok (.sipush 256, 3) := by decide +kernel
theorem dX5_signAt_21 : decode cX5_signAt 21 = .ok (.if_icmp .ge 12, 3) := by decide +kernel
theorem dX5_signAt_24 : decode cX5_signAt 24 = .ok (.aload_n 0, 1) := by decide +kernel
theorem dX5_signAt_25 : decode cX5_signAt 25 = .ok (.getfield 9, 3) := by decide +kernel
theorem dX5_signAt_28 : decode cX5_signAt 28 = .ok (.iload_n 1, 1) := by decide +kernel
theorem dX5_signAt_29 : decode cX5_signAt 29 = .ok (.iaload, 1) := by decide +kernel
theorem dX5_signAt_30 : decode cX5_signAt 30 = .ok (.goto 5, 3) := by decide +kernel
theorem dX5_signAt_33 : decode cX5_signAt 33 = .ok (.bipush (-2), 2) := by decide +kernel
theorem dX5_signAt_35 : decode cX5_signAt 35 = .ok (.ireturn, 1) := by decide +kernel
theorem dX5_putBlank_0 : decode cX5_putBlank 0 = .ok (.aload_n 0, 1) := by decide +kernel
theorem dX5_putBlank_1 : decode cX5_putBlank 1 = .ok (.getfield 32, 3) := by decide +kernel
theorem dX5_putBlank_4 : decode cX5_putBlank 4 = .ok (.ifCond .le 25, 3) := by decide +kernel
theorem dX5_putBlank_7 : decode cX5_putBlank 7 = .ok (.aload_n 0, 1) := by decide +kernel
theorem dX5_putBlank_8 : decode cX5_putBlank 8 = .ok (.getfield 9, 3) := by decide +kernel
theorem dX5_putBlank_11 : decode cX5_putBlank 11 = .ok (.aload_n 0, 1) := by decide +kernel
theorem dX5_putBlank_12 : decode cX5_putBlank 12 = .ok (.getfield 32, 3) := by decide +kernel
theorem dX5_putBlank_15 : decode cX5_putBlank 15 = .ok (.iconst 1, 1) := by decide +kernel
theorem dX5_putBlank_16 : decode cX5_putBlank 16 = .ok (.isub, 1) := by decide +kernel
theorem dX5_putBlank_17 : decode cX5_putBlank 17 = .ok (.iaload, 1) := by decide +kernel
theorem dX5_putBlank_18 : decode cX5_putBlank 18 = .ok (.bipush 59, 2) := by decide +kernel
theorem dX5_putBlank_20 : decode cX5_putBlank 20 = .ok (.if_icmp .eq 9, 3) := by decide +kernel
theorem dX5_putBlank_23 : decode cX5_putBlank 23 = .ok (.aload_n 0, 1) := by decide +kernel
theorem dX5_putBlank_24 : decode cX5_putBlank 24 = .ok (.bipush 32, 2) := by decide +kernel
theorem dX5_putBlank_26 : decode cX5_putBlank 26 = .ok (.invokevirtual 28, 3) := by decide +kernel
theorem dX5_putBlank_29 : decode cX5_putBlank 29 = .ok (.return_, 1) := by decide +kernel
theorem dX5_put_0 : decode cX5_put 0 = .ok (.aload_n 0, 1) := by decide +kernel
theorem dX5_put_1 : decode cX5_put 1 = .ok (.getfield 32, 3) := by decide +kernel
theorem dX5_put_4 : decode cX5_put 4 = .ok (.sipush 256, 3) := by decide +kernel
theorem dX5_put_7 : decode cX5_put 7 = .ok (.if_icmp .ge 23, 3) := by decide +kernel
theorem dX5_put_10 : decode cX5_put 10 = .ok (.aload_n 0, 1) := by decide +kernel
theorem dX5_put_11 : decode cX5_put 11 = .ok (.getfield 9, 3) := by decide +kernel
theorem dX5_put_14 : decode cX5_put 14 = .ok (.aload_n 0, 1) := by decide +kernel
theorem dX5_put_15 : decode cX5_put 15 = .ok (.getfield 32, 3) := by decide +kernel
theorem dX5_put_18 : decode cX5_put 18 = .ok (.iload_n 1, 1) := by decide +kernel
theorem dX5_put_19 : decode cX5_put 19 = .ok (.iastore, 1) := by decide +kernel
theorem dX5_put_20 : decode cX5_put 20 = .ok (.aload_n 0, 1) := by decide +kernel
theorem dX5_put_21 : decode cX5_put 21 = .ok (.dup, 1) := by decide +kernel
theorem dX5_put_22 : decode cX5_put 22 = .ok (.getfield 32, 3) := by decide +kernel
theorem dX5_put_25 : decode cX5_put 25 = .ok (.iconst 1, 1) := by decide +kernel
theorem dX5_put_26 : decode cX5_put 26 = .ok (.iadd, 1) := by decide +kernel
theorem dX5_put_27 : decode cX5_put 27 = .ok (.putfield 32, 3) := by decide +kernel
theorem dX5_put_30 : decode cX5_put 30 = .ok (.return_, 1) := by decide +kernel
theorem dX6_init_0 : decode cX6_init 0 = .ok (.aload_n 0, 1) := by decide +kernel
theorem dX6_init_1 : decode cX6_init 1 = .ok (.invokespecial 3, 3) := by decide +kernel
theorem dX6_init_4 : decode cX6_init 4 = .ok (.aload_n 0, 1) := by decide +kernel
theorem dX6_init_5 : decode cX6_init 5 = .ok (.bipush 12, 2) := by decide +kernel
theorem dX6_init_7 : decode cX6_init 7 = .ok (.anewarray 9, 3) := by decide +kernel
theorem dX6_init_10 : decode cX6_init 10 = .ok (.putfield 11, 3) := by decide +kernel
theorem dX6_init_13 : decode cX6_init 13 = .ok (.aload_n 0, 1) := by decide +kernel
theorem dX6_init_14 : decode cX6_init 14 = .ok (.bipush 12, 2) := by decide +kernel
theorem dX6_init_16 : decode cX6_init 16 = .ok (.anewarray 17, 3) := by decide +kernel
theorem dX6_init_19 : decode cX6_init 19 = .ok (.putfield 19, 3) := by decide +kernel
theorem dX6_init_22 : decode cX6_init 22 = .ok (.iconst 0, 1) := by decide +kernel
theorem dX6_init_23 : decode cX6_init 23 = .ok (.istore_n 1, 1) := by decide +kernel
theorem dX6_init_24 : decode cX6_init 24 = .ok (.iload_n 1, 1) := by decide +kernel
theorem dX6_init_25 : decode cX6_init 25 = .ok (.bipush 12, 2) := by decide +kernel
theorem dX6_init_27 : decode cX6_init 27 = .ok (.if_icmp .ge 35, 3) := by decide +kernel
theorem dX6_init_30 : decode cX6_init 30 = .ok (.aload_n 0, 1) := by decide +kernel
theorem dX6_init_31 : decode cX6_init 31 = .ok (.getfield 11, 3) := by decide +kernel
theorem dX6_init_34 : decode cX6_init 34 = .ok (.iload_n 1, 1) := by decide +kernel
theorem dX6_init_35 : decode cX6_init 35 = .ok (.new 9, 3) := by decide +kernel
theorem dX6_init_38 : decode cX6_init 38 = .ok (.dup, 1) := by decide +kernel
theorem dX6_init_39 : decode cX6_init 39 = .ok (.invokespecial 23, 3) := by decide +kernel
theorem dX6_init_42 : decode cX6_init 42 = .ok (.aastore, 1) := by decide +kernel
theorem dX6_init_43 : decode cX6_init 43 = .ok (.aload_n 0, 1) := by decide +kernel
theorem dX6_init_44 : decode cX6_init 44 = .ok (.getfield 19, 3) := by decide +kernel
theorem dX6_init_47 : decode cX6_init 47 = .ok (.iload_n 1, 1) := by decide +kernel
theorem dX6_init_48 : decode cX6_init 48 = .ok (.new 17, 3) := by decide +kernel
theorem dX6_init_51 : decode cX6_init 51 = .ok (.dup, 1) := by decide +kernel
theorem dX6_init_52 : decode cX6_init 52 = .ok (.invokespecial 24, 3) := by decide +kernel
theorem dX6_init_55 : decode cX6_init 55 = .ok (.aastore, 1) := by decide +kernel
theorem dX6_init_56 : decode cX6_init 56 = .ok (.iinc 1 1, 3) := by decide +kernel
theorem dX6_init_59 : decode cX6_init 59 = .ok (.goto (-35), 3) := by decide +kernel
theorem dX6_init_62 : decode cX6_init 62 = .ok (.return_, 1) := by decide +kernel
theorem dX6_keep_0 : decode cX6_keep 0 = .ok (.aload_n 0, 1) := by decide +kernel
theorem dX6_keep_1 : decode cX6_keep 1 = .ok (.getfield 11, 3) := by decide +kernel
theorem dX6_keep_4 : decode cX6_keep 4 = .ok (.aload_n 0, 1) := by decide +kernel
theorem dX6_keep_5 : decode cX6_keep 5 = .ok (.getfield 25, 3) := by decide +kernel
theorem dX6_keep_8 : decode cX6_keep 8 = .ok (.aaload, 1) := by decide +kernel
theorem dX6_keep_9 : decode cX6_keep 9 = .ok (.aload_n 1, 1) := by decide +kernel
theorem dX6_keep_10 : decode cX6_keep 10 = .ok (.invokevirtual 29, 3) := by decide +kernel
theorem dX6_keep_13 : decode cX6_keep 13 = .ok (.aload_n 0, 1) := by decide +kernel
theorem dX6_keep_14 : decode cX6_keep 14 = .ok (.getfield 19, 3) := by decide +kernel
theorem dX6_keep_17 : decode cX6_keep 17 = .ok (.aload_n 0, 1) := by decide +kernel
theorem dX6_keep_18 : decode cX6_keep 18 = .ok (.getfield 25, 3) := by decide +kernel
theorem dX6_keep_21 : decode cX6_keep 21 = .ok (.aaload, 1) := by decide +kernel
theorem dX6_keep_22 : decode cX6_keep 22 = .ok (.aload_n 2, 1) := by decide +kernel
theorem dX6_keep_23 : decode cX6_keep 23 = .ok (.invokevirtual 33, 3) := by decide +kernel
theorem dX6_keep_26 : decode cX6_keep 26 = .ok (.aload_n 0, 1) := by decide +kernel
theorem dX6_keep_27 : decode cX6_keep 27 = .ok (.aload_n 0, 1) := by decide +kernel
theorem dX6_keep_28 : decode cX6_keep 28 = .ok (.getfield 25, 3) := by decide +kernel
theorem dX6_keep_31 : decode cX6_keep 31 = .ok (.iconst 1, 1) := by decide +kernel
theorem dX6_keep_32 : decode cX6_keep 32 = .ok (.iadd, 1) := by decide +kernel
theorem dX6_keep_33 : decode cX6_keep 33 = .ok (.bipush 12, 2) := by decide +kernel
theorem dX6_keep_35 : decode cX6_keep 35 = .ok (.irem, 1) := by decide +kernel
theorem dX6_keep_36 : decode cX6_keep 36 = .ok (.putfield 25, 3) := by decide +kernel
theorem dX6_keep_39 : decode cX6_keep 39 = .ok (.aload_n 0, 1) := by decide +kernel
theorem dX6_keep_40 : decode cX6_keep 40 = .ok (.bipush 12, 2) := by decide +kernel
theorem dX6_keep_42 : decode cX6_keep 42 = .ok (.aload_n 0, 1) := by decide +kernel
theorem dX6_keep_43 : decode cX6_keep 43 = .ok (.getfield 36, 3) := by decide +kernel
theorem dX6_keep_46 : decode cX6_keep 46 = .ok (.iconst 1, 1) := by decide +kernel
theorem dX6_keep_47 : decode cX6_keep 47 = .ok (.iadd, 1) := by decide +kernel
theorem dX6_keep_48 : decode cX6_keep 48 = .ok (.invokestatic 39, 3) := by decide +kernel
theorem dX6_keep_51 : decode cX6_keep 51 = .ok (.putfield 36, 3) := by decide +kernel
theorem dX6_keep_54 : decode cX6_keep 54 = .ok (.return_, 1) := by decide +kernel
theorem dX6_takeBack_0 : decode cX6_takeBack 0 = .ok (.aload_n 0, 1) := by decide +kernel
theorem dX6_takeBack_1 : decode cX6_takeBack 1 = .ok (.getfield 36, 3) := by decide +kernel
theorem dX6_takeBack_4 : decode cX6_takeBack 4 = .ok (.ifCond .ne 5, 3) := by decide +kernel
theorem dX6_takeBack_7 : decode cX6_takeBack 7 = .ok (.iconst 0, 1) := by decide +kernel
theorem dX6_takeBack_8 : decode cX6_takeBack 8 = .ok (.ireturn, 1) := by decide +kernel
theorem dX6_takeBack_9 : decode cX6_takeBack 9 = .ok (.aload_n 0, 1) := by decide +kernel
theorem dX6_takeBack_10 : decode cX6_takeBack 10 = .ok (.aload_n 0, 1) := by decide +kernel
theorem dX6_takeBack_11 : decode cX6_takeBack 11 = .ok (.getfield 25, 3) := by decide +kernel
theorem dX6_takeBack_14 : decode cX6_takeBack 14 = .ok (.bipush 12, 2) := by decide +kernel
theorem dX6_takeBack_16 : decode cX6_takeBack 16 = .ok (.iadd, 1) := by decide +kernel
theorem dX6_takeBack_17 : decode cX6_takeBack 17 = .ok (.iconst 1, 1) := by decide +kernel
theorem dX6_takeBack_18 : decode cX6_takeBack 18 = .ok (.isub, 1) := by decide +kernel
theorem dX6_takeBack_19 : decode cX6_takeBack 19 = .ok (.bipush 12, 2) := by decide +kernel
theorem dX6_takeBack_21 : decode cX6_takeBack 21 = .ok (.irem, 1) := by decide +kernel
theorem dX6_takeBack_22 : decode cX6_takeBack 22 = .ok (.putfield 25, 3) := by decide +kernel
theorem dX6_takeBack_25 : decode cX6_takeBack 25 = .ok (.aload_n 0, 1) := by decide +kernel
theorem dX6_takeBack_26 : decode cX6_takeBack 26 = .ok (.dup, 1) := by decide +kernel
theorem dX6_takeBack_27 : decode cX6_takeBack 27 = .ok (.getfield 36, 3) := by decide +kernel
theorem dX6_takeBack_30 : decode cX6_takeBack 30 = .ok (.iconst 1, 1) := by decide +kernel
theorem dX6_takeBack_31 : decode cX6_takeBack 31 = .ok (.isub, 1) := by decide +kernel
theorem dX6_takeBack_32 : decode cX6_takeBack 32 = .ok (.putfield 36, 3) := by decide +kernel
theorem dX6_takeBack_35 : decode cX6_takeBack 35 = .ok (.aload_n 1, 1) := by decide +kernel
theorem dX6_takeBack_36 : decode cX6_takeBack 36 = .ok (.aload_n 0, 1) := by decide +kernel
theorem dX6_takeBack_37 : decode cX6_takeBack 37 = .ok (.getfield 11, 3) := by decide +kernel
theorem dX6_takeBack_40 : decode cX6_takeBack 40 = .ok (.aload_n 0, 1) := by decide +kernel
theorem dX6_takeBack_41 : decode cX6_takeBack 41 = .ok (.getfield 25, 3) := by decide +kernel
theorem dX6_takeBack_44 : decode cX6_takeBack 44 = .ok (.aaload, 1) := by decide +kernel
theorem dX6_takeBack_45 : decode cX6_takeBack 45 = .ok (.invokevirtual 29, 3) := by decide +kernel
theorem dX6_takeBack_48 : decode cX6_takeBack 48 = .ok (.aload_n 2, 1) := by decide +kernel
theorem dX6_takeBack_49 : decode cX6_takeBack 49 = .ok (.aload_n 0, 1) := by decide +kernel
theorem dX6_takeBack_50 : decode cX6_takeBack 50 = .ok (.getfield 19, 3) := by decide +kernel
theorem dX6_takeBack_53 : decode cX6_takeBack 53 = .ok (.aload_n 0, 1) := by decide +kernel
theorem dX6_takeBack_54 : decode cX6_takeBack 54 = .ok (.getfield 25, 3) := by decide +kernel
theorem dX6_takeBack_57 : decode cX6_takeBack 57 = .ok (.aaload, 1) := by decide +kernel
theorem dX6_takeBack_58 : decode cX6_takeBack 58 = .ok (.invokevirtual 33, 3) := by decide +kernel
theorem dX6_takeBack_61 : decode cX6_takeBack 61 = .ok (.iconst 1, 1) := by decide +kernel
theorem dX6_takeBack_62 : decode cX6_takeBack 62 = .ok (.ireturn, 1) := by decide +kernel
theorem dX6_forget_0 : decode cX6_forget 0 = .ok (.aload_n 0, 1) := by decide +kernel
theorem dX6_forget_1 : decode cX6_forget 1 = .ok (.iconst 0, 1) := by decide +kernel
theorem dX6_forget_2 : decode cX6_forget 2 = .ok (.putfield 36, 3) := by decide +kernel
theorem dX6_forget_5 : decode cX6_forget 5 = .ok (.return_, 1) := by decide +kernel
theorem dX7_init_0 : decode cX7_init 0 = .ok (.aload_n 0, 1) := by decide +kernel
theorem dX7_init_1 : decode cX7_init 1 = .ok (.invokespecial 3, 3) := by decide +kernel
theorem dX7_init_4 : decode cX7_init 4 = .ok (.aload_n 0, 1) := by decide +kernel
theorem dX7_init_5 : decode cX7_init 5 = .ok (.sipush 400, 3) := by decide +kernel
theorem dX7_init_8 : decode cX7_init 8 = .ok (.newarray .int, 2) := by decide +kernel
theorem dX7_init_10 : decode cX7_init 10 = .ok (.putfield 9, 3) := by decide +kernel
theorem dX7_init_13 : decode cX7_init 13 = .ok (.aload_n 0, 1) := by decide +kernel
theorem dX7_init_14 : decode cX7_init 14 = .ok (.iconst 5, 1) := by decide +kernel
theorem dX7_init_15 : decode cX7_init 15 = .ok (.newarray .int, 2) := by decide +kernel
theorem dX7_init_17 : decode cX7_init 17 = .ok (.putfield 15, 3) := by decide +kernel
theorem dX7_init_20 : decode cX7_init 20 = .ok (.aload_n 0, 1) := by decide +kernel
theorem dX7_init_21 : decode cX7_init 21 = .ok (.new 18, 3) := by decide +kernel
theorem dX7_init_24 : decode cX7_init 24 = .ok (.dup, 1) := by decide +kernel
theorem dX7_init_25 : decode cX7_init 25 = .ok (.invokespecial 20, 3) := by decide +kernel
theorem dX7_init_28 : decode cX7_init 28 = .ok (.putfield 21, 3) := by decide +kernel
theorem dX7_init_31 : decode cX7_init 31 = .ok (.return_, 1) := by decide +kernel
theorem dX7_append_0 : decode cX7_append 0 = .ok (.bipush 24, 2) := by decide +kernel
theorem dX7_append_2 : decode cX7_append 2 = .ok (.istore_n 2, 1) := by decide +kernel
theorem dX7_append_3 : decode cX7_append 3 = .ok (.iload_n 2, 1) := by decide +kernel
theorem dX7_append_4 : decode cX7_append 4 = .ok (.ifCond .lt 45, 3) := by decide +kernel
theorem dX7_append_7 : decode cX7_append 7 = .ok (.aload_n 0, 1) := by decide +kernel
theorem dX7_append_8 : decode cX7_append 8 = .ok (.getfield 25, 3) := by decide +kernel
theorem dX7_append_11 : decode cX7_append 11 = .ok (.sipush 400, 3) := by decide +kernel
theorem dX7_append_14 : decode cX7_append 14 = .ok (.if_icmp .ge 35, 3) := by decide +kernel
theorem dX7_append_17 : decode cX7_append 17 = .ok (.aload_n 0, 1) := by decide +kernel
theorem dX7_append_18 : decode cX7_append 18 = .ok (.getfield 9, 3) := by decide +kernel
theorem dX7_append_21 : decode cX7_append 21 = .ok (.aload_n 0, 1) := by decide +kernel
theorem dX7_append_22 : decode cX7_append 22 = .ok (.getfield 25, 3) := by decide +kernel
theorem dX7_append_25 : decode cX7_append 25 = .ok (.iload_n 1, 1) := by decide +kernel
theorem dX7_append_26 : decode cX7_append 26 = .ok (.iload_n 2, 1) := by decide +kernel
theorem dX7_append_27 : decode cX7_append 27 = .ok (.iushr, 1) := by decide +kernel
theorem dX7_append_28 : decode cX7_append 28 = .ok (.sipush 255, 3) := by decide +kernel
theorem dX7_append_31 : decode cX7_append 31 = .ok (.iand, 1) := by decide +kernel
theorem dX7_append_32 : decode cX7_append 32 = .ok (.iastore, 1) := by decide +kernel
theorem dX7_append_33 : decode cX7_append 33 = .ok (.aload_n 0, 1) := by decide +kernel
theorem dX7_append_34 : decode cX7_append 34 = .ok (.dup, 1) := by decide +kernel
theorem dX7_append_35 : decode cX7_append 35 = .ok (.getfield 25, 3) := by decide +kernel
theorem dX7_append_38 : decode cX7_append 38 = .ok (.iconst 1, 1) := by decide +kernel
theorem dX7_append_39 : decode cX7_append 39 = .ok (.iadd, 1) := by decide +kernel
theorem dX7_append_40 : decode cX7_append 40 = .ok (.putfield 25, 3) := by decide +kernel
theorem dX7_append_43 : decode cX7_append 43 = .ok (.iinc 2 (-8), 3) := by decide +kernel
theorem dX7_append_46 : decode cX7_append 46 = .ok (.goto (-43), 3) := by decide +kernel
theorem dX7_append_49 : decode cX7_append 49 = .ok (.return_, 1) := by decide +kernel
theorem dX7_parse_0 : decode cX7_parse 0 = .ok (.aload_n 0, 1) := by decide +kernel
theorem dX7_parse_1 : decode cX7_parse 1 = .ok (.getfield 21, 3) := by decide +kernel
theorem dX7_parse_4 : decode cX7_parse 4 = .ok (.invokevirtual 29, 3) := by decide +kernel
theorem dX7_parse_7 : decode cX7_parse 7 = .ok (.aload_n 0, 1) := by decide +kernel
theorem dX7_parse_8 : decode cX7_parse 8 = .ok (.iconst 0, 1) := by decide +kernel
theorem dX7_parse_9 : decode cX7_parse 9 = .ok (.putfield 32, 3) := by decide +kernel
theorem dX7_parse_12 : decode cX7_parse 12 = .ok (.aload_n 0, 1) := by decide +kernel
theorem dX7_parse_13 : decode cX7_parse 13 = .ok (.iconst (-1), 1) := by decide +kernel
theorem dX7_parse_14 : decode cX7_parse 14 = .ok (.putfield 35, 3) := by decide +kernel
theorem dX7_parse_17 : decode cX7_parse 17 = .ok (.aload_n 0, 1) := by decide +kernel
theorem dX7_parse_18 : decode cX7_parse 18 = .ok (.invokevirtual 38, 3) := by decide +kernel
theorem dX7_parse_21 : decode cX7_parse 21 = .ok (.iconst 0, 1) := by decide +kernel
theorem dX7_parse_22 : decode cX7_parse 22 = .ok (.istore_n 1, 1) := by decide +kernel
theorem dX7_parse_23 : decode cX7_parse 23 = .ok (.iload_n 1, 1) := by decide +kernel
theorem dX7_parse_24 : decode cX7_parse 24 = .ok (.sipush 400, 3) := by decide +kernel
theorem dX7_parse_27 : decode cX7_parse 27 = .ok (.if_icmp .ge 36, 3) := by decide +kernel
theorem dX7_parse_30 : decode cX7_parse 30 = .ok (.aload_n 0, 1) := by decide +kernel
theorem dX7_parse_31 : decode cX7_parse 31 = .ok (.getfield 32, 3) := by decide +kernel
theorem dX7_parse_34 : decode cX7_parse 34 = .ok (.aload_n 0, 1) := by decide +kernel
theorem dX7_parse_35 : decode cX7_parse 35 = .ok (.getfield 25, 3) := by decide +kernel
theorem dX7_parse_38 : decode cX7_parse 38 = .ok (.if_icmp .ge 25, 3) := by decide +kernel
theorem dX7_parse_41 : decode cX7_parse 41 = .ok (.aload_n 0, 1) := by decide +kernel
theorem dX7_parse_42 : decode cX7_parse 42 = .ok (.getfield 35, 3) := by decide +kernel
theorem dX7_parse_45 : decode cX7_parse 45 = .ok (.iconst (-1), 1) := by decide +kernel
theorem dX7_parse_46 : decode cX7_parse 46 = .ok (.if_icmp .ne 17, 3) := by decide +kernel
theorem dX7_parse_49 : decode cX7_parse 49 = .ok (.aload_n 0, 1) := by decide +kernel
theorem dX7_parse_50 : decode cX7_parse 50 = .ok (.invokevirtual 41, 3) := by decide +kernel
theorem dX7_parse_53 : decode cX7_parse 53 = .ok (.aload_n 0, 1) := by decide +kernel
theorem dX7_parse_54 : decode cX7_parse 54 = .ok (.invokevirtual 38, 3) := by decide +kernel
theorem dX7_parse_57 : decode cX7_parse 57 = .ok (.iinc 1 1, 3) := by decide +kernel
theorem dX7_parse_60 : decode cX7_parse 60 = .ok (.goto (-37), 3) := by decide +kernel
theorem dX7_parse_63 : decode cX7_parse 63 = .ok (.aload_n 0, 1) := by decide +kernel
theorem dX7_parse_64 : decode cX7_parse 64 = .ok (.getfield 35, 3) := by decide +kernel
theorem dX7_parse_67 : decode cX7_parse 67 = .ok (.iconst (-1), 1) := by decide +kernel
theorem dX7_parse_68 : decode cX7_parse 68 = .ok (.if_icmp .ne 18, 3) := by decide +kernel
theorem dX7_parse_71 : decode cX7_parse 71 = .ok (.aload_n 0, 1) := by decide +kernel
theorem dX7_parse_72 : decode cX7_parse 72 = .ok (.invokevirtual 44, 3) := by decide +kernel
theorem dX7_parse_75 : decode cX7_parse 75 = .ok (.ifCond .ne 11, 3) := by decide +kernel
theorem dX7_parse_78 : decode cX7_parse 78 = .ok (.aload_n 0, 1) := by decide +kernel
theorem dX7_parse_79 : decode cX7_parse 79 = .ok (.aload_n 0, 1) := by decide +kernel
theorem dX7_parse_80 : decode cX7_parse 80 = .ok (.getfield 25, 3) := by decide +kernel
theorem dX7_parse_83 : decode cX7_parse 83 = .ok (.putfield 35, 3) := by decide +kernel
theorem dX7_parse_86 : decode cX7_parse 86 = .ok (.aload_n 0, 1) := by decide +kernel
theorem dX7_parse_87 : decode cX7_parse 87 = .ok (.getfield 35, 3) := by decide +kernel
theorem dX7_parse_90 : decode cX7_parse 90 = .ok (.ireturn, 1) := by decide +kernel
theorem dX7_readPhrase_0 : decode cX7_readPhrase 0 = .ok (.aload_n 0, 1) := by decide +kernel
theorem dX7_readPhrase_1 : decode cX7_readPhrase 1 = .ok (.getfield 32, 3) := by decide +kernel
theorem dX7_readPhrase_4 : decode cX7_readPhrase 4 = .ok (.istore_n 1, 1) := by decide +kernel
theorem dX7_readPhrase_5 : decode cX7_readPhrase 5 = .ok (.aload_n 0, 1) := by decide +kernel
theorem dX7_readPhrase_6 : decode cX7_readPhrase 6 = .ok (.getfield 32, 3) := by decide +kernel
theorem dX7_readPhrase_9 : decode cX7_readPhrase 9 = .ok (.aload_n 0, 1) := by decide +kernel
theorem dX7_readPhrase_10 : decode cX7_readPhrase 10 = .ok (.getfield 25, 3) := by decide +kernel
theorem dX7_readPhrase_13 : decode cX7_readPhrase 13 = .ok (.if_icmp .ge 31, 3) := by decide +kernel
theorem dX7_readPhrase_16 : decode cX7_readPhrase 16 = .ok (.aload_n 0, 1) := by decide +kernel
theorem dX7_readPhrase_17 : decode cX7_readPhrase 17 = .ok (.getfield 9, 3) := by decide +kernel
theorem dX7_readPhrase_20 : decode cX7_readPhrase 20 = .ok (.aload_n 0, 1) := by decide +kernel
theorem dX7_readPhrase_21 : decode cX7_readPhrase 21 = .ok (.getfield 32, 3) := by decide +kernel
theorem dX7_readPhrase_24 : decode cX7_readPhrase 24 = .ok (.iaload, 1) := by decide +kernel
theorem dX7_readPhrase_25 : decode cX7_readPhrase 25 = .ok (.invokestatic 48, 3) := by decide +kernel
theorem dX7_readPhrase_28 : decode cX7_readPhrase 28 = .ok (.ifCond .eq 16, 3) := by decide +kernel
theorem dX7_readPhrase_31 : decode cX7_readPhrase 31 = .ok (.aload_n 0, 1) := by decide +kernel
theorem dX7_readPhrase_32 : decode cX7_readPhrase 32 = .ok (.dup, 1) := by decide +kernel
theorem dX7_readPhrase_33 : decode cX7_readPhrase 33 = .ok (.getfield 32, 3) := by decide +kernel
theorem dX7_readPhrase_36 : decode cX7_readPhrase 36 = .ok (.iconst 1, 1) := by decide +kernel
theorem dX7_readPhrase_37 : decode cX7_readPhrase 37 = .ok (.iadd, 1) := by decide +kernel
theorem dX7_readPhrase_38 : decode cX7_readPhrase 38 = .ok (.putfield 32, 3) := by decide +kernel
theorem dX7_readPhrase_41 : decode cX7_readPhrase 41 = .ok (.goto (-36), 3) := by decide +kernel
theorem dX7_readPhrase_44 : decode cX7_readPhrase 44 = .ok (.aload_n 0, 1) := by decide +kernel
theorem dX7_readPhrase_45 : decode cX7_readPhrase 45 = .ok (.iload_n 1, 1) := by decide +kernel
theorem dX7_readPhrase_46 : decode cX7_readPhrase 46 = .ok (.aload_n 0, 1) := by decide +kernel
theorem dX7_readPhrase_47 : decode cX7_readPhrase 47 = .ok (.getfield 32, 3) := by decide +kernel
theorem dX7_readPhrase_50 : decode cX7_readPhrase 50 = .ok (.invokevirtual 52, 3) := by decide +kernel
theorem dX7_readPhrase_53 : decode cX7_readPhrase 53 = .ok (.istore_n 2, 1) := by decide +kernel
theorem dX7_readPhrase_54 : decode cX7_readPhrase 54 = .ok (.iload_n 2, 1) := by decide +kernel
theorem dX7_readPhrase_55 : decode cX7_readPhrase 55 = .ok (.iconst (-1), 1) := by decide +kernel
theorem dX7_readPhrase_56 : decode cX7_readPhrase 56 = .ok (.if_icmp .eq 11, 3) := by decide +kernel
theorem dX7_readPhrase_59 : decode cX7_readPhrase 59 = .ok (.aload_n 0, 1) := by decide +kernel
theorem dX7_readPhrase_60 : decode cX7_readPhrase 60 = .ok (.iload_n 2, 1) := by decide +kernel
theorem dX7_readPhrase_61 : decode cX7_readPhrase 61 = .ok (.invokevirtual 56, 3) := by decide +kernel
theorem dX7_readPhrase_64 : decode cX7_readPhrase 64 = .ok (.ifCond .eq 9, 3) := by decide +kernel
theorem dX7_readPhrase_67 : decode cX7_readPhrase 67 = .ok (.aload_n 0, 1) := by decide +kernel
theorem dX7_readPhrase_68 : decode cX7_readPhrase 68 = .ok (.iload_n 1, 1) := by decide +kernel
theorem dX7_readPhrase_69 : decode cX7_readPhrase 69 = .ok (.putfield 35, 3) := by decide +kernel
theorem dX7_readPhrase_72 : decode cX7_readPhrase 72 = .ok (.return_, 1) := by decide +kernel
theorem dX7_readPhrase_73 : decode cX7_readPhrase 73 = .ok (.iload_n 2, 1) := by decide +kernel
theorem dX7_readPhrase_74 : decode cX7_readPhrase 74 = .ok (.invokestatic 59, 3) := by decide +kernel
theorem dX7_readPhrase_77 : decode cX7_readPhrase 77 = .ok (.istore_n 3, 1) := by decide +kernel
theorem dX7_readPhrase_78 : decode cX7_readPhrase 78 = .ok (.iconst 0, 1) := by decide +kernel
theorem dX7_readPhrase_79 : decode cX7_readPhrase 79 = .ok (.istore 4, 2) := by decide +kernel
theorem dX7_readPhrase_81 : decode cX7_readPhrase 81 = .ok (.iload 4, 2) := by decide +kernel
theorem dX7_readPhrase_83 : decode cX7_readPhrase 83 = .ok (.iload_n 3, 1) := by decide +kernel
theorem dX7_readPhrase_84 : decode cX7_readPhrase 84 = .ok (.if_icmp .ge 33, 3) := by decide +kernel
theorem dX7_readPhrase_87 : decode cX7_readPhrase 87 = .ok (.aload_n 0, 1) := by decide +kernel
theorem dX7_readPhrase_88 : decode cX7_readPhrase 88 = .ok (.getfield 35, 3) := by decide +kernel
theorem dX7_readPhrase_91 : decode cX7_readPhrase 91 = .ok (.iconst (-1), 1) := by decide +kernel
theorem dX7_readPhrase_92 : decode cX7_readPhrase 92 = .ok (.if_icmp .ne 25, 3) := by decide +kernel
theorem dX7_readPhrase_95 : decode cX7_readPhrase 95 = .ok (.aload_n 0, 1) := by decide +kernel
theorem dX7_readPhrase_96 : decode cX7_readPhrase 96 = .ok (.iload 4, 2) := by decide +kernel
theorem dX7_readPhrase_98 : decode cX7_readPhrase 98 = .ok (.iload_n 2, 1) := by decide +kernel
theorem dX7_readPhrase_99 : decode cX7_readPhrase 99 = .ok (.invokestatic 63, 3) := by decide +kernel
theorem dX7_readPhrase_102 : decode cX7_readPhrase 102 = .ok (.iload_n 2, 1) := by decide +kernel
theorem dX7_readPhrase_103 : decode cX7_readPhrase 103 = .ok (.iload 4, 2) := by decide +kernel
theorem dX7_readPhrase_105 : decode cX7_readPhrase 105 = .ok (.invokestatic 66, 3) := by decide +kernel
theorem dX7_readPhrase_108 : decode cX7_readPhrase 108 = .ok (.invokevirtual 69, 3) := by decide +kernel
theorem dX7_readPhrase_111 : decode cX7_readPhrase 111 = .ok (.iinc 4 1, 3) := by decide +kernel
theorem dX7_readPhrase_114 : decode cX7_readPhrase 114 = .ok (.goto (-33), 3) := by decide +kernel
theorem dX7_readPhrase_117 : decode cX7_readPhrase 117 = .ok (.aload_n 0, 1) := by decide +kernel
theorem dX7_readPhrase_118 : decode cX7_readPhrase 118 = .ok (.getfield 35, 3) := by decide +kernel
theorem dX7_readPhrase_121 : decode cX7_readPhrase 121 = .ok (.iconst (-1), 1) := by decide +kernel
theorem dX7_readPhrase_122 : decode cX7_readPhrase 122 = .ok (.if_icmp .ne 7, 3) := by decide +kernel
theorem dX7_readPhrase_125 : decode cX7_readPhrase 125 = .ok (.aload_n 0, 1) := by decide +kernel
theorem dX7_readPhrase_126 : decode cX7_readPhrase 126 = .ok (.invokevirtual 73, 3) := by decide +kernel
theorem dX7_readPhrase_129 : decode cX7_readPhrase 129 = .ok (.aload_n 0, 1) := by decide +kernel
theorem dX7_readPhrase_130 : decode cX7_readPhrase 130 = .ok (.getfield 35, 3) := by decide +kernel
theorem dX7_readPhrase_133 : decode cX7_readPhrase 133 = .ok (.iconst (-1), 1) := by decide +kernel
theorem dX7_readPhrase_134 : decode cX7_readPhrase 134 = .ok (.if_icmp .ne 8, 3) := by decide +kernel
theorem dX7_readPhrase_137 : decode cX7_readPhrase 137 = .ok (.aload_n 0, 1) := by decide +kernel
theorem dX7_readPhrase_138 : decode cX7_readPhrase 138 = .ok (.iload_n 2, 1) := by decide +kernel
theorem dX7_readPhrase_139 : decode cX7_readPhrase 139 = .ok (.invokevirtual 76, 3) := by decide +kernel
theorem dX7_readPhrase_142 : decode cX7_readPhrase 142 = .ok (.return_, 1) := by decide +kernel
theorem dX7_readNumber_0 : decode cX7_readNumber 0 = .ok (.aload_n 0, 1) := by decide +kernel
theorem dX7_readNumber_1 : decode cX7_readNumber 1 = .ok (.getfield 32, 3) := by decide +kernel
theorem dX7_readNumber_4 : decode cX7_readNumber 4 = .ok (.istore 4, 2) := by decide +kernel
theorem dX7_readNumber_6 : decode cX7_readNumber 6 = .ok (.aload_n 0, 1) := by decide +kernel
theorem dX7_readNumber_7 : decode cX7_readNumber 7 = .ok (.invokevirtual 38, 3) := by decide +kernel
theorem dX7_readNumber_10 : decode cX7_readNumber 10 = .ok (.aload_n 0, 1) := by decide +kernel
theorem dX7_readNumber_11 : decode cX7_readNumber 11 = .ok (.getfield 32, 3) := by decide +kernel
theorem dX7_readNumber_14 : decode cX7_readNumber 14 = .ok (.iload 4, 2) := by decide +kernel
theorem dX7_readNumber_16 : decode cX7_readNumber 16 = .ok (.if_icmp .eq 29, 3) := by decide +kernel
theorem dX7_readNumber_19 : decode cX7_readNumber 19 = .ok (.aload_n 0, 1) := by decide +kernel
theorem dX7_readNumber_20 : decode cX7_readNumber 20 = .ok (.getfield 32, 3) := by decide +kernel
theorem dX7_readNumber_23 : decode cX7_readNumber 23 = .ok (.aload_n 0, 1) := by decide +kernel
theorem dX7_readNumber_24 : decode cX7_readNumber 24 = .ok (.getfield 25, 3) := by decide +kernel
theorem dX7_readNumber_27 : decode cX7_readNumber 27 = .ok (.if_icmp .ge 18, 3) := by decide +kernel
theorem dX7_readNumber_30 : decode cX7_readNumber 30 = .ok (.aload_n 0, 1) := by decide +kernel
theorem dX7_readNumber_31 : decode cX7_readNumber 31 = .ok (.getfield 9, 3) := by decide +kernel
theorem dX7_readNumber_34 : decode cX7_readNumber 34 = .ok (.aload_n 0, 1) := by decide +kernel
theorem dX7_readNumber_35 : decode cX7_readNumber 35 = .ok (.getfield 32, 3) := by decide +kernel
theorem dX7_readNumber_38 : decode cX7_readNumber 38 = .ok (.iaload, 1) := by decide +kernel
theorem dX7_readNumber_39 : decode cX7_readNumber 39 = .ok (.invokestatic 80, 3) := by decide +kernel
theorem dX7_readNumber_42 : decode cX7_readNumber 42 = .ok (.ifCond .ne 12, 3) := by decide +kernel
theorem dX7_readNumber_45 : decode cX7_readNumber 45 = .ok (.aload_n 0, 1) := by decide +kernel
theorem dX7_readNumber_46 : decode cX7_readNumber 46 = .ok (.aload_n 0, 1) := by decide +kernel
theorem dX7_readNumber_47 : decode cX7_readNumber 47 = .ok (.getfield 32, 3) := by decide +kernel
theorem dX7_readNumber_50 : decode cX7_readNumber 50 = .ok (.putfield 35, 3) := by decide +kernel
theorem dX7_readNumber_53 : decode cX7_readNumber 53 = .ok (.return_, 1) := by decide +kernel
theorem dX7_readNumber_54 : decode cX7_readNumber 54 = .ok (.aload_n 0, 1) := by decide +kernel
theorem dX7_readNumber_55 : decode cX7_readNumber 55 = .ok (.getfield 32, 3) := by decide +kernel
theorem dX7_readNumber_58 : decode cX7_readNumber 58 = .ok (.istore 5, 2) := by decide +kernel
theorem dX7_readNumber_60 : decode cX7_readNumber 60 = .ok (.iconst 0, 1) := by decide +kernel
theorem dX7_readNumber_61 : decode cX7_readNumber 61 = .ok (.istore 6, 2) := by decide +kernel
theorem dX7_readNumber_63 : decode cX7_readNumber 63 = .ok (.aload_n 0, 1) := by decide +kernel
theorem dX7_readNumber_64 : decode cX7_readNumber 64 = .ok (.getfield 32, 3) := by decide +kernel
theorem dX7_readNumber_67 : decode cX7_readNumber 67 = .ok (.aload_n 0, 1) := by decide +kernel
theorem dX7_readNumber_68 : decode cX7_readNumber 68 = .ok (.getfield 25, 3) := by decide +kernel
theorem dX7_readNumber_71 : decode cX7_readNumber 71 = .ok (.if_icmp .ge 57, 3) := by decide +kernel
theorem dX7_readNumber_74 : decode cX7_readNumber 74 = .ok (.aload_n 0, 1) := by decide +kernel
theorem dX7_readNumber_75 : decode cX7_readNumber 75 = .ok (.getfield 9, 3) := by decide +kernel
theorem dX7_readNumber_78 : decode cX7_readNumber 78 = .ok (.aload_n 0, 1) := by decide +kernel
theorem dX7_readNumber_79 : decode cX7_readNumber 79 = .ok (.getfield 32, 3) := by decide +kernel
theorem dX7_readNumber_82 : decode cX7_readNumber 82 = .ok (.iaload, 1) := by decide +kernel
theorem dX7_readNumber_83 : decode cX7_readNumber 83 = .ok (.invokestatic 80, 3) := by decide +kernel
theorem dX7_readNumber_86 : decode cX7_readNumber 86 = .ok (.ifCond .eq 42, 3) := by decide +kernel
theorem dX7_readNumber_89 : decode cX7_readNumber 89 = .ok (.sipush 9999, 3) := by decide +kernel
theorem dX7_readNumber_92 : decode cX7_readNumber 92 = .ok (.iload 6, 2) := by decide +kernel
theorem dX7_readNumber_94 : decode cX7_readNumber 94 = .ok (.bipush 10, 2) := by decide +kernel
theorem dX7_readNumber_96 : decode cX7_readNumber 96 = .ok (.imul, 1) := by decide +kernel
theorem dX7_readNumber_97 : decode cX7_readNumber 97 = .ok (.aload_n 0, 1) := by decide +kernel
theorem dX7_readNumber_98 : decode cX7_readNumber 98 = .ok (.getfield 9, 3) := by decide +kernel
theorem dX7_readNumber_101 : decode cX7_readNumber 101 = .ok (.aload_n 0, 1) := by decide +kernel
theorem dX7_readNumber_102 : decode cX7_readNumber 102 = .ok (.getfield 32, 3) := by decide +kernel
theorem dX7_readNumber_105 : decode cX7_readNumber 105 = .ok (.iaload, 1) := by decide +kernel
theorem dX7_readNumber_106 : decode cX7_readNumber 106 = .ok (.iadd, 1) := by decide +kernel
theorem dX7_readNumber_107 : decode cX7_readNumber 107 = .ok (.bipush 48, 2) := by decide +kernel
theorem dX7_readNumber_109 : decode cX7_readNumber 109 = .ok (.isub, 1) := by decide +kernel
theorem dX7_readNumber_110 : decode cX7_readNumber 110 = .ok (.invokestatic 83, 3) := by decide +kernel
theorem dX7_readNumber_113 : decode cX7_readNumber 113 = .ok (.istore 6, 2) := by decide +kernel
theorem dX7_readNumber_115 : decode cX7_readNumber 115 = .ok (.aload_n 0, 1) := by decide +kernel
theorem dX7_readNumber_116 : decode cX7_readNumber 116 = .ok (.dup, 1) := by decide +kernel
theorem dX7_readNumber_117 : decode cX7_readNumber 117 = .ok (.getfield 32, 3) := by decide +kernel
theorem dX7_readNumber_120 : decode cX7_readNumber 120 = .ok (.iconst 1, 1) := by decide +kernel
theorem dX7_readNumber_121 : decode cX7_readNumber 121 = .ok (.iadd, 1) := by decide +kernel
theorem dX7_readNumber_122 : decode cX7_readNumber 122 = .ok (.putfield 32, 3) := by decide +kernel
theorem dX7_readNumber_125 : decode cX7_readNumber 125 = .ok (.goto (-62), 3) := by decide +kernel
theorem dX7_readNumber_128 : decode cX7_readNumber 128 = .ok (.aload_n 0, 1) := by decide +kernel
theorem dX7_readNumber_129 : decode cX7_readNumber 129 = .ok (.getfield 32, 3) := by decide +kernel
theorem dX7_readNumber_132 : decode cX7_readNumber 132 = .ok (.iload 5, 2) := by decide +kernel
theorem dX7_readNumber_134 : decode cX7_readNumber 134 = .ok (.isub, 1) := by decide +kernel
theorem dX7_readNumber_135 : decode cX7_readNumber 135 = .ok (.iconst 3, 1) := by decide +kernel
theorem dX7_readNumber_136 : decode cX7_readNumber 136 = .ok (.if_icmp .gt 15, 3) := by decide +kernel
theorem dX7_readNumber_139 : decode cX7_readNumber 139 = .ok (.iload 6, 2) := by decide +kernel
theorem dX7_readNumber_141 : decode cX7_readNumber 141 = .ok (.iload_n 2, 1) := by decide +kernel
theorem dX7_readNumber_142 : decode cX7_readNumber 142 = .ok (.if_icmp .lt 9, 3) := by decide +kernel
theorem dX7_readNumber_145 : decode cX7_readNumber 145 = .ok (.iload 6, 2) := by decide +kernel
theorem dX7_readNumber_147 : decode cX7_readNumber 147 = .ok (.iload_n 3, 1) := by decide +kernel
theorem dX7_readNumber_148 : decode cX7_readNumber 148 = .ok (.if_icmp .le 10, 3) := by decide +kernel
theorem dX7_readNumber_151 : decode cX7_readNumber 151 = .ok (.aload_n 0, 1) := by decide +kernel
theorem dX7_readNumber_152 : decode cX7_readNumber 152 = .ok (.iload 5, 2) := by decide +kernel
theorem dX7_readNumber_154 : decode cX7_readNumber 154 = .ok (.putfield 35, 3) := by decide +kernel
theorem dX7_readNumber_157 : decode cX7_readNumber 157 = .ok (.return_, 1) := by decide +kernel
theorem dX7_readNumber_158 : decode cX7_readNumber 158 = .ok (.aload_n 0, 1) := by decide +kernel
theorem dX7_readNumber_159 : decode cX7_readNumber 159 = .ok (.getfield 15, 3) := by decide +kernel
theorem dX7_readNumber_162 : decode cX7_readNumber 162 = .ok (.iload_n 1, 1) := by decide +kernel
theorem dX7_readNumber_163 : decode cX7_readNumber 163 = .ok (.iload 6, 2) := by decide +kernel
theorem dX7_readNumber_165 : decode cX7_readNumber 165 = .ok (.iastore, 1) := by decide +kernel
theorem dX7_readNumber_166 : decode cX7_readNumber 166 = .ok (.return_, 1) := by decide +kernel
theorem dX7_readEnd_0 : decode cX7_readEnd 0 = .ok (.aload_n 0, 1) := by decide +kernel
theorem dX7_readEnd_1 : decode cX7_readEnd 1 = .ok (.invokevirtual 38, 3) := by decide +kernel
theorem dX7_readEnd_4 : decode cX7_readEnd 4 = .ok (.aload_n 0, 1) := by decide +kernel
theorem dX7_readEnd_5 : decode cX7_readEnd 5 = .ok (.getfield 32, 3) := by decide +kernel
theorem dX7_readEnd_8 : decode cX7_readEnd 8 = .ok (.aload_n 0, 1) := by decide +kernel
theorem dX7_readEnd_9 : decode cX7_readEnd 9 = .ok (.getfield 25, 3) := by decide +kernel
theorem dX7_readEnd_12 : decode cX7_readEnd 12 = .ok (.if_icmp .ge 30, 3) := by decide +kernel
theorem dX7_readEnd_15 : decode cX7_readEnd 15 = .ok (.aload_n 0, 1) := by decide +kernel
theorem dX7_readEnd_16 : decode cX7_readEnd 16 = .ok (.getfield 9, 3) := by decide +kernel
theorem dX7_readEnd_19 : decode cX7_readEnd 19 = .ok (.aload_n 0, 1) := by decide +kernel
theorem dX7_readEnd_20 : decode cX7_readEnd 20 = .ok (.getfield 32, 3) := by decide +kernel
theorem dX7_readEnd_23 : decode cX7_readEnd 23 = .ok (.iaload, 1) := by decide +kernel
theorem dX7_readEnd_24 : decode cX7_readEnd 24 = .ok (.bipush 59, 2) := by decide +kernel
theorem dX7_readEnd_26 : decode cX7_readEnd 26 = .ok (.if_icmp .ne 16, 3) := by decide +kernel
theorem dX7_readEnd_29 : decode cX7_readEnd 29 = .ok (.aload_n 0, 1) := by decide +kernel
theorem dX7_readEnd_30 : decode cX7_readEnd 30 = .ok (.dup, 1) := by decide +kernel
theorem dX7_readEnd_31 : decode cX7_readEnd 31 = .ok (.getfield 32, 3) := by decide +kernel
theorem dX7_readEnd_34 : decode cX7_readEnd 34 = .ok (.iconst 1, 1) := by decide +kernel
theorem dX7_readEnd_35 : decode cX7_readEnd 35 = .ok (.iadd, 1) := by decide +kernel
theorem dX7_readEnd_36 : decode cX7_readEnd 36 = .ok (.putfield 32, 3) := by decide +kernel
theorem dX7_readEnd_39 : decode cX7_readEnd 39 = .ok (.goto 11, 3) := by decide +kernel
theorem dX7_readEnd_42 : decode cX7_readEnd 42 = .ok (.aload_n 0, 1) := by decide +kernel
theorem dX7_readEnd_43 : decode cX7_readEnd 43 = .ok (.aload_n 0, 1) := by decide +kernel
theorem dX7_readEnd_44 : decode cX7_readEnd 44 = .ok (.getfield 32, 3) := by decide +kernel
theorem dX7_readEnd_47 : decode cX7_readEnd 47 = .ok (.putfield 35, 3) := by decide +kernel
theorem dX7_readEnd_50 : decode cX7_readEnd 50 = .ok (.return_, 1) := by decide +kernel
theorem dX7_take_0 : decode cX7_take 0 = .ok (.iload_n 1, 1) := by decide +kernel
theorem dX7_take_1 : decode cX7_take 1 = .ok (.ifCond .ne 44, 3) := by decide +kernel
theorem dX7_take_4 : decode cX7_take 4 = .ok (.aload_n 0, 1) := by decide +kernel
theorem dX7_take_5 : decode cX7_take 5 = .ok (.getfield 15, 3) := by decide +kernel
theorem dX7_take_8 : decode cX7_take 8 = .ok (.iconst 0, 1) := by decide +kernel
theorem dX7_take_9 : decode cX7_take 9 = .ok (.aload_n 0, 1) := by decide +kernel
theorem dX7_take_10 : decode cX7_take 10 = .ok (.getfield 21, 3) := by decide +kernel
theorem dX7_take_13 : decode cX7_take 13 = .ok (.getfield 88, 3) := by decide +kernel
theorem dX7_take_16 : decode cX7_take 16 = .ok (.aload_n 0, 1) := by decide +kernel
theorem dX7_take_17 : decode cX7_take 17 = .ok (.getfield 21, 3) := by decide +kernel
theorem dX7_take_20 : decode cX7_take 20 = .ok (.getfield 91, 3) := by decide +kernel
theorem dX7_take_23 : decode cX7_take 23 = .ok (.iconst 5, 1) := by decide +kernel
theorem dX7_take_24 : decode cX7_take 24 = .ok (.imul, 1) := by decide +kernel
theorem dX7_take_25 : decode cX7_take 25 = .ok (.iconst 5, 1) := by decide +kernel
theorem dX7_take_26 : decode cX7_take 26 = .ok (.invokestatic 94, 3) := by decide +kernel
theorem dX7_take_29 : decode cX7_take 29 = .ok (.aload_n 0, 1) := by decide +kernel
theorem dX7_take_30 : decode cX7_take 30 = .ok (.getfield 21, 3) := by decide +kernel
theorem dX7_take_33 : decode cX7_take 33 = .ok (.dup, 1) := by decide +kernel
theorem dX7_take_34 : decode cX7_take 34 = .ok (.getfield 91, 3) := by decide +kernel
theorem dX7_take_37 : decode cX7_take 37 = .ok (.iconst 1, 1) := by decide +kernel
theorem dX7_take_38 : decode cX7_take 38 = .ok (.iadd, 1) := by decide +kernel
theorem dX7_take_39 : decode cX7_take 39 = .ok (.putfield 91, 3) := by decide +kernel
theorem dX7_take_42 : decode cX7_take 42 = .ok (.goto 47, 3) := by decide +kernel
theorem dX7_take_45 : decode cX7_take 45 = .ok (.iload_n 1, 1) := by decide +kernel
theorem dX7_take_46 : decode cX7_take 46 = .ok (.iconst 1, 1) := by decide +kernel
theorem dX7_take_47 : decode cX7_take 47 = .ok (.if_icmp .ne 25, 3) := by decide +kernel
theorem dX7_take_50 : decode cX7_take 50 = .ok (.aload_n 0, 1) := by decide +kernel
theorem dX7_take_51 : decode cX7_take 51 = .ok (.getfield 21, 3) := by decide +kernel
theorem dX7_take_54 : decode cX7_take 54 = .ok (.aload_n 0, 1) := by decide +kernel
theorem dX7_take_55 : decode cX7_take 55 = .ok (.getfield 15, 3) := by decide +kernel
theorem dX7_take_58 : decode cX7_take 58 = .ok (.iconst 0, 1) := by decide +kernel
theorem dX7_take_59 : decode cX7_take 59 = .ok (.iaload, 1) := by decide +kernel
theorem dX7_take_60 : decode cX7_take 60 = .ok (.aload_n 0, 1) := by decide +kernel
theorem dX7_take_61 : decode cX7_take 61 = .ok (.getfield 15, 3) := by decide +kernel
theorem dX7_take_64 : decode cX7_take 64 = .ok (.iconst 1, 1) := by decide +kernel
theorem dX7_take_65 : decode cX7_take 65 = .ok (.iaload, 1) := by decide +kernel
theorem dX7_take_66 : decode cX7_take 66 = .ok (.invokevirtual 100, 3) := by decide +kernel
theorem dX7_take_69 : decode cX7_take 69 = .ok (.goto 20, 3) := by decide +kernel
theorem dX7_take_72 : decode cX7_take 72 = .ok (.aload_n 0, 1) := by decide +kernel
theorem dX7_take_73 : decode cX7_take 73 = .ok (.getfield 21, 3) := by decide +kernel
theorem dX7_take_76 : decode cX7_take 76 = .ok (.getfield 104, 3) := by decide +kernel
theorem dX7_take_79 : decode cX7_take 79 = .ok (.iload_n 1, 1) := by decide +kernel
theorem dX7_take_80 : decode cX7_take 80 = .ok (.iconst 2, 1) := by decide +kernel
theorem dX7_take_81 : decode cX7_take 81 = .ok (.isub, 1) := by decide +kernel
theorem dX7_take_82 : decode cX7_take 82 = .ok (.aload_n 0, 1) := by decide +kernel
theorem dX7_take_83 : decode cX7_take 83 = .ok (.getfield 15, 3) := by decide +kernel
theorem dX7_take_86 : decode cX7_take 86 = .ok (.iconst 0, 1) := by decide +kernel
theorem dX7_take_87 : decode cX7_take 87 = .ok (.iaload, 1) := by decide +kernel
theorem dX7_take_88 : decode cX7_take 88 = .ok (.iastore, 1) := by decide +kernel
theorem dX7_take_89 : decode cX7_take 89 = .ok (.return_, 1) := by decide +kernel
theorem dX7_isFull_0 : decode cX7_isFull 0 = .ok (.iload_n 1, 1) := by decide +kernel
theorem dX7_isFull_1 : decode cX7_isFull 1 = .ok (.ifCond .ne 15, 3) := by decide +kernel
theorem dX7_isFull_4 : decode cX7_isFull 4 = .ok (.aload_n 0, 1) := by decide +kernel
theorem dX7_isFull_5 : decode cX7_isFull 5 = .ok (.getfield 21, 3) := by decide +kernel
theorem dX7_isFull_8 : decode cX7_isFull 8 = .ok (.getfield 91, 3) := by decide +kernel
theorem dX7_isFull_11 : decode cX7_isFull 11 = .ok (.bipush 8, 2) := by decide +kernel
theorem dX7_isFull_13 : decode cX7_isFull 13 = .ok (.if_icmp .ge 19, 3) := by decide +kernel
theorem dX7_isFull_16 : decode cX7_isFull 16 = .ok (.iload_n 1, 1) := by decide +kernel
theorem dX7_isFull_17 : decode cX7_isFull 17 = .ok (.iconst 1, 1) := by decide +kernel
theorem dX7_isFull_18 : decode cX7_isFull 18 = .ok (.if_icmp .ne 18, 3) := by decide +kernel
theorem dX7_isFull_21 : decode cX7_isFull 21 = .ok (.aload_n 0, 1) := by decide +kernel
theorem dX7_isFull_22 : decode cX7_isFull 22 = .ok (.getfield 21, 3) := by decide +kernel
theorem dX7_isFull_25 : decode cX7_isFull 25 = .ok (.getfield 107, 3) := by decide +kernel
theorem dX7_isFull_28 : decode cX7_isFull 28 = .ok (.iconst 5, 1) := by decide +kernel
theorem dX7_isFull_29 : decode cX7_isFull 29 = .ok (.if_icmp .lt 7, 3) := by decide +kernel
theorem dX7_isFull_32 : decode cX7_isFull 32 = .ok (.iconst 1, 1) := by decide +kernel
theorem dX7_isFull_33 : decode cX7_isFull 33 = .ok (.goto 4, 3) := by decide +kernel
theorem dX7_isFull_36 : decode cX7_isFull 36 = .ok (.iconst 0, 1) := by decide +kernel
theorem dX7_isFull_37 : decode cX7_isFull 37 = .ok (.ireturn, 1) := by decide +kernel
theorem dX7_isWhole_0 : decode cX7_isWhole 0 = .ok (.aload_n 0, 1) := by decide +kernel
theorem dX7_isWhole_1 : decode cX7_isWhole 1 = .ok (.getfield 21, 3) := by decide +kernel
theorem dX7_isWhole_4 : decode cX7_isWhole 4 = .ok (.getfield 91, 3) := by decide +kernel
theorem dX7_isWhole_7 : decode cX7_isWhole 7 = .ok (.ifCond .eq 13, 3) := by decide +kernel
theorem dX7_isWhole_10 : decode cX7_isWhole 10 = .ok (.aload_n 0, 1) := by decide +kernel
theorem dX7_isWhole_11 : decode cX7_isWhole 11 = .ok (.getfield 21, 3) := by decide +kernel
theorem dX7_isWhole_14 : decode cX7_isWhole 14 = .ok (.getfield 107, 3) := by decide +kernel
theorem dX7_isWhole_17 : decode cX7_isWhole 17 = .ok (.ifCond .ne 5, 3) := by decide +kernel
theorem dX7_isWhole_20 : decode cX7_isWhole 20 = .ok (.iconst 0, 1) := by decide +kernel
theorem dX7_isWhole_21 : decode cX7_isWhole 21 = .ok (.ireturn, 1) := by decide +kernel
theorem dX7_isWhole_22 : decode cX7_isWhole 22 = .ok (.iconst 0, 1) := by decide +kernel
theorem dX7_isWhole_23 : decode cX7_isWhole 23 = .ok (.istore_n 1, 1) := by decide +kernel
theorem dX7_isWhole_24 : decode cX7_isWhole 24 = .ok (.iload_n 1, 1) := by decide +kernel
theorem dX7_isWhole_25 : decode cX7_isWhole 25 = .ok (.aload_n 0, 1) := by decide +kernel
theorem dX7_isWhole_26 : decode cX7_isWhole 26 = .ok (.getfield 21, 3) := by decide +kernel
theorem dX7_isWhole_29 : decode cX7_isWhole 29 = .ok (.getfield 91, 3) := by decide +kernel
theorem dX7_isWhole_32 : decode cX7_isWhole 32 = .ok (.if_icmp .ge 43, 3) := by decide +kernel
theorem dX7_isWhole_35 : decode cX7_isWhole 35 = .ok (.iconst 0, 1) := by decide +kernel
theorem dX7_isWhole_36 : decode cX7_isWhole 36 = .ok (.istore_n 2, 1) := by decide +kernel
theorem dX7_isWhole_37 : decode cX7_isWhole 37 = .ok (.iload_n 2, 1) := by decide +kernel
theorem dX7_isWhole_38 : decode cX7_isWhole 38 = .ok (.iconst 3, 1) := by decide +kernel
theorem dX7_isWhole_39 : decode cX7_isWhole 39 = .ok (.if_icmp .ge 30, 3) := by decide +kernel
theorem dX7_isWhole_42 : decode cX7_isWhole 42 = .ok (.aload_n 0, 1) := by decide +kernel
theorem dX7_isWhole_43 : decode cX7_isWhole 43 = .ok (.getfield 21, 3) := by decide +kernel
theorem dX7_isWhole_46 : decode cX7_isWhole 46 = .ok (.aload_n 0, 1) := by decide +kernel
theorem dX7_isWhole_47 : decode cX7_isWhole 47 = .ok (.getfield 21, 3) := by decide +kernel
theorem dX7_isWhole_50 : decode cX7_isWhole 50 = .ok (.iload_n 1, 1) := by decide +kernel
theorem dX7_isWhole_51 : decode cX7_isWhole 51 = .ok (.iload_n 2, 1) := by decide +kernel
theorem dX7_isWhole_52 : decode cX7_isWhole 52 = .ok (.invokevirtual 110, 3) := by decide +kernel
theorem dX7_isWhole_55 : decode cX7_isWhole 55 = .ok (.invokevirtual 113, 3) := by decide +kernel
theorem dX7_isWhole_58 : decode cX7_isWhole 58 = .ok (.ifCond .ne 5, 3) := by decide +kernel
theorem dX7_isWhole_61 : decode cX7_isWhole 61 = .ok (.iconst 0, 1) := by decide +kernel
theorem dX7_isWhole_62 : decode cX7_isWhole 62 = .ok (.ireturn, 1) := by decide +kernel
theorem dX7_isWhole_63 : decode cX7_isWhole 63 = .ok (.iinc 2 1, 3) := by decide +kernel
theorem dX7_isWhole_66 : decode cX7_isWhole 66 = .ok (.goto (-29), 3) := by decide +kernel
theorem dX7_isWhole_69 : decode cX7_isWhole 69 = .ok (.iinc 1 1, 3) := by decide +kernel
theorem dX7_isWhole_72 : decode cX7_isWhole 72 = .ok (.goto (-48), 3) := by decide +kernel
theorem dX7_isWhole_75 : decode cX7_isWhole 75 = .ok (.iconst 1, 1) := by decide +kernel
theorem dX7_isWhole_76 : decode cX7_isWhole 76 = .ok (.ireturn, 1) := by decide +kernel
theorem dX7_kindOf_0 : decode cX7_kindOf 0 = .ok (.iconst 0, 1) := by decide +kernel
theorem dX7_kindOf_1 : decode cX7_kindOf 1 = .ok (.istore_n 3, 1) := by decide +kernel
theorem dX7_kindOf_2 : decode cX7_kindOf 2 = .ok (.iload_n 3, 1) := by decide +kernel
theorem dX7_kindOf_3 : decode cX7_kindOf 3 = .ok (.iconst 5, 1) := by decide +kernel
theorem dX7_kindOf_4 : decode cX7_kindOf 4 = .ok (.if_icmp .ge 24, 3) := by decide +kernel
theorem dX7_kindOf_7 : decode cX7_kindOf 7 = .ok (.aload_n 0, 1) := by decide +kernel
theorem dX7_kindOf_8 : decode cX7_kindOf 8 = .ok (.iload_n 3, 1) := by decide +kernel
theorem dX7_kindOf_9 : decode cX7_kindOf 9 = .ok (.invokestatic 116, 3) := by decide +kernel
theorem dX7_kindOf_12 : decode cX7_kindOf 12 = .ok (.iload_n 1, 1) := by decide +kernel
theorem dX7_kindOf_13 : decode cX7_kindOf 13 = .ok (.iload_n 2, 1) := by decide +kernel
theorem dX7_kindOf_14 : decode cX7_kindOf 14 = .ok (.invokevirtual 120, 3) := by decide +kernel
theorem dX7_kindOf_17 : decode cX7_kindOf 17 = .ok (.ifCond .eq 5, 3) := by decide +kernel
theorem dX7_kindOf_20 : decode cX7_kindOf 20 = .ok (.iload_n 3, 1) := by decide +kernel
theorem dX7_kindOf_21 : decode cX7_kindOf 21 = .ok (.ireturn, 1) := by decide +kernel
theorem dX7_kindOf_22 : decode cX7_kindOf 22 = .ok (.iinc 3 1, 3) := by decide +kernel
theorem dX7_kindOf_25 : decode cX7_kindOf 25 = .ok (.goto (-23), 3) := by decide +kernel
theorem dX7_kindOf_28 : decode cX7_kindOf 28 = .ok (.iconst (-1), 1) := by decide +kernel
theorem dX7_kindOf_29 : decode cX7_kindOf 29 = .ok (.ireturn, 1) := by decide +kernel
theorem dX7_isWord_0 : decode cX7_isWord 0 = .ok (.iload_n 3, 1) := by decide +kernel
theorem dX7_isWord_1 : decode cX7_isWord 1 = .ok (.iload_n 2, 1) := by decide +kernel
theorem dX7_isWord_2 : decode cX7_isWord 2 = .ok (.isub, 1) := by decide +kernel
theorem dX7_isWord_3 : decode cX7_isWord 3 = .ok (.aload_n 1, 1) := by decide +kernel
theorem dX7_isWord_4 : decode cX7_isWord 4 = .ok (.invokevirtual 124, 3) := by decide +kernel
theorem dX7_isWord_7 : decode cX7_isWord 7 = .ok (.if_icmp .eq 5, 3) := by decide +kernel
theorem dX7_isWord_10 : decode cX7_isWord 10 = .ok (.iconst 0, 1) := by decide +kernel
theorem dX7_isWord_11 : decode cX7_isWord 11 = .ok (.ireturn, 1) := by decide +kernel
theorem dX7_isWord_12 : decode cX7_isWord 12 = .ok (.iconst 0, 1) := by decide +kernel
theorem dX7_isWord_13 : decode cX7_isWord 13 = .ok (.istore 4, 2) := by decide +kernel
theorem dX7_isWord_15 : decode cX7_isWord 15 = .ok (.iload 4, 2) := by decide +kernel
theorem dX7_isWord_17 : decode cX7_isWord 17 = .ok (.aload_n 1, 1) := by decide +kernel
theorem dX7_isWord_18 : decode cX7_isWord 18 = .ok (.invokevirtual 124, 3) := by decide +kernel
theorem dX7_isWord_21 : decode cX7_isWord 21 = .ok (.if_icmp .ge 29, 3) := by decide +kernel
theorem dX7_isWord_24 : decode cX7_isWord 24 = .ok (.aload_n 0, 1) := by decide +kernel
theorem dX7_isWord_25 : decode cX7_isWord 25 = .ok (.getfield 9, 3) := by decide +kernel
theorem dX7_isWord_28 : decode cX7_isWord 28 = .ok (.iload_n 2, 1) := by decide +kernel
theorem dX7_isWord_29 : decode cX7_isWord 29 = .ok (.iload 4, 2) := by decide +kernel
theorem dX7_isWord_31 : decode cX7_isWord 31 = .ok (.iadd, 1) := by decide +kernel
theorem dX7_isWord_32 : decode cX7_isWord 32 = .ok (.iaload, 1) := by decide +kernel
theorem dX7_isWord_33 : decode cX7_isWord 33 = .ok (.aload_n 1, 1) := by decide +kernel
theorem dX7_isWord_34 : decode cX7_isWord 34 = .ok (.iload 4, 2) := by decide +kernel
theorem dX7_isWord_36 : decode cX7_isWord 36 = .ok (.invokevirtual 129, 3) := by decide +kernel
theorem dX7_isWord_39 : decode cX7_isWord 39 = .ok (.if_icmp .eq 5, 3) := by decide +kernel
theorem dX7_isWord_42 : decode cX7_isWord 42 = .ok (.iconst 0, 1) := by decide +kernel
theorem dX7_isWord_43 : decode cX7_isWord 43 = .ok (.ireturn, 1) := by decide +kernel
theorem dX7_isWord_44 : decode cX7_isWord 44 = .ok (.iinc 4 1, 3) := by decide +kernel
theorem dX7_isWord_47 : decode cX7_isWord 47 = .ok (.goto (-32), 3) := by decide +kernel
theorem dX7_isWord_50 : decode cX7_isWord 50 = .ok (.iconst 1, 1) := by decide +kernel
theorem dX7_isWord_51 : decode cX7_isWord 51 = .ok (.ireturn, 1) := by decide +kernel
theorem dX7_amountOf_0 : decode cX7_amountOf 0 = .ok (.iload_n 0, 1) := by decide +kernel
theorem dX7_amountOf_1 : decode cX7_amountOf 1 = .ok (.ifCond .ne 5, 3) := by decide +kernel
theorem dX7_amountOf_4 : decode cX7_amountOf 4 = .ok (.iconst 5, 1) := by decide +kernel
theorem dX7_amountOf_5 : decode cX7_amountOf 5 = .ok (.ireturn, 1) := by decide +kernel
theorem dX7_amountOf_6 : decode cX7_amountOf 6 = .ok (.iload_n 0, 1) := by decide +kernel
theorem dX7_amountOf_7 : decode cX7_amountOf 7 = .ok (.iconst 1, 1) := by decide +kernel
theorem dX7_amountOf_8 : decode cX7_amountOf 8 = .ok (.if_icmp .ne 7, 3) := by decide +kernel
theorem dX7_amountOf_11 : decode cX7_amountOf 11 = .ok (.iconst 2, 1) := by decide +kernel
theorem dX7_amountOf_12 : decode cX7_amountOf 12 = .ok (.goto 4, 3) := by decide +kernel
theorem dX7_amountOf_15 : decode cX7_amountOf 15 = .ok (.iconst 1, 1) := by decide +kernel
theorem dX7_amountOf_16 : decode cX7_amountOf 16 = .ok (.ireturn, 1) := by decide +kernel
theorem dX7_lowest_0 : decode cX7_lowest 0 = .ok (.iload_n 0, 1) := by decide +kernel
theorem dX7_lowest_1 : decode cX7_lowest 1 = .ok (.ifCond .ne 5, 3) := by decide +kernel
theorem dX7_lowest_4 : decode cX7_lowest 4 = .ok (.iconst 0, 1) := by decide +kernel
theorem dX7_lowest_5 : decode cX7_lowest 5 = .ok (.ireturn, 1) := by decide +kernel
theorem dX7_lowest_6 : decode cX7_lowest 6 = .ok (.iload_n 0, 1) := by decide +kernel
theorem dX7_lowest_7 : decode cX7_lowest 7 = .ok (.iconst 1, 1) := by decide +kernel
theorem dX7_lowest_8 : decode cX7_lowest 8 = .ok (.if_icmp .ne 7, 3) := by decide +kernel
theorem dX7_lowest_11 : decode cX7_lowest 11 = .ok (.iconst 1, 1) := by decide +kernel
theorem dX7_lowest_12 : decode cX7_lowest 12 = .ok (.goto 10, 3) := by decide +kernel
theorem dX7_lowest_15 : decode cX7_lowest 15 = .ok (.getstatic 133, 3) := by decide +kernel
theorem dX7_lowest_18 : decode cX7_lowest 18 = .ok (.iload_n 0, 1) := by decide +kernel
theorem dX7_lowest_19 : decode cX7_lowest 19 = .ok (.iconst 2, 1) := by decide +kernel
theorem dX7_lowest_20 : decode cX7_lowest 20 = .ok (.isub, 1) := by decide +kernel
theorem dX7_lowest_21 : decode cX7_lowest 21 = .ok (.iaload, 1) := by decide +kernel
theorem dX7_lowest_22 : decode cX7_lowest 22 = .ok (.ireturn, 1) := by decide +kernel
theorem dX7_highest_0 : decode cX7_highest 0 = .ok (.iload_n 0, 1) := by decide +kernel
theorem dX7_highest_1 : decode cX7_highest 1 = .ok (.ifCond .ne 9, 3) := by decide +kernel
theorem dX7_highest_4 : decode cX7_highest 4 = .ok (.getstatic 136, 3) := by decide +kernel
theorem dX7_highest_7 : decode cX7_highest 7 = .ok (.iload_n 1, 1) := by decide +kernel
theorem dX7_highest_8 : decode cX7_highest 8 = .ok (.iaload, 1) := by decide +kernel
theorem dX7_highest_9 : decode cX7_highest 9 = .ok (.ireturn, 1) := by decide +kernel
theorem dX7_highest_10 : decode cX7_highest 10 = .ok (.iload_n 0, 1) := by decide +kernel
theorem dX7_highest_11 : decode cX7_highest 11 = .ok (.iconst 1, 1) := by decide +kernel
theorem dX7_highest_12 : decode cX7_highest 12 = .ok (.if_icmp .ne 11, 3) := by decide +kernel
theorem dX7_highest_15 : decode cX7_highest 15 = .ok (.getstatic 139, 3) := by decide +kernel
theorem dX7_highest_18 : decode cX7_highest 18 = .ok (.iload_n 1, 1) := by decide +kernel
theorem dX7_highest_19 : decode cX7_highest 19 = .ok (.iaload, 1) := by decide +kernel
theorem dX7_highest_20 : decode cX7_highest 20 = .ok (.goto 10, 3) := by decide +kernel
theorem dX7_highest_23 : decode cX7_highest 23 = .ok (.getstatic 142, 3) := by decide +kernel
theorem dX7_highest_26 : decode cX7_highest 26 = .ok (.iload_n 0, 1) := by decide +kernel
theorem dX7_highest_27 : decode cX7_highest 27 = .ok (.iconst 2, 1) := by decide +kernel
theorem dX7_highest_28 : decode cX7_highest 28 = .ok (.isub, 1) := by decide +kernel
theorem dX7_highest_29 : decode cX7_highest 29 = .ok (.iaload, 1) := by decide +kernel
theorem dX7_highest_30 : decode cX7_highest 30 = .ok (.ireturn, 1) := by decide +kernel
theorem dX7_skipBlanks_0 : decode cX7_skipBlanks 0 = .ok (.aload_n 0, 1) := by decide +kernel
theorem dX7_skipBlanks_1 : decode cX7_skipBlanks 1 = .ok (.getfield 32, 3) := by decide +kernel
theorem dX7_skipBlanks_4 : decode cX7_skipBlanks 4 = .ok (.aload_n 0, 1) := by decide +kernel
theorem dX7_skipBlanks_5 : decode cX7_skipBlanks 5 = .ok (.getfield 25, 3) := by decide +kernel
theorem dX7_skipBlanks_8 : decode cX7_skipBlanks 8 = .ok (.if_icmp .ge 44, 3) := by decide +kernel
theorem dX7_skipBlanks_11 : decode cX7_skipBlanks 11 = .ok (.aload_n 0, 1) := by decide +kernel
theorem dX7_skipBlanks_12 : decode cX7_skipBlanks 12 = .ok (.getfield 9, 3) := by decide +kernel
theorem dX7_skipBlanks_15 : decode cX7_skipBlanks 15 = .ok (.aload_n 0, 1) := by decide +kernel
theorem dX7_skipBlanks_16 : decode cX7_skipBlanks 16 = .ok (.getfield 32, 3) := by decide +kernel
theorem dX7_skipBlanks_19 : decode cX7_skipBlanks 19 = .ok (.iaload, 1) := by decide +kernel
theorem dX7_skipBlanks_20 : decode cX7_skipBlanks 20 = .ok (.bipush 32, 2) := by decide +kernel
theorem dX7_skipBlanks_22 : decode cX7_skipBlanks 22 = .ok (.if_icmp .eq 17, 3) := by decide +kernel
theorem dX7_skipBlanks_25 : decode cX7_skipBlanks 25 = .ok (.aload_n 0, 1) := by decide +kernel
theorem dX7_skipBlanks_26 : decode cX7_skipBlanks 26 = .ok (.getfield 9, 3) := by decide +kernel
theorem dX7_skipBlanks_29 : decode cX7_skipBlanks 29 = .ok (.aload_n 0, 1) := by decide +kernel
theorem dX7_skipBlanks_30 : decode cX7_skipBlanks 30 = .ok (.getfield 32, 3) := by decide +kernel
theorem dX7_skipBlanks_33 : decode cX7_skipBlanks 33 = .ok (.iaload, 1) := by decide +kernel
theorem dX7_skipBlanks_34 : decode cX7_skipBlanks 34 = .ok (.bipush 10, 2) := by decide +kernel
theorem dX7_skipBlanks_36 : decode cX7_skipBlanks 36 = .ok (.if_icmp .ne 16, 3) := by decide +kernel
theorem dX7_skipBlanks_39 : decode cX7_skipBlanks 39 = .ok (.aload_n 0, 1) := by decide +kernel
theorem dX7_skipBlanks_40 : decode cX7_skipBlanks 40 = .ok (.dup, 1) := by decide +kernel
theorem dX7_skipBlanks_41 : decode cX7_skipBlanks 41 = .ok (.getfield 32, 3) := by decide +kernel
theorem dX7_skipBlanks_44 : decode cX7_skipBlanks 44 = .ok (.iconst 1, 1) := by decide +kernel
theorem dX7_skipBlanks_45 : decode cX7_skipBlanks 45 = .ok (.iadd, 1) := by decide +kernel
theorem dX7_skipBlanks_46 : decode cX7_skipBlanks 46 = .ok (.putfield 32, 3) := by decide +kernel
theorem dX7_skipBlanks_49 : decode cX7_skipBlanks 49 = .ok (.goto (-49), 3) := by decide +kernel
theorem dX7_skipBlanks_52 : decode cX7_skipBlanks 52 = .ok (.return_, 1) := by decide +kernel
theorem dX7_isLetter_0 : decode cX7_isLetter 0 = .ok (.iload_n 0, 1) := by decide +kernel
theorem dX7_isLetter_1 : decode cX7_isLetter 1 = .ok (.bipush 97, 2) := by decide +kernel
theorem dX7_isLetter_3 : decode cX7_isLetter 3 = .ok (.if_icmp .lt 13, 3) := by decide +kernel
theorem dX7_isLetter_6 : decode cX7_isLetter 6 = .ok (.iload_n 0, 1) := by decide +kernel
theorem dX7_isLetter_7 : decode cX7_isLetter 7 = .ok (.bipush 122, 2) := by decide +kernel
theorem dX7_isLetter_9 : decode cX7_isLetter 9 = .ok (.if_icmp .gt 7, 3) := by decide +kernel
theorem dX7_isLetter_12 : decode cX7_isLetter 12 = .ok (.iconst 1, 1) := by decide +kernel
theorem dX7_isLetter_13 : decode cX7_isLetter 13 = .ok (.goto 4, 3) := by decide +kernel
theorem dX7_isLetter_16 : decode cX7_isLetter 16 = .ok (.iconst 0, 1) := by decide +kernel
theorem dX7_isLetter_17 : decode cX7_isLetter 17 = .ok (.ireturn, 1) := by decide +kernel
theorem dX7_isDigit_0 : decode cX7_isDigit 0 = .ok (.iload_n 0, 1) := by decide +kernel
theorem dX7_isDigit_1 : decode cX7_isDigit 1 = .ok (.bipush 48, 2) := by decide +kernel
theorem dX7_isDigit_3 : decode cX7_isDigit 3 = .ok (.if_icmp .lt 13, 3) := by decide +kernel
theorem dX7_isDigit_6 : decode cX7_isDigit 6 = .ok (.iload_n 0, 1) := by decide +kernel
theorem dX7_isDigit_7 : decode cX7_isDigit 7 = .ok (.bipush 57, 2) := by decide +kernel
theorem dX7_isDigit_9 : decode cX7_isDigit 9 = .ok (.if_icmp .gt 7, 3) := by decide +kernel
theorem dX7_isDigit_12 : decode cX7_isDigit 12 = .ok (.iconst 1, 1) := by decide +kernel
theorem dX7_isDigit_13 : decode cX7_isDigit 13 = .ok (.goto 4, 3) := by decide +kernel
theorem dX7_isDigit_16 : decode cX7_isDigit 16 = .ok (.iconst 0, 1) := by decide +kernel
theorem dX7_isDigit_17 : decode cX7_isDigit 17 = .ok (.ireturn, 1) := by decide +kernel
theorem dX8_init_0 : decode cX8_init 0 = .ok (.aload_n 0, 1) := by decide +kernel
theorem dX8_init_1 : decode cX8_init 1 = .ok (.invokespecial 3, 3) := by decide +kernel
theorem dX8_init_4 : decode cX8_init 4 = .ok (.aload_n 0, 1) := by decide +kernel
theorem dX8_init_5 : decode cX8_init 5 = .ok (.bipush 40, 2) := by decide +kernel
theorem dX8_init_7 : decode cX8_init 7 = .ok (.newarray .int, 2) := by decide +kernel
theorem dX8_init_9 : decode cX8_init 9 = .ok (.putfield 9, 3) := by decide +kernel
theorem dX8_init_12 : decode cX8_init 12 = .ok (.aload_n 0, 1) := by decide +kernel
theorem dX8_init_13 : decode cX8_init 13 = .ok (.bipush 10, 2) := by decide +kernel
theorem dX8_init_15 : decode cX8_init 15 = .ok (.newarray .int, 2) := by decide +kernel
theorem dX8_init_17 : decode cX8_init 17 = .ok (.putfield 15, 3) := by decide +kernel
theorem dX8_init_20 : decode cX8_init 20 = .ok (.aload_n 0, 1) := by decide +kernel
theorem dX8_init_21 : decode cX8_init 21 = .ok (.iconst 3, 1) := by decide +kernel
theorem dX8_init_22 : decode cX8_init 22 = .ok (.newarray .int, 2) := by decide +kernel
theorem dX8_init_24 : decode cX8_init 24 = .ok (.putfield 18, 3) := by decide +kernel
theorem dX8_init_27 : decode cX8_init 27 = .ok (.getstatic 21, 3) := by decide +kernel
theorem dX8_init_30 : decode cX8_init 30 = .ok (.iconst 0, 1) := by decide +kernel
theorem dX8_init_31 : decode cX8_init 31 = .ok (.aload_n 0, 1) := by decide +kernel
theorem dX8_init_32 : decode cX8_init 32 = .ok (.getfield 18, 3) := by decide +kernel
theorem dX8_init_35 : decode cX8_init 35 = .ok (.iconst 0, 1) := by decide +kernel
theorem dX8_init_36 : decode cX8_init 36 = .ok (.iconst 3, 1) := by decide +kernel
theorem dX8_init_37 : decode cX8_init 37 = .ok (.invokestatic 24, 3) := by decide +kernel
theorem dX8_init_40 : decode cX8_init 40 = .ok (.return_, 1) := by decide +kernel
theorem dX8_clear_0 : decode cX8_clear 0 = .ok (.aload_n 0, 1) := by decide +kernel
theorem dX8_clear_1 : decode cX8_clear 1 = .ok (.iconst 0, 1) := by decide +kernel
theorem dX8_clear_2 : decode cX8_clear 2 = .ok (.putfield 30, 3) := by decide +kernel
theorem dX8_clear_5 : decode cX8_clear 5 = .ok (.aload_n 0, 1) := by decide +kernel
theorem dX8_clear_6 : decode cX8_clear 6 = .ok (.iconst 0, 1) := by decide +kernel
theorem dX8_clear_7 : decode cX8_clear 7 = .ok (.putfield 34, 3) := by decide +kernel
theorem dX8_clear_10 : decode cX8_clear 10 = .ok (.getstatic 21, 3) := by decide +kernel
theorem dX8_clear_13 : decode cX8_clear 13 = .ok (.iconst 0, 1) := by decide +kernel
theorem dX8_clear_14 : decode cX8_clear 14 = .ok (.aload_n 0, 1) := by decide +kernel
theorem dX8_clear_15 : decode cX8_clear 15 = .ok (.getfield 18, 3) := by decide +kernel
theorem dX8_clear_18 : decode cX8_clear 18 = .ok (.iconst 0, 1) := by decide +kernel
theorem dX8_clear_19 : decode cX8_clear 19 = .ok (.iconst 3, 1) := by decide +kernel
theorem dX8_clear_20 : decode cX8_clear 20 = .ok (.invokestatic 24, 3) := by decide +kernel
theorem dX8_clear_23 : decode cX8_clear 23 = .ok (.return_, 1) := by decide +kernel
theorem dX8_copy_0 : decode cX8_copy 0 = .ok (.aload_n 0, 1) := by decide +kernel
theorem dX8_copy_1 : decode cX8_copy 1 = .ok (.aload_n 1, 1) := by decide +kernel
theorem dX8_copy_2 : decode cX8_copy 2 = .ok (.getfield 30, 3) := by decide +kernel
theorem dX8_copy_5 : decode cX8_copy 5 = .ok (.putfield 30, 3) := by decide +kernel
theorem dX8_copy_8 : decode cX8_copy 8 = .ok (.aload_n 0, 1) := by decide +kernel
theorem dX8_copy_9 : decode cX8_copy 9 = .ok (.aload_n 1, 1) := by decide +kernel
theorem dX8_copy_10 : decode cX8_copy 10 = .ok (.getfield 34, 3) := by decide +kernel
theorem dX8_copy_13 : decode cX8_copy 13 = .ok (.putfield 34, 3) := by decide +kernel
theorem dX8_copy_16 : decode cX8_copy 16 = .ok (.aload_n 1, 1) := by decide +kernel
theorem dX8_copy_17 : decode cX8_copy 17 = .ok (.getfield 9, 3) := by decide +kernel
theorem dX8_copy_20 : decode cX8_copy 20 = .ok (.iconst 0, 1) := by decide +kernel
theorem dX8_copy_21 : decode cX8_copy 21 = .ok (.aload_n 0, 1) := by decide +kernel
theorem dX8_copy_22 : decode cX8_copy 22 = .ok (.getfield 9, 3) := by decide +kernel
theorem dX8_copy_25 : decode cX8_copy 25 = .ok (.iconst 0, 1) := by decide +kernel
theorem dX8_copy_26 : decode cX8_copy 26 = .ok (.bipush 40, 2) := by decide +kernel
theorem dX8_copy_28 : decode cX8_copy 28 = .ok (.invokestatic 24, 3) := by decide +kernel
theorem dX8_copy_31 : decode cX8_copy 31 = .ok (.aload_n 1, 1) := by decide +kernel
theorem dX8_copy_32 : decode cX8_copy 32 = .ok (.getfield 15, 3) := by decide +kernel
theorem dX8_copy_35 : decode cX8_copy 35 = .ok (.iconst 0, 1) := by decide +kernel
theorem dX8_copy_36 : decode cX8_copy 36 = .ok (.aload_n 0, 1) := by decide +kernel
theorem dX8_copy_37 : decode cX8_copy 37 = .ok (.getfield 15, 3) := by decide +kernel
theorem dX8_copy_40 : decode cX8_copy 40 = .ok (.iconst 0, 1) := by decide +kernel
theorem dX8_copy_41 : decode cX8_copy 41 = .ok (.bipush 10, 2) := by decide +kernel
theorem dX8_copy_43 : decode cX8_copy 43 = .ok (.invokestatic 24, 3) := by decide +kernel
theorem dX8_copy_46 : decode cX8_copy 46 = .ok (.aload_n 1, 1) := by decide +kernel
theorem dX8_copy_47 : decode cX8_copy 47 = .ok (.getfield 18, 3) := by decide +kernel
theorem dX8_copy_50 : decode cX8_copy 50 = .ok (.iconst 0, 1) := by decide +kernel
theorem dX8_copy_51 : decode cX8_copy 51 = .ok (.aload_n 0, 1) := by decide +kernel
theorem dX8_copy_52 : decode cX8_copy 52 = .ok (.getfield 18, 3) := by decide +kernel
theorem dX8_copy_55 : decode cX8_copy 55 = .ok (.iconst 0, 1) := by decide +kernel
theorem dX8_copy_56 : decode cX8_copy 56 = .ok (.iconst 3, 1) := by decide +kernel
theorem dX8_copy_57 : decode cX8_copy 57 = .ok (.invokestatic 24, 3) := by decide +kernel
theorem dX8_copy_60 : decode cX8_copy 60 = .ok (.return_, 1) := by decide +kernel
theorem dX8_hasClass_0 : decode cX8_hasClass 0 = .ok (.iload_n 1, 1) := by decide +kernel
theorem dX8_hasClass_1 : decode cX8_hasClass 1 = .ok (.ifCond .lt 15, 3) := by decide +kernel
theorem dX8_hasClass_4 : decode cX8_hasClass 4 = .ok (.iload_n 1, 1) := by decide +kernel
theorem dX8_hasClass_5 : decode cX8_hasClass 5 = .ok (.aload_n 0, 1) := by decide +kernel
theorem dX8_hasClass_6 : decode cX8_hasClass 6 = .ok (.getfield 30, 3) := by decide +kernel
theorem dX8_hasClass_9 : decode cX8_hasClass 9 = .ok (.if_icmp .ge 7, 3) := by decide +kernel
theorem dX8_hasClass_12 : decode cX8_hasClass 12 = .ok (.iconst 1, 1) := by decide +kernel
theorem dX8_hasClass_13 : decode cX8_hasClass 13 = .ok (.goto 4, 3) := by decide +kernel
theorem dX8_hasClass_16 : decode cX8_hasClass 16 = .ok (.iconst 0, 1) := by decide +kernel
theorem dX8_hasClass_17 : decode cX8_hasClass 17 = .ok (.ireturn, 1) := by decide +kernel
theorem dX8_hasSort_0 : decode cX8_hasSort 0 = .ok (.iload_n 1, 1) := by decide +kernel
theorem dX8_hasSort_1 : decode cX8_hasSort 1 = .ok (.ifCond .lt 15, 3) := by decide +kernel
theorem dX8_hasSort_4 : decode cX8_hasSort 4 = .ok (.iload_n 1, 1) := by decide +kernel
theorem dX8_hasSort_5 : decode cX8_hasSort 5 = .ok (.aload_n 0, 1) := by decide +kernel
theorem dX8_hasSort_6 : decode cX8_hasSort 6 = .ok (.getfield 34, 3) := by decide +kernel
theorem dX8_hasSort_9 : decode cX8_hasSort 9 = .ok (.if_icmp .ge 7, 3) := by decide +kernel
theorem dX8_hasSort_12 : decode cX8_hasSort 12 = .ok (.iconst 1, 1) := by decide +kernel
theorem dX8_hasSort_13 : decode cX8_hasSort 13 = .ok (.goto 4, 3) := by decide +kernel
theorem dX8_hasSort_16 : decode cX8_hasSort 16 = .ok (.iconst 0, 1) := by decide +kernel
theorem dX8_hasSort_17 : decode cX8_hasSort 17 = .ok (.ireturn, 1) := by decide +kernel
theorem dX8_part_0 : decode cX8_part 0 = .ok (.aload_n 0, 1) := by decide +kernel
theorem dX8_part_1 : decode cX8_part 1 = .ok (.getfield 9, 3) := by decide +kernel
theorem dX8_part_4 : decode cX8_part 4 = .ok (.iload_n 1, 1) := by decide +kernel
theorem dX8_part_5 : decode cX8_part 5 = .ok (.iconst 5, 1) := by decide +kernel
theorem dX8_part_6 : decode cX8_part 6 = .ok (.imul, 1) := by decide +kernel
theorem dX8_part_7 : decode cX8_part 7 = .ok (.iload_n 2, 1) := by decide +kernel
theorem dX8_part_8 : decode cX8_part 8 = .ok (.iadd, 1) := by decide +kernel
theorem dX8_part_9 : decode cX8_part 9 = .ok (.iaload, 1) := by decide +kernel
theorem dX8_part_10 : decode cX8_part 10 = .ok (.ireturn, 1) := by decide +kernel
theorem dX8_setPart_0 : decode cX8_setPart 0 = .ok (.aload_n 0, 1) := by decide +kernel
theorem dX8_setPart_1 : decode cX8_setPart 1 = .ok (.getfield 9, 3) := by decide +kernel
theorem dX8_setPart_4 : decode cX8_setPart 4 = .ok (.iload_n 1, 1) := by decide +kernel
theorem dX8_setPart_5 : decode cX8_setPart 5 = .ok (.iconst 5, 1) := by decide +kernel
theorem dX8_setPart_6 : decode cX8_setPart 6 = .ok (.imul, 1) := by decide +kernel
theorem dX8_setPart_7 : decode cX8_setPart 7 = .ok (.iload_n 2, 1) := by decide +kernel
theorem dX8_setPart_8 : decode cX8_setPart 8 = .ok (.iadd, 1) := by decide +kernel
theorem dX8_setPart_9 : decode cX8_setPart 9 = .ok (.iload_n 3, 1) := by decide +kernel
theorem dX8_setPart_10 : decode cX8_setPart 10 = .ok (.iastore, 1) := by decide +kernel
theorem dX8_setPart_11 : decode cX8_setPart 11 = .ok (.return_, 1) := by decide +kernel
theorem dX8_next_0 : decode cX8_next 0 = .ok (.aload_n 0, 1) := by decide +kernel
theorem dX8_next_1 : decode cX8_next 1 = .ok (.getfield 9, 3) := by decide +kernel
theorem dX8_next_4 : decode cX8_next 4 = .ok (.iload_n 1, 1) := by decide +kernel
theorem dX8_next_5 : decode cX8_next 5 = .ok (.iconst 5, 1) := by decide +kernel
theorem dX8_next_6 : decode cX8_next 6 = .ok (.imul, 1) := by decide +kernel
theorem dX8_next_7 : decode cX8_next 7 = .ok (.iconst 1, 1) := by decide +kernel
theorem dX8_next_8 : decode cX8_next 8 = .ok (.iadd, 1) := by decide +kernel
theorem dX8_next_9 : decode cX8_next 9 = .ok (.iconst 2, 1) := by decide +kernel
theorem dX8_next_10 : decode cX8_next 10 = .ok (.iload_n 2, 1) := by decide +kernel
theorem dX8_next_11 : decode cX8_next 11 = .ok (.invokestatic 37, 3) := by decide +kernel
theorem dX8_next_14 : decode cX8_next 14 = .ok (.iadd, 1) := by decide +kernel
theorem dX8_next_15 : decode cX8_next 15 = .ok (.iaload, 1) := by decide +kernel
theorem dX8_next_16 : decode cX8_next 16 = .ok (.ireturn, 1) := by decide +kernel
theorem dX8_sortPart_0 : decode cX8_sortPart 0 = .ok (.aload_n 0, 1) := by decide +kernel
theorem dX8_sortPart_1 : decode cX8_sortPart 1 = .ok (.getfield 15, 3) := by decide +kernel
theorem dX8_sortPart_4 : decode cX8_sortPart 4 = .ok (.iload_n 1, 1) := by decide +kernel
theorem dX8_sortPart_5 : decode cX8_sortPart 5 = .ok (.iconst 2, 1) := by decide +kernel
theorem dX8_sortPart_6 : decode cX8_sortPart 6 = .ok (.imul, 1) := by decide +kernel
theorem dX8_sortPart_7 : decode cX8_sortPart 7 = .ok (.iload_n 2, 1) := by decide +kernel
theorem dX8_sortPart_8 : decode cX8_sortPart 8 = .ok (.iadd, 1) := by decide +kernel
theorem dX8_sortPart_9 : decode cX8_sortPart 9 = .ok (.iaload, 1) := by decide +kernel
theorem dX8_sortPart_10 : decode cX8_sortPart 10 = .ok (.ireturn, 1) := by decide +kernel
theorem dX8_setSortPart_0 : decode cX8_setSortPart 0 = .ok (.aload_n 0, 1) := by decide +kernel
theorem dX8_setSortPart_1 : decode cX8_setSortPart 1 = .ok (.getfield 15, 3) := by decide +kernel
theorem dX8_setSortPart_4 : decode cX8_setSortPart 4 = .ok (.iload_n 1, 1) := by decide +kernel
theorem dX8_setSortPart_5 : decode cX8_setSortPart 5 = .ok (.iconst 2, 1) := by decide +kernel
theorem dX8_setSortPart_6 : decode cX8_setSortPart 6 = .ok (.imul, 1) := by decide +kernel
theorem dX8_setSortPart_7 : decode cX8_setSortPart 7 = .ok (.iload_n 2, 1) := by decide +kernel
theorem dX8_setSortPart_8 : decode cX8_setSortPart 8 = .ok (.iadd, 1) := by decide +kernel
theorem dX8_setSortPart_9 : decode cX8_setSortPart 9 = .ok (.iload_n 3, 1) := by decide +kernel
theorem dX8_setSortPart_10 : decode cX8_setSortPart 10 = .ok (.iastore, 1) := by decide +kernel
theorem dX8_setSortPart_11 : decode cX8_setSortPart 11 = .ok (.return_, 1) := by decide +kernel
theorem dX8_addSort_0 : decode cX8_addSort 0 = .ok (.aload_n 0, 1) := by decide +kernel
theorem dX8_addSort_1 : decode cX8_addSort 1 = .ok (.aload_n 0, 1) := by decide +kernel
theorem dX8_addSort_2 : decode cX8_addSort 2 = .ok (.getfield 34, 3) := by decide +kernel
theorem dX8_addSort_5 : decode cX8_addSort 5 = .ok (.iconst 0, 1) := by decide +kernel
theorem dX8_addSort_6 : decode cX8_addSort 6 = .ok (.iload_n 1, 1) := by decide +kernel
theorem dX8_addSort_7 : decode cX8_addSort 7 = .ok (.invokevirtual 43, 3) := by decide +kernel
theorem dX8_addSort_10 : decode cX8_addSort 10 = .ok (.aload_n 0, 1) := by decide +kernel
theorem dX8_addSort_11 : decode cX8_addSort 11 = .ok (.aload_n 0, 1) := by decide +kernel
theorem dX8_addSort_12 : decode cX8_addSort 12 = .ok (.getfield 34, 3) := by decide +kernel
theorem dX8_addSort_15 : decode cX8_addSort 15 = .ok (.iconst 1, 1) := by decide +kernel
theorem dX8_addSort_16 : decode cX8_addSort 16 = .ok (.iload_n 2, 1) := by decide +kernel
theorem dX8_addSort_17 : decode cX8_addSort 17 = .ok (.invokevirtual 43, 3) := by decide +kernel
theorem dX8_addSort_20 : decode cX8_addSort 20 = .ok (.aload_n 0, 1) := by decide +kernel
theorem dX8_addSort_21 : decode cX8_addSort 21 = .ok (.dup, 1) := by decide +kernel
theorem dX8_addSort_22 : decode cX8_addSort 22 = .ok (.getfield 34, 3) := by decide +kernel
theorem dX8_addSort_25 : decode cX8_addSort 25 = .ok (.iconst 1, 1) := by decide +kernel
theorem dX8_addSort_26 : decode cX8_addSort 26 = .ok (.iadd, 1) := by decide +kernel
theorem dX8_addSort_27 : decode cX8_addSort 27 = .ok (.putfield 34, 3) := by decide +kernel
theorem dX8_addSort_30 : decode cX8_addSort 30 = .ok (.return_, 1) := by decide +kernel
theorem dX8_removeSort_0 : decode cX8_removeSort 0 = .ok (.iload_n 1, 1) := by decide +kernel
theorem dX8_removeSort_1 : decode cX8_removeSort 1 = .ok (.iconst 1, 1) := by decide +kernel
theorem dX8_removeSort_2 : decode cX8_removeSort 2 = .ok (.iadd, 1) := by decide +kernel
theorem dX8_removeSort_3 : decode cX8_removeSort 3 = .ok (.istore_n 2, 1) := by decide +kernel
theorem dX8_removeSort_4 : decode cX8_removeSort 4 = .ok (.iload_n 2, 1) := by decide +kernel
theorem dX8_removeSort_5 : decode cX8_removeSort 5 = .ok (.aload_n 0, 1) := by decide +kernel
theorem dX8_removeSort_6 : decode cX8_removeSort 6 = .ok (.getfield 34, 3) := by decide +kernel
theorem dX8_removeSort_9 : decode cX8_removeSort 9 = .ok (.if_icmp .ge 37, 3) := by decide +kernel
theorem dX8_removeSort_12 : decode cX8_removeSort 12 = .ok (.aload_n 0, 1) := by decide +kernel
theorem dX8_removeSort_13 : decode cX8_removeSort 13 = .ok (.iload_n 2, 1) := by decide +kernel
theorem dX8_removeSort_14 : decode cX8_removeSort 14 = .ok (.iconst 1, 1) := by decide +kernel
theorem dX8_removeSort_15 : decode cX8_removeSort 15 = .ok (.isub, 1) := by decide +kernel
theorem dX8_removeSort_16 : decode cX8_removeSort 16 = .ok (.iconst 0, 1) := by decide +kernel
theorem dX8_removeSort_17 : decode cX8_removeSort 17 = .ok (.aload_n 0, 1) := by decide +kernel
theorem dX8_removeSort_18 : decode cX8_removeSort 18 = .ok (.iload_n 2, 1) := by decide +kernel
theorem dX8_removeSort_19 : decode cX8_removeSort 19 = .ok (.iconst 0, 1) := by decide +kernel
theorem dX8_removeSort_20 : decode cX8_removeSort 20 = .ok (.invokevirtual 47, 3) := by decide +kernel
theorem dX8_removeSort_23 : decode cX8_removeSort 23 = .ok (.invokevirtual 43, 3) := by decide +kernel
theorem dX8_removeSort_26 : decode cX8_removeSort 26 = .ok (.aload_n 0, 1) := by decide +kernel
theorem dX8_removeSort_27 : decode cX8_removeSort 27 = .ok (.iload_n 2, 1) := by decide +kernel
theorem dX8_removeSort_28 : decode cX8_removeSort 28 = .ok (.iconst 1, 1) := by decide +kernel
theorem dX8_removeSort_29 : decode cX8_removeSort 29 = .ok (.isub, 1) := by decide +kernel
theorem dX8_removeSort_30 : decode cX8_removeSort 30 = .ok (.iconst 1, 1) := by decide +kernel
theorem dX8_removeSort_31 : decode cX8_removeSort 31 = .ok (.aload_n 0, 1) := by decide +kernel
theorem dX8_removeSort_32 : decode cX8_removeSort 32 = .ok (.iload_n 2, 1) := by decide +kernel
theorem dX8_removeSort_33 : decode cX8_removeSort 33 = .ok (.iconst 1, 1) := by decide +kernel
theorem dX8_removeSort_34 : decode cX8_removeSort 34 = .ok (.invokevirtual 47, 3) := by decide +kernel
theorem dX8_removeSort_37 : decode cX8_removeSort 37 = .ok (.invokevirtual 43, 3) := by decide +kernel
theorem dX8_removeSort_40 : decode cX8_removeSort 40 = .ok (.iinc 2 1, 3) := by decide +kernel
theorem dX8_removeSort_43 : decode cX8_removeSort 43 = .ok (.goto (-39), 3) := by decide +kernel
theorem dX8_removeSort_46 : decode cX8_removeSort 46 = .ok (.aload_n 0, 1) := by decide +kernel
theorem dX8_removeSort_47 : decode cX8_removeSort 47 = .ok (.dup, 1) := by decide +kernel
theorem dX8_removeSort_48 : decode cX8_removeSort 48 = .ok (.getfield 34, 3) := by decide +kernel
theorem dX8_removeSort_51 : decode cX8_removeSort 51 = .ok (.iconst 1, 1) := by decide +kernel
theorem dX8_removeSort_52 : decode cX8_removeSort 52 = .ok (.isub, 1) := by decide +kernel
theorem dX8_removeSort_53 : decode cX8_removeSort 53 = .ok (.putfield 34, 3) := by decide +kernel
theorem dX8_removeSort_56 : decode cX8_removeSort 56 = .ok (.return_, 1) := by decide +kernel
theorem dX8_chances_0 : decode cX8_chances 0 = .ok (.aload_n 0, 1) := by decide +kernel
theorem dX8_chances_1 : decode cX8_chances 1 = .ok (.getfield 18, 3) := by decide +kernel
theorem dX8_chances_4 : decode cX8_chances 4 = .ok (.iconst 0, 1) := by decide +kernel
theorem dX8_chances_5 : decode cX8_chances 5 = .ok (.iaload, 1) := by decide +kernel
theorem dX8_chances_6 : decode cX8_chances 6 = .ok (.ireturn, 1) := by decide +kernel
theorem dX8_odds_0 : decode cX8_odds 0 = .ok (.aload_n 0, 1) := by decide +kernel
theorem dX8_odds_1 : decode cX8_odds 1 = .ok (.getfield 18, 3) := by decide +kernel
theorem dX8_odds_4 : decode cX8_odds 4 = .ok (.iconst 1, 1) := by decide +kernel
theorem dX8_odds_5 : decode cX8_odds 5 = .ok (.iaload, 1) := by decide +kernel
theorem dX8_odds_6 : decode cX8_odds 6 = .ok (.ireturn, 1) := by decide +kernel
theorem dX8_own_0 : decode cX8_own 0 = .ok (.aload_n 0, 1) := by decide +kernel
theorem dX8_own_1 : decode cX8_own 1 = .ok (.getfield 18, 3) := by decide +kernel
theorem dX8_own_4 : decode cX8_own 4 = .ok (.iconst 2, 1) := by decide +kernel
theorem dX8_own_5 : decode cX8_own 5 = .ok (.iaload, 1) := by decide +kernel
theorem dX8_own_6 : decode cX8_own 6 = .ok (.ireturn, 1) := by decide +kernel
theorem dX8_ownOf_0 : decode cX8_ownOf 0 = .ok (.aload_n 0, 1) := by decide +kernel
theorem dX8_ownOf_1 : decode cX8_ownOf 1 = .ok (.invokevirtual 50, 3) := by decide +kernel
theorem dX8_ownOf_4 : decode cX8_ownOf 4 = .ok (.aload_n 0, 1) := by decide +kernel
theorem dX8_ownOf_5 : decode cX8_ownOf 5 = .ok (.iload_n 1, 1) := by decide +kernel
theorem dX8_ownOf_6 : decode cX8_ownOf 6 = .ok (.iconst 0, 1) := by decide +kernel
theorem dX8_ownOf_7 : decode cX8_ownOf 7 = .ok (.invokevirtual 47, 3) := by decide +kernel
theorem dX8_ownOf_10 : decode cX8_ownOf 10 = .ok (.invokestatic 37, 3) := by decide +kernel
theorem dX8_ownOf_13 : decode cX8_ownOf 13 = .ok (.ireturn, 1) := by decide +kernel
theorem dX8_allWeights_0 : decode cX8_allWeights 0 = .ok (.iconst 0, 1) := by decide +kernel
theorem dX8_allWeights_1 : decode cX8_allWeights 1 = .ok (.istore_n 1, 1) := by decide +kernel
theorem dX8_allWeights_2 : decode cX8_allWeights 2 = .ok (.iconst 0, 1) := by decide +kernel
theorem dX8_allWeights_3 : decode cX8_allWeights 3 = .ok (.istore_n 2, 1) := by decide +kernel
theorem dX8_allWeights_4 : decode cX8_allWeights 4 = .ok (.iload_n 2, 1) := by decide +kernel
theorem dX8_allWeights_5 : decode cX8_allWeights 5 = .ok (.aload_n 0, 1) := by decide +kernel
theorem dX8_allWeights_6 : decode cX8_allWeights 6 = .ok (.getfield 34, 3) := by decide +kernel
theorem dX8_allWeights_9 : decode cX8_allWeights 9 = .ok (.if_icmp .ge 18, 3) := by decide +kernel
theorem dX8_allWeights_12 : decode cX8_allWeights 12 = .ok (.iload_n 1, 1) := by decide +kernel
theorem dX8_allWeights_13 : decode cX8_allWeights 13 = .ok (.aload_n 0, 1) := by decide +kernel
theorem dX8_allWeights_14 : decode cX8_allWeights 14 = .ok (.iload_n 2, 1) := by decide +kernel
theorem dX8_allWeights_15 : decode cX8_allWeights 15 = .ok (.iconst 1, 1) := by decide +kernel
theorem dX8_allWeights_16 : decode cX8_allWeights 16 = .ok (.invokevirtual 47, 3) := by decide +kernel
theorem dX8_allWeights_19 : decode cX8_allWeights 19 = .ok (.iadd, 1) := by decide +kernel
theorem dX8_allWeights_20 : decode cX8_allWeights 20 = .ok (.istore_n 1, 1) := by decide +kernel
theorem dX8_allWeights_21 : decode cX8_allWeights 21 = .ok (.iinc 2 1, 3) := by decide +kernel
theorem dX8_allWeights_24 : decode cX8_allWeights 24 = .ok (.goto (-20), 3) := by decide +kernel
theorem dX8_allWeights_27 : decode cX8_allWeights 27 = .ok (.iload_n 1, 1) := by decide +kernel
theorem dX8_allWeights_28 : decode cX8_allWeights 28 = .ok (.ireturn, 1) := by decide +kernel
theorem dJ9_floorMod_7cf53_0 : decode cJ9_floorMod_7cf53 0 = .ok (.iload_n 0, 1) := by decide +kernel
theorem dJ9_floorMod_7cf53_1 : decode cJ9_floorMod_7cf53 1 = .ok (.iload_n 1, 1) := by decide +kernel
theorem dJ9_floorMod_7cf53_2 : decode cJ9_floorMod_7cf53 2 = .ok (.irem, 1) := by decide +kernel
theorem dJ9_floorMod_7cf53_3 : decode cJ9_floorMod_7cf53 3 = .ok (.istore_n 2, 1) := by decide +kernel
theorem dJ9_floorMod_7cf53_4 : decode cJ9_floorMod_7cf53 4 = .ok (.iload_n 0, 1) := by decide +kernel
theorem dJ9_floorMod_7cf53_5 : decode cJ9_floorMod_7cf53 5 = .ok (.iload_n 1, 1) := by decide +kernel
theorem dJ9_floorMod_7cf53_6 : decode cJ9_floorMod_7cf53 6 = .ok (.ixor, 1) := by decide +kernel
theorem dJ9_floorMod_7cf53_7 : decode cJ9_floorMod_7cf53 7 = .ok (.ifCond .ge 11, 3) := by decide +kernel
theorem dJ9_floorMod_7cf53_10 : decode cJ9_floorMod_7cf53 10 = .ok (.iload_n 2, 1) := by decide +kernel
theorem dJ9_floorMod_7cf53_11 : decode cJ9_floorMod_7cf53 11 = .ok (.ifCond .eq 7, 3) := by decide +kernel
theorem dJ9_floorMod_7cf53_14 : decode cJ9_floorMod_7cf53 14 = .ok (.iload_n 2, 1) := by decide +kernel
theorem dJ9_floorMod_7cf53_15 : decode cJ9_floorMod_7cf53 15 = .ok (.iload_n 1, 1) := by decide +kernel
theorem dJ9_floorMod_7cf53_16 : decode cJ9_floorMod_7cf53 16 = .ok (.iadd, 1) := by decide +kernel
theorem dJ9_floorMod_7cf53_17 : decode cJ9_floorMod_7cf53 17 = .ok (.ireturn, 1) := by decide +kernel
theorem dJ9_floorMod_7cf53_18 : decode cJ9_floorMod_7cf53 18 = .ok (.iload_n 2, 1) := by decide +kernel
theorem dJ9_floorMod_7cf53_19 : decode cJ9_floorMod_7cf53 19 = .ok (.ireturn, 1) := by decide +kernel
theorem dJ9_max_7cf53_0 : decode cJ9_max_7cf53 0 = .ok (.iload_n 0, 1) := by decide +kernel
theorem dJ9_max_7cf53_1 : decode cJ9_max_7cf53 1 = .ok (.iload_n 1, 1) := by decide +kernel
theorem dJ9_max_7cf53_2 : decode cJ9_max_7cf53 2 = .ok (.if_icmp .lt 7, 3) := by decide +kernel
theorem dJ9_max_7cf53_5 : decode cJ9_max_7cf53 5 = .ok (.iload_n 0, 1) := by decide +kernel
theorem dJ9_max_7cf53_6 : decode cJ9_max_7cf53 6 = .ok (.goto 4, 3) := by decide +kernel
theorem dJ9_max_7cf53_9 : decode cJ9_max_7cf53 9 = .ok (.iload_n 1, 1) := by decide +kernel
theorem dJ9_max_7cf53_10 : decode cJ9_max_7cf53 10 = .ok (.ireturn, 1) := by decide +kernel
theorem dJ9_max_f86c9_0 : decode cJ9_max_f86c9 0 = .ok (.lload_n 0, 1) := by decide +kernel
theorem dJ9_max_f86c9_1 : decode cJ9_max_f86c9 1 = .ok (.lload_n 2, 1) := by decide +kernel
theorem dJ9_max_f86c9_2 : decode cJ9_max_f86c9 2 = .ok (.lcmp, 1) := by decide +kernel
theorem dJ9_max_f86c9_3 : decode cJ9_max_f86c9 3 = .ok (.ifCond .lt 7, 3) := by decide +kernel
theorem dJ9_max_f86c9_6 : decode cJ9_max_f86c9 6 = .ok (.lload_n 0, 1) := by decide +kernel
theorem dJ9_max_f86c9_7 : decode cJ9_max_f86c9 7 = .ok (.goto 4, 3) := by decide +kernel
theorem dJ9_max_f86c9_10 : decode cJ9_max_f86c9 10 = .ok (.lload_n 2, 1) := by decide +kernel
theorem dJ9_max_f86c9_11 : decode cJ9_max_f86c9 11 = .ok (.lreturn, 1) := by decide +kernel
theorem dJ9_min_7cf53_0 : decode cJ9_min_7cf53 0 = .ok (.iload_n 0, 1) := by decide +kernel
theorem dJ9_min_7cf53_1 : decode cJ9_min_7cf53 1 = .ok (.iload_n 1, 1) := by decide +kernel
theorem dJ9_min_7cf53_2 : decode cJ9_min_7cf53 2 = .ok (.if_icmp .gt 7, 3) := by decide +kernel
theorem dJ9_min_7cf53_5 : decode cJ9_min_7cf53 5 = .ok (.iload_n 0, 1) := by decide +kernel
theorem dJ9_min_7cf53_6 : decode cJ9_min_7cf53 6 = .ok (.goto 4, 3) := by decide +kernel
theorem dJ9_min_7cf53_9 : decode cJ9_min_7cf53 9 = .ok (.iload_n 1, 1) := by decide +kernel
theorem dJ9_min_7cf53_10 : decode cJ9_min_7cf53 10 = .ok (.ireturn, 1) := by decide +kernel
theorem dJ9_min_f86c9_0 : decode cJ9_min_f86c9 0 = .ok (.lload_n 0, 1) := by decide +kernel
theorem dJ9_min_f86c9_1 : decode cJ9_min_f86c9 1 = .ok (.lload_n 2, 1) := by decide +kernel
theorem dJ9_min_f86c9_2 : decode cJ9_min_f86c9 2 = .ok (.lcmp, 1) := by decide +kernel
theorem dJ9_min_f86c9_3 : decode cJ9_min_f86c9 3 = .ok (.ifCond .gt 7, 3) := by decide +kernel
theorem dJ9_min_f86c9_6 : decode cJ9_min_f86c9 6 = .ok (.lload_n 0, 1) := by decide +kernel
theorem dJ9_min_f86c9_7 : decode cJ9_min_f86c9 7 = .ok (.goto 4, 3) := by decide +kernel
theorem dJ9_min_f86c9_10 : decode cJ9_min_f86c9 10 = .ok (.lload_n 2, 1) := by decide +kernel
theorem dJ9_min_f86c9_11 : decode cJ9_min_f86c9 11 = .ok (.lreturn, 1) := by decide +kernel
theorem dJ0_length_8abf5_0 : decode cJ0_length_8abf5 0 = .ok (.aload_n 0, 1) := by decide +kernel
theorem dJ0_length_8abf5_1 : decode cJ0_length_8abf5 1 = .ok (.getfield 9, 3) := by decide +kernel
theorem dJ0_length_8abf5_4 : decode cJ0_length_8abf5 4 = .ok (.arraylength, 1) := by decide +kernel
theorem dJ0_length_8abf5_5 : decode cJ0_length_8abf5 5 = .ok (.aload_n 0, 1) := by decide +kernel
theorem dJ0_length_8abf5_6 : decode cJ0_length_8abf5 6 = .ok (.invokevirtual 335, 3) := by decide +kernel
theorem dJ0_length_8abf5_9 : decode cJ0_length_8abf5 9 = .ok (.ishr, 1) := by decide +kernel
theorem dJ0_length_8abf5_10 : decode cJ0_length_8abf5 10 = .ok (.ireturn, 1) := by decide +kernel
theorem dJ0_charAt_5068e_0 : decode cJ0_charAt_5068e 0 = .ok (.aload_n 0, 1) := by decide +kernel
theorem dJ0_charAt_5068e_1 : decode cJ0_charAt_5068e 1 = .ok (.invokevirtual 492, 3) := by decide +kernel
theorem dJ0_charAt_5068e_4 : decode cJ0_charAt_5068e 4 = .ok (.ifCond .eq 12, 3) := by decide +kernel
theorem dJ0_charAt_5068e_7 : decode cJ0_charAt_5068e 7 = .ok (.aload_n 0, 1) := by decide +kernel
theorem dJ0_charAt_5068e_8 : decode cJ0_charAt_5068e 8 = .ok (.getfield 9, 3) := by decide +kernel
theorem dJ0_charAt_5068e_11 : decode cJ0_charAt_5068e 11 = .ok (.iload_n 1, 1) := by decide +kernel
theorem dJ0_charAt_5068e_12 : decode cJ0_charAt_5068e 12 = .ok (.invokestatic 495, 3) := by decide +kernel
theorem dJ0_charAt_5068e_15 : decode cJ0_charAt_5068e 15 = .ok (.ireturn, 1) := by decide +kernel
theorem dJ0_charAt_5068e_16 : decode cJ0_charAt_5068e 16 = .ok (.aload_n 0, 1) := by decide +kernel
theorem dJ0_charAt_5068e_17 : decode cJ0_charAt_5068e 17 = .ok (.getfield 9, 3) := by decide +kernel
theorem dJ0_charAt_5068e_20 : decode cJ0_charAt_5068e 20 = .ok (.iload_n 1, 1) := by decide +kernel
theorem dJ0_charAt_5068e_21 : decode cJ0_charAt_5068e 21 = .ok (.invokestatic 498, 3) := by decide +kernel
theorem dJ0_charAt_5068e_24 : decode cJ0_charAt_5068e 24 = .ok (.ireturn, 1) := by decide +kernel
theorem dJ0_coder_7d493_0 : decode cJ0_coder_7d493 0 = .ok (.getstatic 38, 3) := by decide +kernel
theorem dJ0_coder_7d493_3 : decode cJ0_coder_7d493 3 = .ok (.ifCond .eq 10, 3) := by decide +kernel
theorem dJ0_coder_7d493_6 : decode cJ0_coder_7d493 6 = .ok (.aload_n 0, 1) := by decide +kernel
theorem dJ0_coder_7d493_7 : decode cJ0_coder_7d493 7 = .ok (.getfield 15, 3) := by decide +kernel
theorem dJ0_coder_7d493_10 : decode cJ0_coder_7d493 10 = .ok (.goto 4, 3) := by decide +kernel
theorem dJ0_coder_7d493_13 : decode cJ0_coder_7d493 13 = .ok (.iconst 1, 1) := by decide +kernel
theorem dJ0_coder_7d493_14 : decode cJ0_coder_7d493 14 = .ok (.ireturn, 1) := by decide +kernel
theorem dJ0_isLatin1_aae02_0 : decode cJ0_isLatin1_aae02 0 = .ok (.getstatic 38, 3) := by decide +kernel
theorem dJ0_isLatin1_aae02_3 : decode cJ0_isLatin1_aae02 3 = .ok (.ifCond .eq 14, 3) := by decide +kernel
theorem dJ0_isLatin1_aae02_6 : decode cJ0_isLatin1_aae02 6 = .ok (.aload_n 0, 1) := by decide +kernel
theorem dJ0_isLatin1_aae02_7 : decode cJ0_isLatin1_aae02 7 = .ok (.getfield 15, 3) := by decide +kernel
theorem dJ0_isLatin1_aae02_10 : decode cJ0_isLatin1_aae02 10 = .ok (.ifCond .ne 7, 3) := by decide +kernel
theorem dJ0_isLatin1_aae02_13 : decode cJ0_isLatin1_aae02 13 = .ok (.iconst 1, 1) := by decide +kernel
theorem dJ0_isLatin1_aae02_14 : decode cJ0_isLatin1_aae02 14 = .ok (.goto 4, 3) := by decide +kernel
theorem dJ0_isLatin1_aae02_17 : decode cJ0_isLatin1_aae02 17 = .ok (.iconst 0, 1) := by decide +kernel
theorem dJ0_isLatin1_aae02_18 : decode cJ0_isLatin1_aae02 18 = .ok (.ireturn, 1) := by decide +kernel
theorem dJ0_checkIndex_df160_0 : decode cJ0_checkIndex_df160 0 = .ok (.iload_n 0, 1) := by decide +kernel
theorem dJ0_checkIndex_df160_1 : decode cJ0_checkIndex_df160 1 = .ok (.iload_n 1, 1) := by decide +kernel
theorem dJ0_checkIndex_df160_2 : decode cJ0_checkIndex_df160 2 = .ok (.getstatic 1053, 3) := by decide +kernel
theorem dJ0_checkIndex_df160_5 : decode cJ0_checkIndex_df160 5 = .ok (.invokestatic 1059, 3) := by decide +kernel
theorem dJ0_checkIndex_df160_8 : decode cJ0_checkIndex_df160 8 = .ok (.pop, 1) := by decide +kernel
theorem dJ0_checkIndex_df160_9 : decode cJ0_checkIndex_df160 9 = .ok (.return_, 1) := by decide +kernel
theorem dJ1_charAt_3b067_0 : decode cJ1_charAt_3b067 0 = .ok (.iload_n 1, 1) := by decide +kernel
theorem dJ1_charAt_3b067_1 : decode cJ1_charAt_3b067 1 = .ok (.aload_n 0, 1) := by decide +kernel
theorem dJ1_charAt_3b067_2 : decode cJ1_charAt_3b067 2 = .ok (.arraylength, 1) := by decide +kernel
theorem dJ1_charAt_3b067_3 : decode cJ1_charAt_3b067 3 = .ok (.invokestatic 9, 3) := by decide +kernel
theorem dJ1_charAt_3b067_6 : decode cJ1_charAt_3b067 6 = .ok (.aload_n 0, 1) := by decide +kernel
theorem dJ1_charAt_3b067_7 : decode cJ1_charAt_3b067 7 = .ok (.iload_n 1, 1) := by decide +kernel
theorem dJ1_charAt_3b067_8 : decode cJ1_charAt_3b067 8 = .ok (.baload, 1) := by decide +kernel
theorem dJ1_charAt_3b067_9 : decode cJ1_charAt_3b067 9 = .ok (.sipush 255, 3) := by decide +kernel
theorem dJ1_charAt_3b067_12 : decode cJ1_charAt_3b067 12 = .ok (.iand, 1) := by decide +kernel
theorem dJ1_charAt_3b067_13 : decode cJ1_charAt_3b067 13 = .ok (.i2c, 1) := by decide +kernel
theorem dJ1_charAt_3b067_14 : decode cJ1_charAt_3b067 14 = .ok (.ireturn, 1) := by decide +kernel
theorem dJ2_getChar_3b067_0 : decode cJ2_getChar_3b067 0 = .ok (.getstatic 44, 3) := by decide +kernel
theorem dJ2_getChar_3b067_3 : decode cJ2_getChar_3b067 3 = .ok (.ifCond .ne 25, 3) := by decide +kernel
theorem dJ2_getChar_3b067_6 : decode cJ2_getChar_3b067 6 = .ok (.iload_n 1, 1) := by decide +kernel
theorem dJ2_getChar_3b067_7 : decode cJ2_getChar_3b067 7 = .ok (.ifCond .lt 11, 3) := by decide +kernel
theorem dJ2_getChar_3b067_10 : decode cJ2_getChar_3b067 10 = .ok (.iload_n 1, 1) := by decide +kernel
theorem dJ2_getChar_3b067_11 : decode cJ2_getChar_3b067 11 = .ok (.aload_n 0, 1) := by decide +kernel
theorem dJ2_getChar_3b067_12 : decode cJ2_getChar_3b067 12 = .ok (.invokestatic 48, 3) := by decide +kernel
theorem dJ2_getChar_3b067_15 : decode cJ2_getChar_3b067 15 = .ok (.if_icmp .lt 13, 3) := by decide +kernel
theorem dJ2_getChar_3b067_18 : decode cJ2_getChar_3b067 18 = .ok (.new 52, 3) := by decide +kernel
theorem dJ2_getChar_3b067_21 : decode cJ2_getChar_3b067 21 = .ok (.dup, 1) := by decide +kernel
theorem dJ2_getChar_3b067_22 : decode cJ2_getChar_3b067 22 = .ok (.ldc 54, 2) := by decide +kernel
theorem dJ2_getChar_3b067_24 : decode cJ2_getChar_3b067 24 = .ok (.invokespecial 56, 3) := by decide +kernel
theorem dJ2_getChar_3b067_27 : decode cJ2_getChar_3b067 27 = .ok (.athrow, 1) := by decide +kernel
theorem dJ2_getChar_3b067_28 : decode cJ2_getChar_3b067 28 = .ok (.iload_n 1, 1) := by decide +kernel
theorem dJ2_getChar_3b067_29 : decode cJ2_getChar_3b067 29 = .ok (.iconst 1, 1) := by decide +kernel
theorem dJ2_getChar_3b067_30 : decode cJ2_getChar_3b067 30 = .ok (.ishl, 1) := by decide +kernel
theorem dJ2_getChar_3b067_31 : decode cJ2_getChar_3b067 31 = .ok (.istore_n 1, 1) := by decide +kernel
theorem dJ2_getChar_3b067_32 : decode cJ2_getChar_3b067 32 = .ok (.aload_n 0, 1) := by decide +kernel
theorem dJ2_getChar_3b067_33 : decode cJ2_getChar_3b067 33 = .ok (.iload_n 1, 1) := by decide +kernel
theorem dJ2_getChar_3b067_34 : decode cJ2_getChar_3b067 34 = .ok (.iinc 1 1, 3) := by decide +kernel
theorem dJ2_getChar_3b067_37 : decode cJ2_getChar_3b067 37 = .ok (.baload, 1) := by decide +kernel
theorem dJ2_getChar_3b067_38 : decode cJ2_getChar_3b067 38 = .ok (.sipush 255, 3) := by decide +kernel
theorem dJ2_getChar_3b067_41 : decode cJ2_getChar_3b067 41 = .ok (.iand, 1) := by decide +kernel
theorem dJ2_getChar_3b067_42 : decode cJ2_getChar_3b067 42 = .ok (.getstatic 59, 3) := by decide +kernel
theorem dJ2_getChar_3b067_45 : decode cJ2_getChar_3b067 45 = .ok (.ishl, 1) := by decide +kernel
theorem dJ2_getChar_3b067_46 : decode cJ2_getChar_3b067 46 = .ok (.aload_n 0, 1) := by decide +kernel
theorem dJ2_getChar_3b067_47 : decode cJ2_getChar_3b067 47 = .ok (.iload_n 1, 1) := by decide +kernel
theorem dJ2_getChar_3b067_48 : decode cJ2_getChar_3b067 48 = .ok (.baload, 1) := by decide +kernel
theorem dJ2_getChar_3b067_49 : decode cJ2_getChar_3b067 49 = .ok (.sipush 255, 3) := by decide +kernel
theorem dJ2_getChar_3b067_52 : decode cJ2_getChar_3b067 52 = .ok (.iand, 1) := by decide +kernel
theorem dJ2_getChar_3b067_53 : decode cJ2_getChar_3b067 53 = .ok (.getstatic 63, 3) := by decide +kernel
theorem dJ2_getChar_3b067_56 : decode cJ2_getChar_3b067 56 = .ok (.ishl, 1) := by decide +kernel
theorem dJ2_getChar_3b067_57 : decode cJ2_getChar_3b067 57 = .ok (.ior, 1) := by decide +kernel
theorem dJ2_getChar_3b067_58 : decode cJ2_getChar_3b067 58 = .ok (.i2c, 1) := by decide +kernel
theorem dJ2_getChar_3b067_59 : decode cJ2_getChar_3b067 59 = .ok (.ireturn, 1) := by decide +kernel
theorem dJ2_length_9d52b_0 : decode cJ2_length_9d52b 0 = .ok (.aload_n 0, 1) := by decide +kernel
theorem dJ2_length_9d52b_1 : decode cJ2_length_9d52b 1 = .ok (.arraylength, 1) := by decide +kernel
theorem dJ2_length_9d52b_2 : decode cJ2_length_9d52b 2 = .ok (.iconst 1, 1) := by decide +kernel
theorem dJ2_length_9d52b_3 : decode cJ2_length_9d52b 3 = .ok (.ishr, 1) := by decide +kernel
theorem dJ2_length_9d52b_4 : decode cJ2_length_9d52b 4 = .ok (.ireturn, 1) := by decide +kernel
theorem dJ2_charAt_3b067_0 : decode cJ2_charAt_3b067 0 = .ok (.iload_n 1, 1) := by decide +kernel
theorem dJ2_charAt_3b067_1 : decode cJ2_charAt_3b067 1 = .ok (.aload_n 0, 1) := by decide +kernel
theorem dJ2_charAt_3b067_2 : decode cJ2_charAt_3b067 2 = .ok (.invokestatic 67, 3) := by decide +kernel
theorem dJ2_charAt_3b067_5 : decode cJ2_charAt_3b067 5 = .ok (.aload_n 0, 1) := by decide +kernel
theorem dJ2_charAt_3b067_6 : decode cJ2_charAt_3b067 6 = .ok (.iload_n 1, 1) := by decide +kernel
theorem dJ2_charAt_3b067_7 : decode cJ2_charAt_3b067 7 = .ok (.invokestatic 71, 3) := by decide +kernel
theorem dJ2_charAt_3b067_10 : decode cJ2_charAt_3b067 10 = .ok (.ireturn, 1) := by decide +kernel
theorem dJ2_checkIndex_2214a_0 : decode cJ2_checkIndex_2214a 0 = .ok (.iload_n 0, 1) := by decide +kernel
theorem dJ2_checkIndex_2214a_1 : decode cJ2_checkIndex_2214a 1 = .ok (.aload_n 1, 1) := by decide +kernel
theorem dJ2_checkIndex_2214a_2 : decode cJ2_checkIndex_2214a 2 = .ok (.invokestatic 48, 3) := by decide +kernel
theorem dJ2_checkIndex_2214a_5 : decode cJ2_checkIndex_2214a 5 = .ok (.invokestatic 414, 3) := by decide +kernel
theorem dJ2_checkIndex_2214a_8 : decode cJ2_checkIndex_2214a 8 = .ok (.return_, 1) := by decide +kernel
theorem dJ3_checkIndex_8e157_0 : decode cJ3_checkIndex_8e157 0 = .ok (.iload_n 0, 1) := by decide +kernel
theorem dJ3_checkIndex_8e157_1 : decode cJ3_checkIndex_8e157 1 = .ok (.ifCond .lt 8, 3) := by decide +kernel
theorem dJ3_checkIndex_8e157_4 : decode cJ3_checkIndex_8e157 4 = .ok (.iload_n 0, 1) := by decide +kernel
theorem dJ3_checkIndex_8e157_5 : decode cJ3_checkIndex_8e157 5 = .ok (.iload_n 1, 1) := by decide +kernel
theorem dJ3_checkIndex_8e157_6 : decode cJ3_checkIndex_8e157 6 = .ok (.if_icmp .lt 10, 3) := by decide +kernel
theorem dJ3_checkIndex_8e157_9 : decode cJ3_checkIndex_8e157 9 = .ok (.aload_n 2, 1) := by decide +kernel
theorem dJ3_checkIndex_8e157_10 : decode cJ3_checkIndex_8e157 10 = .ok (.iload_n 0, 1) := by decide +kernel
theorem dJ3_checkIndex_8e157_11 : decode cJ3_checkIndex_8e157 11 = .ok (.iload_n 1, 1) := by decide +kernel
theorem dJ3_checkIndex_8e157_12 : decode cJ3_checkIndex_8e157 12 = .ok (.invokestatic 95, 3) := by decide +kernel
theorem dJ3_checkIndex_8e157_15 : decode cJ3_checkIndex_8e157 15 = .ok (.athrow, 1) := by decide +kernel
theorem dJ3_checkIndex_8e157_16 : decode cJ3_checkIndex_8e157 16 = .ok (.iload_n 0, 1) := by decide +kernel
theorem dJ3_checkIndex_8e157_17 : decode cJ3_checkIndex_8e157 17 = .ok (.ireturn, 1) := by decide +kernel
