theorem dX10_come_82 : decode cX10_come 82 = .ok (.iadd, 1) := by decide +kernel
theorem dX10_come_83 : decode cX10_come 83 = .ok (.iload_n 2, 1) := by decide +kernel
theorem dX10_come_84 : decode cX10_come 84 = .ok (.iastore, 1) := by decide +kernel
theorem dX10_come_85 : decode cX10_come 85 = .ok (.aload_n 0, 1) := by decide +kernel
theorem dX10_come_86 : decode cX10_come 86 = .ok (.getfield 13, 3) := by decide +kernel
theorem dX10_come_89 : decode cX10_come 89 = .ok (.iconst 1, 1) := by decide +kernel
theorem dX10_come_90 : decode cX10_come 90 = .ok (.dup2, 1) := by decide +kernel
theorem dX10_come_91 : decode cX10_come 91 = .ok (.iaload, 1) := by decide +kernel
theorem dX10_come_92 : decode cX10_come 92 = .ok (.iconst 1, 1) := by decide +kernel
theorem dX10_come_93 : decode cX10_come 93 = .ok (.iadd, 1) := by decide +kernel
theorem dX10_come_94 : decode cX10_come 94 = .ok (.iastore, 1) := by decide +kernel
theorem dX10_come_95 : decode cX10_come 95 = .ok (.aload_n 0, 1) := by decide +kernel
theorem dX10_come_96 : decode cX10_come 96 = .ok (.getfield 13, 3) := by decide +kernel
theorem dX10_come_99 : decode cX10_come 99 = .ok (.iconst 1, 1) := by decide +kernel
theorem dX10_come_100 : decode cX10_come 100 = .ok (.iaload, 1) := by decide +kernel
theorem dX10_come_101 : decode cX10_come 101 = .ok (.iconst 1, 1) := by decide +kernel
theorem dX10_come_102 : decode cX10_come 102 = .ok (.isub, 1) := by decide +kernel
theorem dX10_come_103 : decode cX10_come 103 = .ok (.ireturn, 1) := by decide +kernel
theorem dX10_takesOut_0 : decode cX10_takesOut 0 = .ok (.bipush 45, 2) := by decide +kernel
theorem dX10_takesOut_2 : decode cX10_takesOut 2 = .ok (.iconst 2, 1) := by decide +kernel
theorem dX10_takesOut_3 : decode cX10_takesOut 3 = .ok (.iload_n 1, 1) := by decide +kernel
theorem dX10_takesOut_4 : decode cX10_takesOut 4 = .ok (.imul, 1) := by decide +kernel
theorem dX10_takesOut_5 : decode cX10_takesOut 5 = .ok (.iadd, 1) := by decide +kernel
theorem dX10_takesOut_6 : decode cX10_takesOut 6 = .ok (.istore_n 2, 1) := by decide +kernel
theorem dX10_takesOut_7 : decode cX10_takesOut 7 = .ok (.iload_n 2, 1) := by decide +kernel
theorem dX10_takesOut_8 : decode cX10_takesOut 8 = .ok (.bipush 45, 2) := by decide +kernel
theorem dX10_takesOut_10 : decode cX10_takesOut 10 = .ok (.iconst 2, 1) := by decide +kernel
theorem dX10_takesOut_11 : decode cX10_takesOut 11 = .ok (.aload_n 0, 1) := by decide +kernel
theorem dX10_takesOut_12 : decode cX10_takesOut 12 = .ok (.getfield 13, 3) := by decide +kernel
theorem dX10_takesOut_15 : decode cX10_takesOut 15 = .ok (.iconst 1, 1) := by decide +kernel
theorem dX10_takesOut_16 : decode cX10_takesOut 16 = .ok (.iaload, 1) := by decide +kernel
theorem dX10_takesOut_17 : decode cX10_takesOut 17 = .ok (.imul, 1) := by decide +kernel
theorem dX10_takesOut_18 : decode cX10_takesOut 18 = .ok (.iadd, 1) := by decide +kernel
theorem dX10_takesOut_19 : decode cX10_takesOut 19 = .ok (.iconst 2, 1) := by decide +kernel
theorem dX10_takesOut_20 : decode cX10_takesOut 20 = .ok (.isub, 1) := by decide +kernel
theorem dX10_takesOut_21 : decode cX10_takesOut 21 = .ok (.if_icmp .ge 23, 3) := by decide +kernel
theorem dX10_takesOut_24 : decode cX10_takesOut 24 = .ok (.aload_n 0, 1) := by decide +kernel
theorem dX10_takesOut_25 : decode cX10_takesOut 25 = .ok (.getfield 13, 3) := by decide +kernel
theorem dX10_takesOut_28 : decode cX10_takesOut 28 = .ok (.iload_n 2, 1) := by decide +kernel
theorem dX10_takesOut_29 : decode cX10_takesOut 29 = .ok (.aload_n 0, 1) := by decide +kernel
theorem dX10_takesOut_30 : decode cX10_takesOut 30 = .ok (.getfield 13, 3) := by decide +kernel
theorem dX10_takesOut_33 : decode cX10_takesOut 33 = .ok (.iload_n 2, 1) := by decide +kernel
theorem dX10_takesOut_34 : decode cX10_takesOut 34 = .ok (.iconst 2, 1) := by decide +kernel
theorem dX10_takesOut_35 : decode cX10_takesOut 35 = .ok (.iadd, 1) := by decide +kernel
theorem dX10_takesOut_36 : decode cX10_takesOut 36 = .ok (.iaload, 1) := by decide +kernel
theorem dX10_takesOut_37 : decode cX10_takesOut 37 = .ok (.iastore, 1) := by decide +kernel
theorem dX10_takesOut_38 : decode cX10_takesOut 38 = .ok (.iinc 2 1, 3) := by decide +kernel
theorem dX10_takesOut_41 : decode cX10_takesOut 41 = .ok (.goto (-34), 3) := by decide +kernel
theorem dX10_takesOut_44 : decode cX10_takesOut 44 = .ok (.aload_n 0, 1) := by decide +kernel
theorem dX10_takesOut_45 : decode cX10_takesOut 45 = .ok (.getfield 13, 3) := by decide +kernel
theorem dX10_takesOut_48 : decode cX10_takesOut 48 = .ok (.iconst 1, 1) := by decide +kernel
theorem dX10_takesOut_49 : decode cX10_takesOut 49 = .ok (.dup2, 1) := by decide +kernel
theorem dX10_takesOut_50 : decode cX10_takesOut 50 = .ok (.iaload, 1) := by decide +kernel
theorem dX10_takesOut_51 : decode cX10_takesOut 51 = .ok (.iconst 1, 1) := by decide +kernel
theorem dX10_takesOut_52 : decode cX10_takesOut 52 = .ok (.isub, 1) := by decide +kernel
theorem dX10_takesOut_53 : decode cX10_takesOut 53 = .ok (.iastore, 1) := by decide +kernel
theorem dX10_takesOut_54 : decode cX10_takesOut 54 = .ok (.return_, 1) := by decide +kernel
theorem dX10_drop_0 : decode cX10_drop 0 = .ok (.aload_n 0, 1) := by decide +kernel
theorem dX10_drop_1 : decode cX10_drop 1 = .ok (.iload_n 1, 1) := by decide +kernel
theorem dX10_drop_2 : decode cX10_drop 2 = .ok (.invokevirtual 93, 3) := by decide +kernel
theorem dX10_drop_5 : decode cX10_drop 5 = .ok (.ifCond .eq 13, 3) := by decide +kernel
theorem dX10_drop_8 : decode cX10_drop 8 = .ok (.aload_n 0, 1) := by decide +kernel
theorem dX10_drop_9 : decode cX10_drop 9 = .ok (.getfield 13, 3) := by decide +kernel
theorem dX10_drop_12 : decode cX10_drop 12 = .ok (.iconst 1, 1) := by decide +kernel
theorem dX10_drop_13 : decode cX10_drop 13 = .ok (.iaload, 1) := by decide +kernel
theorem dX10_drop_14 : decode cX10_drop 14 = .ok (.iconst 1, 1) := by decide +kernel
theorem dX10_drop_15 : decode cX10_drop 15 = .ok (.if_icmp .ne 5, 3) := by decide +kernel
theorem dX10_drop_18 : decode cX10_drop 18 = .ok (.iconst (-1), 1) := by decide +kernel
theorem dX10_drop_19 : decode cX10_drop 19 = .ok (.ireturn, 1) := by decide +kernel
theorem dX10_drop_20 : decode cX10_drop 20 = .ok (.aload_n 0, 1) := by decide +kernel
theorem dX10_drop_21 : decode cX10_drop 21 = .ok (.invokevirtual 81, 3) := by decide +kernel
theorem dX10_drop_24 : decode cX10_drop 24 = .ok (.aload_n 0, 1) := by decide +kernel
theorem dX10_drop_25 : decode cX10_drop 25 = .ok (.iload_n 1, 1) := by decide +kernel
theorem dX10_drop_26 : decode cX10_drop 26 = .ok (.invokevirtual 175, 3) := by decide +kernel
theorem dX10_drop_29 : decode cX10_drop 29 = .ok (.aload_n 0, 1) := by decide +kernel
theorem dX10_drop_30 : decode cX10_drop 30 = .ok (.getfield 13, 3) := by decide +kernel
theorem dX10_drop_33 : decode cX10_drop 33 = .ok (.iconst 1, 1) := by decide +kernel
theorem dX10_drop_34 : decode cX10_drop 34 = .ok (.iaload, 1) := by decide +kernel
theorem dX10_drop_35 : decode cX10_drop 35 = .ok (.ireturn, 1) := by decide +kernel
theorem dX10_move_0 : decode cX10_move 0 = .ok (.aload_n 0, 1) := by decide +kernel
theorem dX10_move_1 : decode cX10_move 1 = .ok (.iload_n 1, 1) := by decide +kernel
theorem dX10_move_2 : decode cX10_move 2 = .ok (.invokevirtual 84, 3) := by decide +kernel
theorem dX10_move_5 : decode cX10_move 5 = .ok (.ifCond .eq 23, 3) := by decide +kernel
theorem dX10_move_8 : decode cX10_move 8 = .ok (.aload_n 0, 1) := by decide +kernel
theorem dX10_move_9 : decode cX10_move 9 = .ok (.getfield 13, 3) := by decide +kernel
theorem dX10_move_12 : decode cX10_move 12 = .ok (.bipush 56, 2) := by decide +kernel
theorem dX10_move_14 : decode cX10_move 14 = .ok (.iaload, 1) := by decide +kernel
theorem dX10_move_15 : decode cX10_move 15 = .ok (.ifCond .ne 13, 3) := by decide +kernel
theorem dX10_move_18 : decode cX10_move 18 = .ok (.aload_n 0, 1) := by decide +kernel
theorem dX10_move_19 : decode cX10_move 19 = .ok (.bipush 55, 2) := by decide +kernel
theorem dX10_move_21 : decode cX10_move 21 = .ok (.iload_n 1, 1) := by decide +kernel
theorem dX10_move_22 : decode cX10_move 22 = .ok (.invokevirtual 90, 3) := by decide +kernel
theorem dX10_move_25 : decode cX10_move 25 = .ok (.goto 4, 3) := by decide +kernel
theorem dX10_move_28 : decode cX10_move 28 = .ok (.iconst (-1), 1) := by decide +kernel
theorem dX10_move_29 : decode cX10_move 29 = .ok (.ireturn, 1) := by decide +kernel
theorem dX10_anew_0 : decode cX10_anew 0 = .ok (.aload_n 0, 1) := by decide +kernel
theorem dX10_anew_1 : decode cX10_anew 1 = .ok (.invokevirtual 81, 3) := by decide +kernel
theorem dX10_anew_4 : decode cX10_anew 4 = .ok (.aload_n 0, 1) := by decide +kernel
theorem dX10_anew_5 : decode cX10_anew 5 = .ok (.getfield 13, 3) := by decide +kernel
theorem dX10_anew_8 : decode cX10_anew 8 = .ok (.bipush 60, 2) := by decide +kernel
theorem dX10_anew_10 : decode cX10_anew 10 = .ok (.iaload, 1) := by decide +kernel
theorem dX10_anew_11 : decode cX10_anew 11 = .ok (.istore_n 1, 1) := by decide +kernel
theorem dX10_anew_12 : decode cX10_anew 12 = .ok (.bipush 55, 2) := by decide +kernel
theorem dX10_anew_14 : decode cX10_anew 14 = .ok (.istore_n 2, 1) := by decide +kernel
theorem dX10_anew_15 : decode cX10_anew 15 = .ok (.iload_n 2, 1) := by decide +kernel
theorem dX10_anew_16 : decode cX10_anew 16 = .ok (.sipush 167, 3) := by decide +kernel
theorem dX10_anew_19 : decode cX10_anew 19 = .ok (.if_icmp .ge 16, 3) := by decide +kernel
theorem dX10_anew_22 : decode cX10_anew 22 = .ok (.aload_n 0, 1) := by decide +kernel
theorem dX10_anew_23 : decode cX10_anew 23 = .ok (.getfield 13, 3) := by decide +kernel
theorem dX10_anew_26 : decode cX10_anew 26 = .ok (.iload_n 2, 1) := by decide +kernel
theorem dX10_anew_27 : decode cX10_anew 27 = .ok (.iconst 0, 1) := by decide +kernel
theorem dX10_anew_28 : decode cX10_anew 28 = .ok (.iastore, 1) := by decide +kernel
theorem dX10_anew_29 : decode cX10_anew 29 = .ok (.iinc 2 1, 3) := by decide +kernel
theorem dX10_anew_32 : decode cX10_anew 32 = .ok (.goto (-17), 3) := by decide +kernel
theorem dX10_anew_35 : decode cX10_anew 35 = .ok (.iload_n 1, 1) := by decide +kernel
theorem dX10_anew_36 : decode cX10_anew 36 = .ok (.ireturn, 1) := by decide +kernel
theorem dX10_undo_0 : decode cX10_undo 0 = .ok (.aload_n 0, 1) := by decide +kernel
theorem dX10_undo_1 : decode cX10_undo 1 = .ok (.getfield 63, 3) := by decide +kernel
theorem dX10_undo_4 : decode cX10_undo 4 = .ok (.ifCond .ne 5, 3) := by decide +kernel
theorem dX10_undo_7 : decode cX10_undo 7 = .ok (.iconst (-1), 1) := by decide +kernel
theorem dX10_undo_8 : decode cX10_undo 8 = .ok (.ireturn, 1) := by decide +kernel
theorem dX10_undo_9 : decode cX10_undo 9 = .ok (.aload_n 0, 1) := by decide +kernel
theorem dX10_undo_10 : decode cX10_undo 10 = .ok (.dup, 1) := by decide +kernel
theorem dX10_undo_11 : decode cX10_undo 11 = .ok (.getfield 63, 3) := by decide +kernel
theorem dX10_undo_14 : decode cX10_undo 14 = .ok (.iconst 1, 1) := by decide +kernel
theorem dX10_undo_15 : decode cX10_undo 15 = .ok (.isub, 1) := by decide +kernel
theorem dX10_undo_16 : decode cX10_undo 16 = .ok (.putfield 63, 3) := by decide +kernel
theorem dX10_undo_19 : decode cX10_undo 19 = .ok (.iconst 0, 1) := by decide +kernel
theorem dX10_undo_20 : decode cX10_undo 20 = .ok (.istore_n 1, 1) := by decide +kernel
theorem dX10_undo_21 : decode cX10_undo 21 = .ok (.iload_n 1, 1) := by decide +kernel
theorem dX10_undo_22 : decode cX10_undo 22 = .ok (.sipush 167, 3) := by decide +kernel
theorem dX10_undo_25 : decode cX10_undo 25 = .ok (.if_icmp .ge 30, 3) := by decide +kernel
theorem dX10_undo_28 : decode cX10_undo 28 = .ok (.aload_n 0, 1) := by decide +kernel
theorem dX10_undo_29 : decode cX10_undo 29 = .ok (.getfield 13, 3) := by decide +kernel
theorem dX10_undo_32 : decode cX10_undo 32 = .ok (.iload_n 1, 1) := by decide +kernel
theorem dX10_undo_33 : decode cX10_undo 33 = .ok (.aload_n 0, 1) := by decide +kernel
theorem dX10_undo_34 : decode cX10_undo 34 = .ok (.getfield 23, 3) := by decide +kernel
theorem dX10_undo_37 : decode cX10_undo 37 = .ok (.sipush 167, 3) := by decide +kernel
theorem dX10_undo_40 : decode cX10_undo 40 = .ok (.aload_n 0, 1) := by decide +kernel
theorem dX10_undo_41 : decode cX10_undo 41 = .ok (.getfield 63, 3) := by decide +kernel
theorem dX10_undo_44 : decode cX10_undo 44 = .ok (.imul, 1) := by decide +kernel
theorem dX10_undo_45 : decode cX10_undo 45 = .ok (.iload_n 1, 1) := by decide +kernel
theorem dX10_undo_46 : decode cX10_undo 46 = .ok (.iadd, 1) := by decide +kernel
theorem dX10_undo_47 : decode cX10_undo 47 = .ok (.iaload, 1) := by decide +kernel
theorem dX10_undo_48 : decode cX10_undo 48 = .ok (.iastore, 1) := by decide +kernel
theorem dX10_undo_49 : decode cX10_undo 49 = .ok (.iinc 1 1, 3) := by decide +kernel
theorem dX10_undo_52 : decode cX10_undo 52 = .ok (.goto (-31), 3) := by decide +kernel
theorem dX10_undo_55 : decode cX10_undo 55 = .ok (.aload_n 0, 1) := by decide +kernel
theorem dX10_undo_56 : decode cX10_undo 56 = .ok (.getfield 63, 3) := by decide +kernel
theorem dX10_undo_59 : decode cX10_undo 59 = .ok (.ireturn, 1) := by decide +kernel
theorem dX10_costAt_0 : decode cX10_costAt 0 = .ok (.aload_n 0, 1) := by decide +kernel
theorem dX10_costAt_1 : decode cX10_costAt 1 = .ok (.getfield 26, 3) := by decide +kernel
theorem dX10_costAt_4 : decode cX10_costAt 4 = .ok (.bipush 8, 2) := by decide +kernel
theorem dX10_costAt_6 : decode cX10_costAt 6 = .ok (.iload_n 1, 1) := by decide +kernel
theorem dX10_costAt_7 : decode cX10_costAt 7 = .ok (.imul, 1) := by decide +kernel
theorem dX10_costAt_8 : decode cX10_costAt 8 = .ok (.iload_n 2, 1) := by decide +kernel
theorem dX10_costAt_9 : decode cX10_costAt 9 = .ok (.iadd, 1) := by decide +kernel
theorem dX10_costAt_10 : decode cX10_costAt 10 = .ok (.laload, 1) := by decide +kernel
theorem dX10_costAt_11 : decode cX10_costAt 11 = .ok (.lreturn, 1) := by decide +kernel
theorem dX10_isGuarded_0 : decode cX10_isGuarded 0 = .ok (.aload_n 0, 1) := by decide +kernel
theorem dX10_isGuarded_1 : decode cX10_isGuarded 1 = .ok (.getfield 30, 3) := by decide +kernel
theorem dX10_isGuarded_4 : decode cX10_isGuarded 4 = .ok (.bipush 8, 2) := by decide +kernel
theorem dX10_isGuarded_6 : decode cX10_isGuarded 6 = .ok (.iload_n 1, 1) := by decide +kernel
theorem dX10_isGuarded_7 : decode cX10_isGuarded 7 = .ok (.imul, 1) := by decide +kernel
theorem dX10_isGuarded_8 : decode cX10_isGuarded 8 = .ok (.iload_n 2, 1) := by decide +kernel
theorem dX10_isGuarded_9 : decode cX10_isGuarded 9 = .ok (.iadd, 1) := by decide +kernel
theorem dX10_isGuarded_10 : decode cX10_isGuarded 10 = .ok (.baload, 1) := by decide +kernel
theorem dX10_isGuarded_11 : decode cX10_isGuarded 11 = .ok (.ireturn, 1) := by decide +kernel
theorem dX10_slot_0 : decode cX10_slot 0 = .ok (.bipush 6, 2) := by decide +kernel
theorem dX10_slot_2 : decode cX10_slot 2 = .ok (.iload_n 0, 1) := by decide +kernel
theorem dX10_slot_3 : decode cX10_slot 3 = .ok (.imul, 1) := by decide +kernel
theorem dX10_slot_4 : decode cX10_slot 4 = .ok (.iconst 2, 1) := by decide +kernel
theorem dX10_slot_5 : decode cX10_slot 5 = .ok (.iload_n 1, 1) := by decide +kernel
theorem dX10_slot_6 : decode cX10_slot 6 = .ok (.imul, 1) := by decide +kernel
theorem dX10_slot_7 : decode cX10_slot 7 = .ok (.iadd, 1) := by decide +kernel
theorem dX10_slot_8 : decode cX10_slot 8 = .ok (.iload_n 2, 1) := by decide +kernel
theorem dX10_slot_9 : decode cX10_slot 9 = .ok (.iadd, 1) := by decide +kernel
theorem dX10_slot_10 : decode cX10_slot 10 = .ok (.ireturn, 1) := by decide +kernel
theorem dX10_toldCost_0 : decode cX10_toldCost 0 = .ok (.iload 4, 2) := by decide +kernel
theorem dX10_toldCost_2 : decode cX10_toldCost 2 = .ok (.iconst 1, 1) := by decide +kernel
theorem dX10_toldCost_3 : decode cX10_toldCost 3 = .ok (.if_icmp .ne 7, 3) := by decide +kernel
theorem dX10_toldCost_6 : decode cX10_toldCost 6 = .ok (.iload_n 3, 1) := by decide +kernel
theorem dX10_toldCost_7 : decode cX10_toldCost 7 = .ok (.goto 15, 3) := by decide +kernel
theorem dX10_toldCost_10 : decode cX10_toldCost 10 = .ok (.iload_n 3, 1) := by decide +kernel
theorem dX10_toldCost_11 : decode cX10_toldCost 11 = .ok (.iconst 2, 1) := by decide +kernel
theorem dX10_toldCost_12 : decode cX10_toldCost 12 = .ok (.if_icmp .ge 9, 3) := by decide +kernel
theorem dX10_toldCost_15 : decode cX10_toldCost 15 = .ok (.iload_n 3, 1) := by decide +kernel
theorem dX10_toldCost_16 : decode cX10_toldCost 16 = .ok (.iconst 1, 1) := by decide +kernel
theorem dX10_toldCost_17 : decode cX10_toldCost 17 = .ok (.iadd, 1) := by decide +kernel
theorem dX10_toldCost_18 : decode cX10_toldCost 18 = .ok (.goto 4, 3) := by decide +kernel
theorem dX10_toldCost_21 : decode cX10_toldCost 21 = .ok (.iconst 2, 1) := by decide +kernel
theorem dX10_toldCost_22 : decode cX10_toldCost 22 = .ok (.istore 5, 2) := by decide +kernel
theorem dX10_toldCost_24 : decode cX10_toldCost 24 = .ok (.aload_n 0, 1) := by decide +kernel
theorem dX10_toldCost_25 : decode cX10_toldCost 25 = .ok (.iload_n 1, 1) := by decide +kernel
theorem dX10_toldCost_26 : decode cX10_toldCost 26 = .ok (.invokevirtual 124, 3) := by decide +kernel
theorem dX10_toldCost_29 : decode cX10_toldCost 29 = .ok (.i2l, 1) := by decide +kernel
theorem dX10_toldCost_30 : decode cX10_toldCost 30 = .ok (.ldc2_w 179, 3) := by decide +kernel
theorem dX10_toldCost_33 : decode cX10_toldCost 33 = .ok (.lmul, 1) := by decide +kernel
theorem dX10_toldCost_34 : decode cX10_toldCost 34 = .ok (.aload_n 0, 1) := by decide +kernel
theorem dX10_toldCost_35 : decode cX10_toldCost 35 = .ok (.getfield 34, 3) := by decide +kernel
theorem dX10_toldCost_38 : decode cX10_toldCost 38 = .ok (.iload_n 2, 1) := by decide +kernel
theorem dX10_toldCost_39 : decode cX10_toldCost 39 = .ok (.iconst 1, 1) := by decide +kernel
theorem dX10_toldCost_40 : decode cX10_toldCost 40 = .ok (.iadd, 1) := by decide +kernel
theorem dX10_toldCost_41 : decode cX10_toldCost 41 = .ok (.iload 5, 2) := by decide +kernel
theorem dX10_toldCost_43 : decode cX10_toldCost 43 = .ok (.iconst 0, 1) := by decide +kernel
theorem dX10_toldCost_44 : decode cX10_toldCost 44 = .ok (.invokestatic 181, 3) := by decide +kernel
theorem dX10_toldCost_47 : decode cX10_toldCost 47 = .ok (.laload, 1) := by decide +kernel
theorem dX10_toldCost_48 : decode cX10_toldCost 48 = .ok (.ladd, 1) := by decide +kernel
theorem dX10_toldCost_49 : decode cX10_toldCost 49 = .ok (.lreturn, 1) := by decide +kernel
theorem dX10_borneCost_0 : decode cX10_borneCost 0 = .ok (.aload_n 0, 1) := by decide +kernel
theorem dX10_borneCost_1 : decode cX10_borneCost 1 = .ok (.iload_n 1, 1) := by decide +kernel
theorem dX10_borneCost_2 : decode cX10_borneCost 2 = .ok (.invokevirtual 78, 3) := by decide +kernel
theorem dX10_borneCost_5 : decode cX10_borneCost 5 = .ok (.i2l, 1) := by decide +kernel
theorem dX10_borneCost_6 : decode cX10_borneCost 6 = .ok (.ldc2_w 179, 3) := by decide +kernel
theorem dX10_borneCost_9 : decode cX10_borneCost 9 = .ok (.lmul, 1) := by decide +kernel
theorem dX10_borneCost_10 : decode cX10_borneCost 10 = .ok (.aload_n 0, 1) := by decide +kernel
theorem dX10_borneCost_11 : decode cX10_borneCost 11 = .ok (.getfield 34, 3) := by decide +kernel
theorem dX10_borneCost_14 : decode cX10_borneCost 14 = .ok (.iload_n 2, 1) := by decide +kernel
theorem dX10_borneCost_15 : decode cX10_borneCost 15 = .ok (.iconst 1, 1) := by decide +kernel
theorem dX10_borneCost_16 : decode cX10_borneCost 16 = .ok (.iadd, 1) := by decide +kernel
theorem dX10_borneCost_17 : decode cX10_borneCost 17 = .ok (.iload_n 3, 1) := by decide +kernel
theorem dX10_borneCost_18 : decode cX10_borneCost 18 = .ok (.iload 4, 2) := by decide +kernel
theorem dX10_borneCost_20 : decode cX10_borneCost 20 = .ok (.invokestatic 181, 3) := by decide +kernel
theorem dX10_borneCost_23 : decode cX10_borneCost 23 = .ok (.laload, 1) := by decide +kernel
theorem dX10_borneCost_24 : decode cX10_borneCost 24 = .ok (.ladd, 1) := by decide +kernel
theorem dX10_borneCost_25 : decode cX10_borneCost 25 = .ok (.lreturn, 1) := by decide +kernel
theorem dX10_gainOf_0 : decode cX10_gainOf 0 = .ok (.aload_n 0, 1) := by decide +kernel
theorem dX10_gainOf_1 : decode cX10_gainOf 1 = .ok (.iload_n 1, 1) := by decide +kernel
theorem dX10_gainOf_2 : decode cX10_gainOf 2 = .ok (.iload_n 2, 1) := by decide +kernel
theorem dX10_gainOf_3 : decode cX10_gainOf 3 = .ok (.iload_n 3, 1) := by decide +kernel
theorem dX10_gainOf_4 : decode cX10_gainOf 4 = .ok (.iload 4, 2) := by decide +kernel
theorem dX10_gainOf_6 : decode cX10_gainOf 6 = .ok (.invokevirtual 185, 3) := by decide +kernel
theorem dX10_gainOf_9 : decode cX10_gainOf 9 = .ok (.aload_n 0, 1) := by decide +kernel
theorem dX10_gainOf_10 : decode cX10_gainOf 10 = .ok (.iload_n 1, 1) := by decide +kernel
theorem dX10_gainOf_11 : decode cX10_gainOf 11 = .ok (.iload_n 2, 1) := by decide +kernel
theorem dX10_gainOf_12 : decode cX10_gainOf 12 = .ok (.iload_n 3, 1) := by decide +kernel
theorem dX10_gainOf_13 : decode cX10_gainOf 13 = .ok (.iload 4, 2) := by decide +kernel
theorem dX10_gainOf_15 : decode cX10_gainOf 15 = .ok (.invokevirtual 188, 3) := by decide +kernel
theorem dX10_gainOf_18 : decode cX10_gainOf 18 = .ok (.lsub, 1) := by decide +kernel
theorem dX10_gainOf_19 : decode cX10_gainOf 19 = .ok (.lreturn, 1) := by decide +kernel
theorem dX10_lossCost_0 : decode cX10_lossCost 0 = .ok (.aload_n 0, 1) := by decide +kernel
theorem dX10_lossCost_1 : decode cX10_lossCost 1 = .ok (.iload_n 1, 1) := by decide +kernel
theorem dX10_lossCost_2 : decode cX10_lossCost 2 = .ok (.iload_n 2, 1) := by decide +kernel
theorem dX10_lossCost_3 : decode cX10_lossCost 3 = .ok (.iload_n 3, 1) := by decide +kernel
theorem dX10_lossCost_4 : decode cX10_lossCost 4 = .ok (.iload 4, 2) := by decide +kernel
theorem dX10_lossCost_6 : decode cX10_lossCost 6 = .ok (.invokevirtual 188, 3) := by decide +kernel
theorem dX10_lossCost_9 : decode cX10_lossCost 9 = .ok (.lstore 5, 2) := by decide +kernel
theorem dX10_lossCost_11 : decode cX10_lossCost 11 = .ok (.aload_n 0, 1) := by decide +kernel
theorem dX10_lossCost_12 : decode cX10_lossCost 12 = .ok (.iload_n 1, 1) := by decide +kernel
theorem dX10_lossCost_13 : decode cX10_lossCost 13 = .ok (.iload_n 2, 1) := by decide +kernel
theorem dX10_lossCost_14 : decode cX10_lossCost 14 = .ok (.iload_n 3, 1) := by decide +kernel
theorem dX10_lossCost_15 : decode cX10_lossCost 15 = .ok (.iload 4, 2) := by decide +kernel
theorem dX10_lossCost_17 : decode cX10_lossCost 17 = .ok (.invokevirtual 185, 3) := by decide +kernel
theorem dX10_lossCost_20 : decode cX10_lossCost 20 = .ok (.lstore 7, 2) := by decide +kernel
theorem dX10_lossCost_22 : decode cX10_lossCost 22 = .ok (.aload_n 0, 1) := by decide +kernel
theorem dX10_lossCost_23 : decode cX10_lossCost 23 = .ok (.getfield 191, 3) := by decide +kernel
theorem dX10_lossCost_26 : decode cX10_lossCost 26 = .ok (.ifCond .ne 19, 3) := by decide +kernel
theorem dX10_lossCost_29 : decode cX10_lossCost 29 = .ok (.lload 5, 2) := by decide +kernel
theorem dX10_lossCost_31 : decode cX10_lossCost 31 = .ok (.lload 7, 2) := by decide +kernel
theorem dX10_lossCost_33 : decode cX10_lossCost 33 = .ok (.lcmp, 1) := by decide +kernel
theorem dX10_lossCost_34 : decode cX10_lossCost 34 = .ok (.ifCond .ge 7, 3) := by decide +kernel
theorem dX10_lossCost_37 : decode cX10_lossCost 37 = .ok (.iconst 1, 1) := by decide +kernel
theorem dX10_lossCost_38 : decode cX10_lossCost 38 = .ok (.goto 40, 3) := by decide +kernel
theorem dX10_lossCost_41 : decode cX10_lossCost 41 = .ok (.iconst 0, 1) := by decide +kernel
theorem dX10_lossCost_42 : decode cX10_lossCost 42 = .ok (.goto 36, 3) := by decide +kernel
theorem dX10_lossCost_45 : decode cX10_lossCost 45 = .ok (.aload_n 0, 1) := by decide +kernel
theorem dX10_lossCost_46 : decode cX10_lossCost 46 = .ok (.getfield 191, 3) := by decide +kernel
theorem dX10_lossCost_49 : decode cX10_lossCost 49 = .ok (.iconst 1, 1) := by decide +kernel
theorem dX10_lossCost_50 : decode cX10_lossCost 50 = .ok (.if_icmp .eq 23, 3) := by decide +kernel
theorem dX10_lossCost_53 : decode cX10_lossCost 53 = .ok (.aload_n 0, 1) := by decide +kernel
theorem dX10_lossCost_54 : decode cX10_lossCost 54 = .ok (.getfield 191, 3) := by decide +kernel
theorem dX10_lossCost_57 : decode cX10_lossCost 57 = .ok (.iconst 3, 1) := by decide +kernel
theorem dX10_lossCost_58 : decode cX10_lossCost 58 = .ok (.if_icmp .ne 19, 3) := by decide +kernel
theorem dX10_lossCost_61 : decode cX10_lossCost 61 = .ok (.aload_n 0, 1) := by decide +kernel
theorem dX10_lossCost_62 : decode cX10_lossCost 62 = .ok (.iload_n 1, 1) := by decide +kernel
theorem dX10_lossCost_63 : decode cX10_lossCost 63 = .ok (.invokevirtual 78, 3) := by decide +kernel
theorem dX10_lossCost_66 : decode cX10_lossCost 66 = .ok (.aload_n 0, 1) := by decide +kernel
theorem dX10_lossCost_67 : decode cX10_lossCost 67 = .ok (.getfield 194, 3) := by decide +kernel
theorem dX10_lossCost_70 : decode cX10_lossCost 70 = .ok (.if_icmp .le 7, 3) := by decide +kernel
theorem dX10_lossCost_73 : decode cX10_lossCost 73 = .ok (.iconst 1, 1) := by decide +kernel
theorem dX10_lossCost_74 : decode cX10_lossCost 74 = .ok (.goto 4, 3) := by decide +kernel
theorem dX10_lossCost_77 : decode cX10_lossCost 77 = .ok (.iconst 0, 1) := by decide +kernel
theorem dX10_lossCost_78 : decode cX10_lossCost 78 = .ok (.istore 9, 2) := by decide +kernel
theorem dX10_lossCost_80 : decode cX10_lossCost 80 = .ok (.iload 9, 2) := by decide +kernel
theorem dX10_lossCost_82 : decode cX10_lossCost 82 = .ok (.ifCond .eq 8, 3) := by decide +kernel
theorem dX10_lossCost_85 : decode cX10_lossCost 85 = .ok (.lload 5, 2) := by decide +kernel
theorem dX10_lossCost_87 : decode cX10_lossCost 87 = .ok (.goto 5, 3) := by decide +kernel
theorem dX10_lossCost_90 : decode cX10_lossCost 90 = .ok (.lload 7, 2) := by decide +kernel
theorem dX10_lossCost_92 : decode cX10_lossCost 92 = .ok (.lreturn, 1) := by decide +kernel
theorem dX10_chanceCost_0 : decode cX10_chanceCost 0 = .ok (.aload_n 0, 1) := by decide +kernel
theorem dX10_chanceCost_1 : decode cX10_chanceCost 1 = .ok (.getfield 34, 3) := by decide +kernel
theorem dX10_chanceCost_4 : decode cX10_chanceCost 4 = .ok (.iload_n 1, 1) := by decide +kernel
theorem dX10_chanceCost_5 : decode cX10_chanceCost 5 = .ok (.iconst 1, 1) := by decide +kernel
theorem dX10_chanceCost_6 : decode cX10_chanceCost 6 = .ok (.iadd, 1) := by decide +kernel
theorem dX10_chanceCost_7 : decode cX10_chanceCost 7 = .ok (.iload_n 2, 1) := by decide +kernel
theorem dX10_chanceCost_8 : decode cX10_chanceCost 8 = .ok (.iload_n 3, 1) := by decide +kernel
theorem dX10_chanceCost_9 : decode cX10_chanceCost 9 = .ok (.invokestatic 181, 3) := by decide +kernel
theorem dX10_chanceCost_12 : decode cX10_chanceCost 12 = .ok (.laload, 1) := by decide +kernel
theorem dX10_chanceCost_13 : decode cX10_chanceCost 13 = .ok (.lstore 4, 2) := by decide +kernel
theorem dX10_chanceCost_15 : decode cX10_chanceCost 15 = .ok (.aload_n 0, 1) := by decide +kernel
theorem dX10_chanceCost_16 : decode cX10_chanceCost 16 = .ok (.getfield 197, 3) := by decide +kernel
theorem dX10_chanceCost_19 : decode cX10_chanceCost 19 = .ok (.ifCond .eq 72, 3) := by decide +kernel
theorem dX10_chanceCost_22 : decode cX10_chanceCost 22 = .ok (.aload_n 0, 1) := by decide +kernel
theorem dX10_chanceCost_23 : decode cX10_chanceCost 23 = .ok (.getfield 13, 3) := by decide +kernel
theorem dX10_chanceCost_26 : decode cX10_chanceCost 26 = .ok (.iconst 3, 1) := by decide +kernel
theorem dX10_chanceCost_27 : decode cX10_chanceCost 27 = .ok (.iaload, 1) := by decide +kernel
theorem dX10_chanceCost_28 : decode cX10_chanceCost 28 = .ok (.bipush 12, 2) := by decide +kernel
theorem dX10_chanceCost_30 : decode cX10_chanceCost 30 = .ok (.if_icmp .ne 9, 3) := by decide +kernel
theorem dX10_chanceCost_33 : decode cX10_chanceCost 33 = .ok (.ldc2_w 201, 3) := by decide +kernel
theorem dX10_chanceCost_36 : decode cX10_chanceCost 36 = .ok (.goto 5, 3) := by decide +kernel
theorem dX10_chanceCost_39 : decode cX10_chanceCost 39 = .ok (.lload 4, 2) := by decide +kernel
theorem dX10_chanceCost_41 : decode cX10_chanceCost 41 = .ok (.lstore 6, 2) := by decide +kernel
theorem dX10_chanceCost_43 : decode cX10_chanceCost 43 = .ok (.iconst 0, 1) := by decide +kernel
theorem dX10_chanceCost_44 : decode cX10_chanceCost 44 = .ok (.istore 8, 2) := by decide +kernel
theorem dX10_chanceCost_46 : decode cX10_chanceCost 46 = .ok (.iload 8, 2) := by decide +kernel
theorem dX10_chanceCost_48 : decode cX10_chanceCost 48 = .ok (.aload_n 0, 1) := by decide +kernel
theorem dX10_chanceCost_49 : decode cX10_chanceCost 49 = .ok (.getfield 13, 3) := by decide +kernel
theorem dX10_chanceCost_52 : decode cX10_chanceCost 52 = .ok (.iconst 1, 1) := by decide +kernel
theorem dX10_chanceCost_53 : decode cX10_chanceCost 53 = .ok (.iaload, 1) := by decide +kernel
theorem dX10_chanceCost_54 : decode cX10_chanceCost 54 = .ok (.if_icmp .ge 34, 3) := by decide +kernel
theorem dX10_chanceCost_57 : decode cX10_chanceCost 57 = .ok (.aload_n 0, 1) := by decide +kernel
theorem dX10_chanceCost_58 : decode cX10_chanceCost 58 = .ok (.getfield 13, 3) := by decide +kernel
theorem dX10_chanceCost_61 : decode cX10_chanceCost 61 = .ok (.iconst 3, 1) := by decide +kernel
theorem dX10_chanceCost_62 : decode cX10_chanceCost 62 = .ok (.iaload, 1) := by decide +kernel
theorem dX10_chanceCost_63 : decode cX10_chanceCost 63 = .ok (.ifCond .le 25, 3) := by decide +kernel
theorem dX10_chanceCost_66 : decode cX10_chanceCost 66 = .ok (.lload 6, 2) := by decide +kernel
theorem dX10_chanceCost_68 : decode cX10_chanceCost 68 = .ok (.aload_n 0, 1) := by decide +kernel
theorem dX10_chanceCost_69 : decode cX10_chanceCost 69 = .ok (.iload 8, 2) := by decide +kernel
theorem dX10_chanceCost_71 : decode cX10_chanceCost 71 = .ok (.iload_n 1, 1) := by decide +kernel
theorem dX10_chanceCost_72 : decode cX10_chanceCost 72 = .ok (.iload_n 2, 1) := by decide +kernel
theorem dX10_chanceCost_73 : decode cX10_chanceCost 73 = .ok (.iload_n 3, 1) := by decide +kernel
theorem dX10_chanceCost_74 : decode cX10_chanceCost 74 = .ok (.invokevirtual 203, 3) := by decide +kernel
theorem dX10_chanceCost_77 : decode cX10_chanceCost 77 = .ok (.invokestatic 206, 3) := by decide +kernel
theorem dX10_chanceCost_80 : decode cX10_chanceCost 80 = .ok (.lstore 6, 2) := by decide +kernel
theorem dX10_chanceCost_82 : decode cX10_chanceCost 82 = .ok (.iinc 8 1, 3) := by decide +kernel
theorem dX10_chanceCost_85 : decode cX10_chanceCost 85 = .ok (.goto (-39), 3) := by decide +kernel
theorem dX10_chanceCost_88 : decode cX10_chanceCost 88 = .ok (.lload 6, 2) := by decide +kernel
theorem dX10_chanceCost_90 : decode cX10_chanceCost 90 = .ok (.lreturn, 1) := by decide +kernel
theorem dX10_chanceCost_91 : decode cX10_chanceCost 91 = .ok (.aload_n 0, 1) := by decide +kernel
theorem dX10_chanceCost_92 : decode cX10_chanceCost 92 = .ok (.invokevirtual 135, 3) := by decide +kernel
theorem dX10_chanceCost_95 : decode cX10_chanceCost 95 = .ok (.istore 6, 2) := by decide +kernel
theorem dX10_chanceCost_97 : decode cX10_chanceCost 97 = .ok (.bipush 12, 2) := by decide +kernel
theorem dX10_chanceCost_99 : decode cX10_chanceCost 99 = .ok (.aload_n 0, 1) := by decide +kernel
theorem dX10_chanceCost_100 : decode cX10_chanceCost 100 = .ok (.getfield 13, 3) := by decide +kernel
theorem dX10_chanceCost_103 : decode cX10_chanceCost 103 = .ok (.iconst 3, 1) := by decide +kernel
theorem dX10_chanceCost_104 : decode cX10_chanceCost 104 = .ok (.iaload, 1) := by decide +kernel
theorem dX10_chanceCost_105 : decode cX10_chanceCost 105 = .ok (.isub, 1) := by decide +kernel
theorem dX10_chanceCost_106 : decode cX10_chanceCost 106 = .ok (.iload 6, 2) := by decide +kernel
theorem dX10_chanceCost_108 : decode cX10_chanceCost 108 = .ok (.imul, 1) := by decide +kernel
theorem dX10_chanceCost_109 : decode cX10_chanceCost 109 = .ok (.i2l, 1) := by decide +kernel
theorem dX10_chanceCost_110 : decode cX10_chanceCost 110 = .ok (.lload 4, 2) := by decide +kernel
theorem dX10_chanceCost_112 : decode cX10_chanceCost 112 = .ok (.lmul, 1) := by decide +kernel
theorem dX10_chanceCost_113 : decode cX10_chanceCost 113 = .ok (.lstore 7, 2) := by decide +kernel
theorem dX10_chanceCost_115 : decode cX10_chanceCost 115 = .ok (.iconst 0, 1) := by decide +kernel
theorem dX10_chanceCost_116 : decode cX10_chanceCost 116 = .ok (.istore 9, 2) := by decide +kernel
theorem dX10_chanceCost_118 : decode cX10_chanceCost 118 = .ok (.iload 9, 2) := by decide +kernel
theorem dX10_chanceCost_120 : decode cX10_chanceCost 120 = .ok (.aload_n 0, 1) := by decide +kernel
theorem dX10_chanceCost_121 : decode cX10_chanceCost 121 = .ok (.getfield 13, 3) := by decide +kernel
theorem dX10_chanceCost_124 : decode cX10_chanceCost 124 = .ok (.iconst 1, 1) := by decide +kernel
theorem dX10_chanceCost_125 : decode cX10_chanceCost 125 = .ok (.iaload, 1) := by decide +kernel
theorem dX10_chanceCost_126 : decode cX10_chanceCost 126 = .ok (.if_icmp .ge 38, 3) := by decide +kernel
theorem dX10_chanceCost_129 : decode cX10_chanceCost 129 = .ok (.lload 7, 2) := by decide +kernel
theorem dX10_chanceCost_131 : decode cX10_chanceCost 131 = .ok (.aload_n 0, 1) := by decide +kernel
theorem dX10_chanceCost_132 : decode cX10_chanceCost 132 = .ok (.getfield 13, 3) := by decide +kernel
theorem dX10_chanceCost_135 : decode cX10_chanceCost 135 = .ok (.iconst 3, 1) := by decide +kernel
theorem dX10_chanceCost_136 : decode cX10_chanceCost 136 = .ok (.iaload, 1) := by decide +kernel
theorem dX10_chanceCost_137 : decode cX10_chanceCost 137 = .ok (.aload_n 0, 1) := by decide +kernel
theorem dX10_chanceCost_138 : decode cX10_chanceCost 138 = .ok (.iload 9, 2) := by decide +kernel
theorem dX10_chanceCost_140 : decode cX10_chanceCost 140 = .ok (.invokevirtual 70, 3) := by decide +kernel
theorem dX10_chanceCost_143 : decode cX10_chanceCost 143 = .ok (.imul, 1) := by decide +kernel
theorem dX10_chanceCost_144 : decode cX10_chanceCost 144 = .ok (.i2l, 1) := by decide +kernel
theorem dX10_chanceCost_145 : decode cX10_chanceCost 145 = .ok (.aload_n 0, 1) := by decide +kernel
theorem dX10_chanceCost_146 : decode cX10_chanceCost 146 = .ok (.iload 9, 2) := by decide +kernel
theorem dX10_chanceCost_148 : decode cX10_chanceCost 148 = .ok (.iload_n 1, 1) := by decide +kernel
theorem dX10_chanceCost_149 : decode cX10_chanceCost 149 = .ok (.iload_n 2, 1) := by decide +kernel
theorem dX10_chanceCost_150 : decode cX10_chanceCost 150 = .ok (.iload_n 3, 1) := by decide +kernel
theorem dX10_chanceCost_151 : decode cX10_chanceCost 151 = .ok (.invokevirtual 203, 3) := by decide +kernel
theorem dX10_chanceCost_154 : decode cX10_chanceCost 154 = .ok (.lmul, 1) := by decide +kernel
theorem dX10_chanceCost_155 : decode cX10_chanceCost 155 = .ok (.ladd, 1) := by decide +kernel
theorem dX10_chanceCost_156 : decode cX10_chanceCost 156 = .ok (.lstore 7, 2) := by decide +kernel
theorem dX10_chanceCost_158 : decode cX10_chanceCost 158 = .ok (.iinc 9 1, 3) := by decide +kernel
theorem dX10_chanceCost_161 : decode cX10_chanceCost 161 = .ok (.goto (-43), 3) := by decide +kernel
theorem dX10_chanceCost_164 : decode cX10_chanceCost 164 = .ok (.lload 7, 2) := by decide +kernel
theorem dX10_chanceCost_166 : decode cX10_chanceCost 166 = .ok (.bipush 12, 2) := by decide +kernel
theorem dX10_chanceCost_168 : decode cX10_chanceCost 168 = .ok (.iload 6, 2) := by decide +kernel
theorem dX10_chanceCost_170 : decode cX10_chanceCost 170 = .ok (.imul, 1) := by decide +kernel
theorem dX10_chanceCost_171 : decode cX10_chanceCost 171 = .ok (.i2l, 1) := by decide +kernel
theorem dX10_chanceCost_172 : decode cX10_chanceCost 172 = .ok (.ldiv, 1) := by decide +kernel
theorem dX10_chanceCost_173 : decode cX10_chanceCost 173 = .ok (.lreturn, 1) := by decide +kernel
theorem dX10_laysChances_0 : decode cX10_laysChances 0 = .ok (.iconst 0, 1) := by decide +kernel
theorem dX10_laysChances_1 : decode cX10_laysChances 1 = .ok (.istore_n 3, 1) := by decide +kernel
theorem dX10_laysChances_2 : decode cX10_laysChances 2 = .ok (.iload_n 3, 1) := by decide +kernel
theorem dX10_laysChances_3 : decode cX10_laysChances 3 = .ok (.iconst 3, 1) := by decide +kernel
theorem dX10_laysChances_4 : decode cX10_laysChances 4 = .ok (.if_icmp .ge 56, 3) := by decide +kernel
theorem dX10_laysChances_7 : decode cX10_laysChances 7 = .ok (.aload_n 0, 1) := by decide +kernel
theorem dX10_laysChances_8 : decode cX10_laysChances 8 = .ok (.iload_n 1, 1) := by decide +kernel
theorem dX10_laysChances_9 : decode cX10_laysChances 9 = .ok (.iconst 1, 1) := by decide +kernel
theorem dX10_laysChances_10 : decode cX10_laysChances 10 = .ok (.isub, 1) := by decide +kernel
theorem dX10_laysChances_11 : decode cX10_laysChances 11 = .ok (.aload_n 0, 1) := by decide +kernel
theorem dX10_laysChances_12 : decode cX10_laysChances 12 = .ok (.iload_n 2, 1) := by decide +kernel
theorem dX10_laysChances_13 : decode cX10_laysChances 13 = .ok (.iload_n 3, 1) := by decide +kernel
theorem dX10_laysChances_14 : decode cX10_laysChances 14 = .ok (.invokevirtual 118, 3) := by decide +kernel
theorem dX10_laysChances_17 : decode cX10_laysChances 17 = .ok (.invokevirtual 210, 3) := by decide +kernel
theorem dX10_laysChances_20 : decode cX10_laysChances 20 = .ok (.lstore 4, 2) := by decide +kernel
theorem dX10_laysChances_22 : decode cX10_laysChances 22 = .ok (.aload_n 0, 1) := by decide +kernel
theorem dX10_laysChances_23 : decode cX10_laysChances 23 = .ok (.getfield 34, 3) := by decide +kernel
theorem dX10_laysChances_26 : decode cX10_laysChances 26 = .ok (.aload_n 0, 1) := by decide +kernel
theorem dX10_laysChances_27 : decode cX10_laysChances 27 = .ok (.getfield 214, 3) := by decide +kernel
theorem dX10_laysChances_30 : decode cX10_laysChances 30 = .ok (.iload_n 3, 1) := by decide +kernel
theorem dX10_laysChances_31 : decode cX10_laysChances 31 = .ok (.iconst 0, 1) := by decide +kernel
theorem dX10_laysChances_32 : decode cX10_laysChances 32 = .ok (.invokestatic 181, 3) := by decide +kernel
theorem dX10_laysChances_35 : decode cX10_laysChances 35 = .ok (.lload 4, 2) := by decide +kernel
theorem dX10_laysChances_37 : decode cX10_laysChances 37 = .ok (.lastore, 1) := by decide +kernel
theorem dX10_laysChances_38 : decode cX10_laysChances 38 = .ok (.aload_n 0, 1) := by decide +kernel
theorem dX10_laysChances_39 : decode cX10_laysChances 39 = .ok (.getfield 34, 3) := by decide +kernel
theorem dX10_laysChances_42 : decode cX10_laysChances 42 = .ok (.aload_n 0, 1) := by decide +kernel
theorem dX10_laysChances_43 : decode cX10_laysChances 43 = .ok (.getfield 214, 3) := by decide +kernel
theorem dX10_laysChances_46 : decode cX10_laysChances 46 = .ok (.iload_n 3, 1) := by decide +kernel
theorem dX10_laysChances_47 : decode cX10_laysChances 47 = .ok (.iconst 1, 1) := by decide +kernel
theorem dX10_laysChances_48 : decode cX10_laysChances 48 = .ok (.invokestatic 181, 3) := by decide +kernel
theorem dX10_laysChances_51 : decode cX10_laysChances 51 = .ok (.lload 4, 2) := by decide +kernel
theorem dX10_laysChances_53 : decode cX10_laysChances 53 = .ok (.lastore, 1) := by decide +kernel
theorem dX10_laysChances_54 : decode cX10_laysChances 54 = .ok (.iinc 3 1, 3) := by decide +kernel
theorem dX10_laysChances_57 : decode cX10_laysChances 57 = .ok (.goto (-55), 3) := by decide +kernel
theorem dX10_laysChances_60 : decode cX10_laysChances 60 = .ok (.aload_n 0, 1) := by decide +kernel
theorem dX10_laysChances_61 : decode cX10_laysChances 61 = .ok (.getfield 214, 3) := by decide +kernel
theorem dX10_laysChances_64 : decode cX10_laysChances 64 = .ok (.iconst 1, 1) := by decide +kernel
theorem dX10_laysChances_65 : decode cX10_laysChances 65 = .ok (.isub, 1) := by decide +kernel
theorem dX10_laysChances_66 : decode cX10_laysChances 66 = .ok (.istore_n 3, 1) := by decide +kernel
theorem dX10_laysChances_67 : decode cX10_laysChances 67 = .ok (.iload_n 3, 1) := by decide +kernel
theorem dX10_laysChances_68 : decode cX10_laysChances 68 = .ok (.ifCond .lt 61, 3) := by decide +kernel
theorem dX10_laysChances_71 : decode cX10_laysChances 71 = .ok (.iconst 0, 1) := by decide +kernel
theorem dX10_laysChances_72 : decode cX10_laysChances 72 = .ok (.istore 4, 2) := by decide +kernel
theorem dX10_laysChances_74 : decode cX10_laysChances 74 = .ok (.iload 4, 2) := by decide +kernel
theorem dX10_laysChances_76 : decode cX10_laysChances 76 = .ok (.iconst 3, 1) := by decide +kernel
theorem dX10_laysChances_77 : decode cX10_laysChances 77 = .ok (.if_icmp .ge 46, 3) := by decide +kernel
theorem dX10_laysChances_80 : decode cX10_laysChances 80 = .ok (.iconst 0, 1) := by decide +kernel
theorem dX10_laysChances_81 : decode cX10_laysChances 81 = .ok (.istore 5, 2) := by decide +kernel
theorem dX10_laysChances_83 : decode cX10_laysChances 83 = .ok (.iload 5, 2) := by decide +kernel
theorem dX10_laysChances_85 : decode cX10_laysChances 85 = .ok (.iconst 2, 1) := by decide +kernel
theorem dX10_laysChances_86 : decode cX10_laysChances 86 = .ok (.if_icmp .ge 31, 3) := by decide +kernel
theorem dX10_laysChances_89 : decode cX10_laysChances 89 = .ok (.aload_n 0, 1) := by decide +kernel
theorem dX10_laysChances_90 : decode cX10_laysChances 90 = .ok (.getfield 34, 3) := by decide +kernel
theorem dX10_laysChances_93 : decode cX10_laysChances 93 = .ok (.iload_n 3, 1) := by decide +kernel
theorem dX10_laysChances_94 : decode cX10_laysChances 94 = .ok (.iload 4, 2) := by decide +kernel
theorem dX10_laysChances_96 : decode cX10_laysChances 96 = .ok (.iload 5, 2) := by decide +kernel
theorem dX10_laysChances_98 : decode cX10_laysChances 98 = .ok (.invokestatic 181, 3) := by decide +kernel
theorem dX10_laysChances_101 : decode cX10_laysChances 101 = .ok (.aload_n 0, 1) := by decide +kernel
theorem dX10_laysChances_102 : decode cX10_laysChances 102 = .ok (.iload_n 3, 1) := by decide +kernel
theorem dX10_laysChances_103 : decode cX10_laysChances 103 = .ok (.iload 4, 2) := by decide +kernel
theorem dX10_laysChances_105 : decode cX10_laysChances 105 = .ok (.iload 5, 2) := by decide +kernel
theorem dX10_laysChances_107 : decode cX10_laysChances 107 = .ok (.invokevirtual 217, 3) := by decide +kernel
theorem dX10_laysChances_110 : decode cX10_laysChances 110 = .ok (.lastore, 1) := by decide +kernel
theorem dX10_laysChances_111 : decode cX10_laysChances 111 = .ok (.iinc 5 1, 3) := by decide +kernel
theorem dX10_laysChances_114 : decode cX10_laysChances 114 = .ok (.goto (-31), 3) := by decide +kernel
theorem dX10_laysChances_117 : decode cX10_laysChances 117 = .ok (.iinc 4 1, 3) := by decide +kernel
theorem dX10_laysChances_120 : decode cX10_laysChances 120 = .ok (.goto (-46), 3) := by decide +kernel
theorem dX10_laysChances_123 : decode cX10_laysChances 123 = .ok (.iinc 3 (-1), 3) := by decide +kernel
theorem dX10_laysChances_126 : decode cX10_laysChances 126 = .ok (.goto (-59), 3) := by decide +kernel
theorem dX10_laysChances_129 : decode cX10_laysChances 129 = .ok (.return_, 1) := by decide +kernel
theorem dX10_laysYears_0 : decode cX10_laysYears 0 = .ok (.aload_n 0, 1) := by decide +kernel
theorem dX10_laysYears_1 : decode cX10_laysYears 1 = .ok (.iload_n 3, 1) := by decide +kernel
theorem dX10_laysYears_2 : decode cX10_laysYears 2 = .ok (.putfield 214, 3) := by decide +kernel
theorem dX10_laysYears_5 : decode cX10_laysYears 5 = .ok (.iconst 0, 1) := by decide +kernel
theorem dX10_laysYears_6 : decode cX10_laysYears 6 = .ok (.istore 6, 2) := by decide +kernel
theorem dX10_laysYears_8 : decode cX10_laysYears 8 = .ok (.iload 6, 2) := by decide +kernel
theorem dX10_laysYears_10 : decode cX10_laysYears 10 = .ok (.bipush 8, 2) := by decide +kernel
theorem dX10_laysYears_12 : decode cX10_laysYears 12 = .ok (.if_icmp .ge 17, 3) := by decide +kernel
theorem dX10_laysYears_15 : decode cX10_laysYears 15 = .ok (.aload_n 0, 1) := by decide +kernel
theorem dX10_laysYears_16 : decode cX10_laysYears 16 = .ok (.getfield 26, 3) := by decide +kernel
theorem dX10_laysYears_19 : decode cX10_laysYears 19 = .ok (.iload 6, 2) := by decide +kernel
theorem dX10_laysYears_21 : decode cX10_laysYears 21 = .ok (.lconst 0, 1) := by decide +kernel
theorem dX10_laysYears_22 : decode cX10_laysYears 22 = .ok (.lastore, 1) := by decide +kernel
theorem dX10_laysYears_23 : decode cX10_laysYears 23 = .ok (.iinc 6 1, 3) := by decide +kernel
theorem dX10_laysYears_26 : decode cX10_laysYears 26 = .ok (.goto (-18), 3) := by decide +kernel
theorem dX10_laysYears_29 : decode cX10_laysYears 29 = .ok (.iconst 1, 1) := by decide +kernel
theorem dX10_laysYears_30 : decode cX10_laysYears 30 = .ok (.istore 6, 2) := by decide +kernel
theorem dX10_laysYears_32 : decode cX10_laysYears 32 = .ok (.iload 6, 2) := by decide +kernel
theorem dX10_laysYears_34 : decode cX10_laysYears 34 = .ok (.iload_n 1, 1) := by decide +kernel
theorem dX10_laysYears_35 : decode cX10_laysYears 35 = .ok (.if_icmp .gt 160, 3) := by decide +kernel
theorem dX10_laysYears_38 : decode cX10_laysYears 38 = .ok (.iconst 0, 1) := by decide +kernel
theorem dX10_laysYears_39 : decode cX10_laysYears 39 = .ok (.istore 7, 2) := by decide +kernel
theorem dX10_laysYears_41 : decode cX10_laysYears 41 = .ok (.iload 7, 2) := by decide +kernel
theorem dX10_laysYears_43 : decode cX10_laysYears 43 = .ok (.aload_n 0, 1) := by decide +kernel
theorem dX10_laysYears_44 : decode cX10_laysYears 44 = .ok (.getfield 13, 3) := by decide +kernel
theorem dX10_laysYears_47 : decode cX10_laysYears 47 = .ok (.iconst 0, 1) := by decide +kernel
theorem dX10_laysYears_48 : decode cX10_laysYears 48 = .ok (.iaload, 1) := by decide +kernel
theorem dX10_laysYears_49 : decode cX10_laysYears 49 = .ok (.if_icmp .ge 140, 3) := by decide +kernel
theorem dX10_laysYears_52 : decode cX10_laysYears 52 = .ok (.aload_n 0, 1) := by decide +kernel
theorem dX10_laysYears_53 : decode cX10_laysYears 53 = .ok (.iload 6, 2) := by decide +kernel
theorem dX10_laysYears_55 : decode cX10_laysYears 55 = .ok (.iload 7, 2) := by decide +kernel
theorem dX10_laysYears_57 : decode cX10_laysYears 57 = .ok (.invokevirtual 152, 3) := by decide +kernel
theorem dX10_laysYears_60 : decode cX10_laysYears 60 = .ok (.iload 4, 2) := by decide +kernel
theorem dX10_laysYears_62 : decode cX10_laysYears 62 = .ok (.i2l, 1) := by decide +kernel
theorem dX10_laysYears_63 : decode cX10_laysYears 63 = .ok (.aload_n 0, 1) := by decide +kernel
theorem dX10_laysYears_64 : decode cX10_laysYears 64 = .ok (.iload 7, 2) := by decide +kernel
theorem dX10_laysYears_66 : decode cX10_laysYears 66 = .ok (.iconst 0, 1) := by decide +kernel
theorem dX10_laysYears_67 : decode cX10_laysYears 67 = .ok (.invokevirtual 74, 3) := by decide +kernel
theorem dX10_laysYears_70 : decode cX10_laysYears 70 = .ok (.i2l, 1) := by decide +kernel
theorem dX10_laysYears_71 : decode cX10_laysYears 71 = .ok (.lmul, 1) := by decide +kernel
theorem dX10_laysYears_72 : decode cX10_laysYears 72 = .ok (.ldc2_w 179, 3) := by decide +kernel
theorem dX10_laysYears_75 : decode cX10_laysYears 75 = .ok (.lmul, 1) := by decide +kernel
theorem dX10_laysYears_76 : decode cX10_laysYears 76 = .ok (.lstore 8, 2) := by decide +kernel
theorem dX10_laysYears_78 : decode cX10_laysYears 78 = .ok (.lload 8, 2) := by decide +kernel
theorem dX10_laysYears_80 : decode cX10_laysYears 80 = .ok (.lload 8, 2) := by decide +kernel
theorem dX10_laysYears_82 : decode cX10_laysYears 82 = .ok (.iload 5, 2) := by decide +kernel
theorem dX10_laysYears_84 : decode cX10_laysYears 84 = .ok (.i2l, 1) := by decide +kernel
theorem dX10_laysYears_85 : decode cX10_laysYears 85 = .ok (.lmul, 1) := by decide +kernel
theorem dX10_laysYears_86 : decode cX10_laysYears 86 = .ok (.ldc2_w 221, 3) := by decide +kernel
theorem dX10_laysYears_89 : decode cX10_laysYears 89 = .ok (.ldiv, 1) := by decide +kernel
theorem dX10_laysYears_90 : decode cX10_laysYears 90 = .ok (.lsub, 1) := by decide +kernel
theorem dX10_laysYears_91 : decode cX10_laysYears 91 = .ok (.aload_n 0, 1) := by decide +kernel
theorem dX10_laysYears_92 : decode cX10_laysYears 92 = .ok (.getfield 34, 3) := by decide +kernel
theorem dX10_laysYears_95 : decode cX10_laysYears 95 = .ok (.iconst 0, 1) := by decide +kernel
theorem dX10_laysYears_96 : decode cX10_laysYears 96 = .ok (.laload, 1) := by decide +kernel
theorem dX10_laysYears_97 : decode cX10_laysYears 97 = .ok (.ladd, 1) := by decide +kernel
theorem dX10_laysYears_98 : decode cX10_laysYears 98 = .ok (.lstore 10, 2) := by decide +kernel
theorem dX10_laysYears_100 : decode cX10_laysYears 100 = .ok (.lload 8, 2) := by decide +kernel
theorem dX10_laysYears_102 : decode cX10_laysYears 102 = .ok (.aload_n 0, 1) := by decide +kernel
theorem dX10_laysYears_103 : decode cX10_laysYears 103 = .ok (.iload 7, 2) := by decide +kernel
theorem dX10_laysYears_105 : decode cX10_laysYears 105 = .ok (.iconst 4, 1) := by decide +kernel
theorem dX10_laysYears_106 : decode cX10_laysYears 106 = .ok (.invokevirtual 74, 3) := by decide +kernel
theorem dX10_laysYears_109 : decode cX10_laysYears 109 = .ok (.i2l, 1) := by decide +kernel
theorem dX10_laysYears_110 : decode cX10_laysYears 110 = .ok (.ldc2_w 179, 3) := by decide +kernel
theorem dX10_laysYears_113 : decode cX10_laysYears 113 = .ok (.lmul, 1) := by decide +kernel
theorem dX10_laysYears_114 : decode cX10_laysYears 114 = .ok (.ladd, 1) := by decide +kernel
theorem dX10_laysYears_115 : decode cX10_laysYears 115 = .ok (.aload_n 0, 1) := by decide +kernel
theorem dX10_laysYears_116 : decode cX10_laysYears 116 = .ok (.getfield 34, 3) := by decide +kernel
theorem dX10_laysYears_119 : decode cX10_laysYears 119 = .ok (.iconst 1, 1) := by decide +kernel
theorem dX10_laysYears_120 : decode cX10_laysYears 120 = .ok (.laload, 1) := by decide +kernel
theorem dX10_laysYears_121 : decode cX10_laysYears 121 = .ok (.ladd, 1) := by decide +kernel
theorem dX10_laysYears_122 : decode cX10_laysYears 122 = .ok (.lstore 12, 2) := by decide +kernel
theorem dX10_laysYears_124 : decode cX10_laysYears 124 = .ok (.iload_n 2, 1) := by decide +kernel
theorem dX10_laysYears_125 : decode cX10_laysYears 125 = .ok (.ifCond .eq 15, 3) := by decide +kernel
theorem dX10_laysYears_128 : decode cX10_laysYears 128 = .ok (.lload 12, 2) := by decide +kernel
theorem dX10_laysYears_130 : decode cX10_laysYears 130 = .ok (.lload 10, 2) := by decide +kernel
theorem dX10_laysYears_132 : decode cX10_laysYears 132 = .ok (.lcmp, 1) := by decide +kernel
theorem dX10_laysYears_133 : decode cX10_laysYears 133 = .ok (.ifCond .ge 7, 3) := by decide +kernel
theorem dX10_laysYears_136 : decode cX10_laysYears 136 = .ok (.iconst 1, 1) := by decide +kernel
theorem dX10_laysYears_137 : decode cX10_laysYears 137 = .ok (.goto 4, 3) := by decide +kernel
theorem dX10_laysYears_140 : decode cX10_laysYears 140 = .ok (.iconst 0, 1) := by decide +kernel
theorem dX10_laysYears_141 : decode cX10_laysYears 141 = .ok (.istore 14, 2) := by decide +kernel
theorem dX10_laysYears_143 : decode cX10_laysYears 143 = .ok (.aload_n 0, 1) := by decide +kernel
theorem dX10_laysYears_144 : decode cX10_laysYears 144 = .ok (.getfield 30, 3) := by decide +kernel
theorem dX10_laysYears_147 : decode cX10_laysYears 147 = .ok (.bipush 8, 2) := by decide +kernel
theorem dX10_laysYears_149 : decode cX10_laysYears 149 = .ok (.iload 6, 2) := by decide +kernel
theorem dX10_laysYears_151 : decode cX10_laysYears 151 = .ok (.imul, 1) := by decide +kernel
theorem dX10_laysYears_152 : decode cX10_laysYears 152 = .ok (.iload 7, 2) := by decide +kernel
theorem dX10_laysYears_154 : decode cX10_laysYears 154 = .ok (.iadd, 1) := by decide +kernel
theorem dX10_laysYears_155 : decode cX10_laysYears 155 = .ok (.iload 14, 2) := by decide +kernel
theorem dX10_laysYears_157 : decode cX10_laysYears 157 = .ok (.bastore, 1) := by decide +kernel
theorem dX10_laysYears_158 : decode cX10_laysYears 158 = .ok (.aload_n 0, 1) := by decide +kernel
theorem dX10_laysYears_159 : decode cX10_laysYears 159 = .ok (.getfield 26, 3) := by decide +kernel
theorem dX10_laysYears_162 : decode cX10_laysYears 162 = .ok (.bipush 8, 2) := by decide +kernel
theorem dX10_laysYears_164 : decode cX10_laysYears 164 = .ok (.iload 6, 2) := by decide +kernel
theorem dX10_laysYears_166 : decode cX10_laysYears 166 = .ok (.imul, 1) := by decide +kernel
theorem dX10_laysYears_167 : decode cX10_laysYears 167 = .ok (.iload 7, 2) := by decide +kernel
theorem dX10_laysYears_169 : decode cX10_laysYears 169 = .ok (.iadd, 1) := by decide +kernel
theorem dX10_laysYears_170 : decode cX10_laysYears 170 = .ok (.iload 14, 2) := by decide +kernel
theorem dX10_laysYears_172 : decode cX10_laysYears 172 = .ok (.ifCond .eq 8, 3) := by decide +kernel
theorem dX10_laysYears_175 : decode cX10_laysYears 175 = .ok (.lload 12, 2) := by decide +kernel
theorem dX10_laysYears_177 : decode cX10_laysYears 177 = .ok (.goto 5, 3) := by decide +kernel
theorem dX10_laysYears_180 : decode cX10_laysYears 180 = .ok (.lload 10, 2) := by decide +kernel
theorem dX10_laysYears_182 : decode cX10_laysYears 182 = .ok (.lastore, 1) := by decide +kernel
theorem dX10_laysYears_183 : decode cX10_laysYears 183 = .ok (.iinc 7 1, 3) := by decide +kernel
theorem dX10_laysYears_186 : decode cX10_laysYears 186 = .ok (.goto (-145), 3) := by decide +kernel
theorem dX10_laysYears_189 : decode cX10_laysYears 189 = .ok (.iinc 6 1, 3) := by decide +kernel
theorem dX10_laysYears_192 : decode cX10_laysYears 192 = .ok (.goto (-160), 3) := by decide +kernel
theorem dX10_laysYears_195 : decode cX10_laysYears 195 = .ok (.return_, 1) := by decide +kernel
theorem dX10_lays_0 : decode cX10_lays 0 = .ok (.aload_n 0, 1) := by decide +kernel
theorem dX10_lays_1 : decode cX10_lays 1 = .ok (.iload_n 3, 1) := by decide +kernel
theorem dX10_lays_2 : decode cX10_lays 2 = .ok (.putfield 191, 3) := by decide +kernel
theorem dX10_lays_5 : decode cX10_lays 5 = .ok (.aload_n 0, 1) := by decide +kernel
theorem dX10_lays_6 : decode cX10_lays 6 = .ok (.iload 4, 2) := by decide +kernel
theorem dX10_lays_8 : decode cX10_lays 8 = .ok (.putfield 194, 3) := by decide +kernel
theorem dX10_lays_11 : decode cX10_lays 11 = .ok (.aload_n 0, 1) := by decide +kernel
theorem dX10_lays_12 : decode cX10_lays 12 = .ok (.iconst 0, 1) := by decide +kernel
theorem dX10_lays_13 : decode cX10_lays 13 = .ok (.putfield 197, 3) := by decide +kernel
theorem dX10_lays_16 : decode cX10_lays 16 = .ok (.aload_n 0, 1) := by decide +kernel
theorem dX10_lays_17 : decode cX10_lays 17 = .ok (.iload_n 1, 1) := by decide +kernel
theorem dX10_lays_18 : decode cX10_lays 18 = .ok (.iload_n 2, 1) := by decide +kernel
theorem dX10_lays_19 : decode cX10_lays 19 = .ok (.aload_n 0, 1) := by decide +kernel
theorem dX10_lays_20 : decode cX10_lays 20 = .ok (.getfield 13, 3) := by decide +kernel
theorem dX10_lays_23 : decode cX10_lays 23 = .ok (.iconst 2, 1) := by decide +kernel
theorem dX10_lays_24 : decode cX10_lays 24 = .ok (.iaload, 1) := by decide +kernel
theorem dX10_lays_25 : decode cX10_lays 25 = .ok (.iconst 1, 1) := by decide +kernel
theorem dX10_lays_26 : decode cX10_lays 26 = .ok (.iconst 0, 1) := by decide +kernel
theorem dX10_lays_27 : decode cX10_lays 27 = .ok (.invokevirtual 223, 3) := by decide +kernel
theorem dX10_lays_30 : decode cX10_lays 30 = .ok (.return_, 1) := by decide +kernel
theorem dX10_areYears_0 : decode cX10_areYears 0 = .ok (.iload_n 0, 1) := by decide +kernel
theorem dX10_areYears_1 : decode cX10_areYears 1 = .ok (.i2l, 1) := by decide +kernel
theorem dX10_areYears_2 : decode cX10_areYears 2 = .ok (.lconst 0, 1) := by decide +kernel
theorem dX10_areYears_3 : decode cX10_areYears 3 = .ok (.ldc2_w 163, 3) := by decide +kernel
theorem dX10_areYears_6 : decode cX10_areYears 6 = .ok (.invokestatic 66, 3) := by decide +kernel
theorem dX10_areYears_9 : decode cX10_areYears 9 = .ok (.ireturn, 1) := by decide +kernel
theorem dX10_bestCost_0 : decode cX10_bestCost 0 = .ok (.aload_n 0, 1) := by decide +kernel
theorem dX10_bestCost_1 : decode cX10_bestCost 1 = .ok (.iload_n 1, 1) := by decide +kernel
theorem dX10_bestCost_2 : decode cX10_bestCost 2 = .ok (.iconst 1, 1) := by decide +kernel
theorem dX10_bestCost_3 : decode cX10_bestCost 3 = .ok (.iconst 0, 1) := by decide +kernel
theorem dX10_bestCost_4 : decode cX10_bestCost 4 = .ok (.iconst 0, 1) := by decide +kernel
theorem dX10_bestCost_5 : decode cX10_bestCost 5 = .ok (.invokevirtual 142, 3) := by decide +kernel
theorem dX10_bestCost_8 : decode cX10_bestCost 8 = .ok (.aload_n 0, 1) := by decide +kernel
theorem dX10_bestCost_9 : decode cX10_bestCost 9 = .ok (.iload_n 1, 1) := by decide +kernel
theorem dX10_bestCost_10 : decode cX10_bestCost 10 = .ok (.iload_n 2, 1) := by decide +kernel
theorem dX10_bestCost_11 : decode cX10_bestCost 11 = .ok (.invokevirtual 210, 3) := by decide +kernel
theorem dX10_bestCost_14 : decode cX10_bestCost 14 = .ok (.lreturn, 1) := by decide +kernel
theorem dX10_bareCost_0 : decode cX10_bareCost 0 = .ok (.aload_n 0, 1) := by decide +kernel
theorem dX10_bareCost_1 : decode cX10_bareCost 1 = .ok (.iload_n 1, 1) := by decide +kernel
theorem dX10_bareCost_2 : decode cX10_bareCost 2 = .ok (.iconst 0, 1) := by decide +kernel
theorem dX10_bareCost_3 : decode cX10_bareCost 3 = .ok (.iconst 0, 1) := by decide +kernel
theorem dX10_bareCost_4 : decode cX10_bareCost 4 = .ok (.iconst 0, 1) := by decide +kernel
theorem dX10_bareCost_5 : decode cX10_bareCost 5 = .ok (.invokevirtual 142, 3) := by decide +kernel
theorem dX10_bareCost_8 : decode cX10_bareCost 8 = .ok (.aload_n 0, 1) := by decide +kernel
theorem dX10_bareCost_9 : decode cX10_bareCost 9 = .ok (.iload_n 1, 1) := by decide +kernel
theorem dX10_bareCost_10 : decode cX10_bareCost 10 = .ok (.iload_n 2, 1) := by decide +kernel
theorem dX10_bareCost_11 : decode cX10_bareCost 11 = .ok (.invokevirtual 210, 3) := by decide +kernel
theorem dX10_bareCost_14 : decode cX10_bareCost 14 = .ok (.lreturn, 1) := by decide +kernel
theorem dX10_cost_0 : decode cX10_cost 0 = .ok (.iload_n 1, 1) := by decide +kernel
theorem dX10_cost_1 : decode cX10_cost 1 = .ok (.invokestatic 227, 3) := by decide +kernel
theorem dX10_cost_4 : decode cX10_cost 4 = .ok (.ifCond .eq 20, 3) := by decide +kernel
theorem dX10_cost_7 : decode cX10_cost 7 = .ok (.aload_n 0, 1) := by decide +kernel
theorem dX10_cost_8 : decode cX10_cost 8 = .ok (.iload_n 2, 1) := by decide +kernel
theorem dX10_cost_9 : decode cX10_cost 9 = .ok (.invokevirtual 84, 3) := by decide +kernel
theorem dX10_cost_12 : decode cX10_cost 12 = .ok (.ifCond .eq 12, 3) := by decide +kernel
theorem dX10_cost_15 : decode cX10_cost 15 = .ok (.aload_n 0, 1) := by decide +kernel
theorem dX10_cost_16 : decode cX10_cost 16 = .ok (.iload_n 1, 1) := by decide +kernel
theorem dX10_cost_17 : decode cX10_cost 17 = .ok (.iload_n 2, 1) := by decide +kernel
theorem dX10_cost_18 : decode cX10_cost 18 = .ok (.invokevirtual 230, 3) := by decide +kernel
theorem dX10_cost_21 : decode cX10_cost 21 = .ok (.goto 6, 3) := by decide +kernel
theorem dX10_cost_24 : decode cX10_cost 24 = .ok (.ldc2_w 233, 3) := by decide +kernel
theorem dX10_cost_27 : decode cX10_cost 27 = .ok (.lreturn, 1) := by decide +kernel
theorem dX10_guards_0 : decode cX10_guards 0 = .ok (.iload_n 1, 1) := by decide +kernel
theorem dX10_guards_1 : decode cX10_guards 1 = .ok (.invokestatic 227, 3) := by decide +kernel
theorem dX10_guards_4 : decode cX10_guards 4 = .ok (.ifCond .eq 11, 3) := by decide +kernel
theorem dX10_guards_7 : decode cX10_guards 7 = .ok (.aload_n 0, 1) := by decide +kernel
theorem dX10_guards_8 : decode cX10_guards 8 = .ok (.iload_n 2, 1) := by decide +kernel
theorem dX10_guards_9 : decode cX10_guards 9 = .ok (.invokevirtual 84, 3) := by decide +kernel
theorem dX10_guards_12 : decode cX10_guards 12 = .ok (.ifCond .ne 5, 3) := by decide +kernel
theorem dX10_guards_15 : decode cX10_guards 15 = .ok (.iconst (-1), 1) := by decide +kernel
theorem dX10_guards_16 : decode cX10_guards 16 = .ok (.ireturn, 1) := by decide +kernel
theorem dX10_guards_17 : decode cX10_guards 17 = .ok (.aload_n 0, 1) := by decide +kernel
theorem dX10_guards_18 : decode cX10_guards 18 = .ok (.iload_n 1, 1) := by decide +kernel
theorem dX10_guards_19 : decode cX10_guards 19 = .ok (.iconst 1, 1) := by decide +kernel
theorem dX10_guards_20 : decode cX10_guards 20 = .ok (.iconst 0, 1) := by decide +kernel
theorem dX10_guards_21 : decode cX10_guards 21 = .ok (.iconst 0, 1) := by decide +kernel
theorem dX10_guards_22 : decode cX10_guards 22 = .ok (.invokevirtual 142, 3) := by decide +kernel
theorem dX10_guards_25 : decode cX10_guards 25 = .ok (.iload_n 1, 1) := by decide +kernel
theorem dX10_guards_26 : decode cX10_guards 26 = .ok (.ifCond .le 16, 3) := by decide +kernel
theorem dX10_guards_29 : decode cX10_guards 29 = .ok (.aload_n 0, 1) := by decide +kernel
theorem dX10_guards_30 : decode cX10_guards 30 = .ok (.iload_n 1, 1) := by decide +kernel
theorem dX10_guards_31 : decode cX10_guards 31 = .ok (.iload_n 2, 1) := by decide +kernel
theorem dX10_guards_32 : decode cX10_guards 32 = .ok (.invokevirtual 146, 3) := by decide +kernel
theorem dX10_guards_35 : decode cX10_guards 35 = .ok (.ifCond .eq 7, 3) := by decide +kernel
theorem dX10_guards_38 : decode cX10_guards 38 = .ok (.iconst 1, 1) := by decide +kernel
theorem dX10_guards_39 : decode cX10_guards 39 = .ok (.goto 4, 3) := by decide +kernel
theorem dX10_guards_42 : decode cX10_guards 42 = .ok (.iconst 0, 1) := by decide +kernel
theorem dX10_guards_43 : decode cX10_guards 43 = .ok (.ireturn, 1) := by decide +kernel
theorem dX10_isChance_0 : decode cX10_isChance 0 = .ok (.iload_n 1, 1) := by decide +kernel
theorem dX10_isChance_1 : decode cX10_isChance 1 = .ok (.i2l, 1) := by decide +kernel
theorem dX10_isChance_2 : decode cX10_isChance 2 = .ok (.lconst 1, 1) := by decide +kernel
theorem dX10_isChance_3 : decode cX10_isChance 3 = .ok (.ldc2_w 163, 3) := by decide +kernel
theorem dX10_isChance_6 : decode cX10_isChance 6 = .ok (.invokestatic 66, 3) := by decide +kernel
theorem dX10_isChance_9 : decode cX10_isChance 9 = .ok (.ifCond .eq 36, 3) := by decide +kernel
theorem dX10_isChance_12 : decode cX10_isChance 12 = .ok (.aload_n 0, 1) := by decide +kernel
theorem dX10_isChance_13 : decode cX10_isChance 13 = .ok (.iload_n 2, 1) := by decide +kernel
theorem dX10_isChance_14 : decode cX10_isChance 14 = .ok (.invokevirtual 84, 3) := by decide +kernel
theorem dX10_isChance_17 : decode cX10_isChance 17 = .ok (.ifCond .eq 28, 3) := by decide +kernel
theorem dX10_isChance_20 : decode cX10_isChance 20 = .ok (.iload_n 3, 1) := by decide +kernel
theorem dX10_isChance_21 : decode cX10_isChance 21 = .ok (.i2l, 1) := by decide +kernel
theorem dX10_isChance_22 : decode cX10_isChance 22 = .ok (.lconst 0, 1) := by decide +kernel
theorem dX10_isChance_23 : decode cX10_isChance 23 = .ok (.iload 5, 2) := by decide +kernel
theorem dX10_isChance_25 : decode cX10_isChance 25 = .ok (.i2l, 1) := by decide +kernel
theorem dX10_isChance_26 : decode cX10_isChance 26 = .ok (.invokestatic 66, 3) := by decide +kernel
theorem dX10_isChance_29 : decode cX10_isChance 29 = .ok (.ifCond .eq 16, 3) := by decide +kernel
theorem dX10_isChance_32 : decode cX10_isChance 32 = .ok (.iload 4, 2) := by decide +kernel
theorem dX10_isChance_34 : decode cX10_isChance 34 = .ok (.i2l, 1) := by decide +kernel
theorem dX10_isChance_35 : decode cX10_isChance 35 = .ok (.lconst 0, 1) := by decide +kernel
theorem dX10_isChance_36 : decode cX10_isChance 36 = .ok (.ldc2_w 235, 3) := by decide +kernel
theorem dX10_isChance_39 : decode cX10_isChance 39 = .ok (.invokestatic 66, 3) := by decide +kernel
theorem dX10_isChance_42 : decode cX10_isChance 42 = .ok (.ifCond .ne 5, 3) := by decide +kernel
theorem dX10_isChance_45 : decode cX10_isChance 45 = .ok (.iconst 0, 1) := by decide +kernel
theorem dX10_isChance_46 : decode cX10_isChance 46 = .ok (.ireturn, 1) := by decide +kernel
theorem dX10_isChance_47 : decode cX10_isChance 47 = .ok (.aload_n 0, 1) := by decide +kernel
theorem dX10_isChance_48 : decode cX10_isChance 48 = .ok (.iload_n 1, 1) := by decide +kernel
theorem dX10_isChance_49 : decode cX10_isChance 49 = .ok (.iconst 1, 1) := by decide +kernel
theorem dX10_isChance_50 : decode cX10_isChance 50 = .ok (.iconst 0, 1) := by decide +kernel
theorem dX10_isChance_51 : decode cX10_isChance 51 = .ok (.iconst 0, 1) := by decide +kernel
theorem dX10_isChance_52 : decode cX10_isChance 52 = .ok (.invokevirtual 142, 3) := by decide +kernel
theorem dX10_isChance_55 : decode cX10_isChance 55 = .ok (.aload_n 0, 1) := by decide +kernel
theorem dX10_isChance_56 : decode cX10_isChance 56 = .ok (.iload_n 1, 1) := by decide +kernel
theorem dX10_isChance_57 : decode cX10_isChance 57 = .ok (.iload_n 2, 1) := by decide +kernel
theorem dX10_isChance_58 : decode cX10_isChance 58 = .ok (.invokevirtual 152, 3) := by decide +kernel
theorem dX10_isChance_61 : decode cX10_isChance 61 = .ok (.iconst 1, 1) := by decide +kernel
theorem dX10_isChance_62 : decode cX10_isChance 62 = .ok (.ireturn, 1) := by decide +kernel
theorem dX10_ahead_0 : decode cX10_ahead 0 = .ok (.aload_n 0, 1) := by decide +kernel
theorem dX10_ahead_1 : decode cX10_ahead 1 = .ok (.iload_n 1, 1) := by decide +kernel
theorem dX10_ahead_2 : decode cX10_ahead 2 = .ok (.iload_n 2, 1) := by decide +kernel
theorem dX10_ahead_3 : decode cX10_ahead 3 = .ok (.iload_n 3, 1) := by decide +kernel
theorem dX10_ahead_4 : decode cX10_ahead 4 = .ok (.iload 4, 2) := by decide +kernel
theorem dX10_ahead_6 : decode cX10_ahead 6 = .ok (.aload_n 0, 1) := by decide +kernel
theorem dX10_ahead_7 : decode cX10_ahead 7 = .ok (.getfield 13, 3) := by decide +kernel
theorem dX10_ahead_10 : decode cX10_ahead 10 = .ok (.iconst 2, 1) := by decide +kernel
theorem dX10_ahead_11 : decode cX10_ahead 11 = .ok (.iaload, 1) := by decide +kernel
theorem dX10_ahead_12 : decode cX10_ahead 12 = .ok (.invokevirtual 237, 3) := by decide +kernel
theorem dX10_ahead_15 : decode cX10_ahead 15 = .ok (.ifCond .eq 27, 3) := by decide +kernel
theorem dX10_ahead_18 : decode cX10_ahead 18 = .ok (.aload_n 0, 1) := by decide +kernel
theorem dX10_ahead_19 : decode cX10_ahead 19 = .ok (.getfield 34, 3) := by decide +kernel
theorem dX10_ahead_22 : decode cX10_ahead 22 = .ok (.iload_n 3, 1) := by decide +kernel
theorem dX10_ahead_23 : decode cX10_ahead 23 = .ok (.iload 4, 2) := by decide +kernel
theorem dX10_ahead_25 : decode cX10_ahead 25 = .ok (.iload 5, 2) := by decide +kernel
theorem dX10_ahead_27 : decode cX10_ahead 27 = .ok (.ifCond .eq 7, 3) := by decide +kernel
theorem dX10_ahead_30 : decode cX10_ahead 30 = .ok (.iconst 1, 1) := by decide +kernel
theorem dX10_ahead_31 : decode cX10_ahead 31 = .ok (.goto 4, 3) := by decide +kernel
theorem dX10_ahead_34 : decode cX10_ahead 34 = .ok (.iconst 0, 1) := by decide +kernel
theorem dX10_ahead_35 : decode cX10_ahead 35 = .ok (.invokestatic 181, 3) := by decide +kernel
theorem dX10_ahead_38 : decode cX10_ahead 38 = .ok (.laload, 1) := by decide +kernel
theorem dX10_ahead_39 : decode cX10_ahead 39 = .ok (.goto 6, 3) := by decide +kernel
theorem dX10_ahead_42 : decode cX10_ahead 42 = .ok (.ldc2_w 233, 3) := by decide +kernel
theorem dX10_ahead_45 : decode cX10_ahead 45 = .ok (.lreturn, 1) := by decide +kernel
theorem dX10_leastSize_0 : decode cX10_leastSize 0 = .ok (.iload_n 3, 1) := by decide +kernel
theorem dX10_leastSize_1 : decode cX10_leastSize 1 = .ok (.iconst 1, 1) := by decide +kernel
theorem dX10_leastSize_2 : decode cX10_leastSize 2 = .ok (.if_icmp .ne 7, 3) := by decide +kernel
theorem dX10_leastSize_5 : decode cX10_leastSize 5 = .ok (.iload_n 2, 1) := by decide +kernel
theorem dX10_leastSize_6 : decode cX10_leastSize 6 = .ok (.goto 15, 3) := by decide +kernel
theorem dX10_leastSize_9 : decode cX10_leastSize 9 = .ok (.iload_n 2, 1) := by decide +kernel
theorem dX10_leastSize_10 : decode cX10_leastSize 10 = .ok (.iconst 2, 1) := by decide +kernel
theorem dX10_leastSize_11 : decode cX10_leastSize 11 = .ok (.if_icmp .ge 9, 3) := by decide +kernel
theorem dX10_leastSize_14 : decode cX10_leastSize 14 = .ok (.iload_n 2, 1) := by decide +kernel
theorem dX10_leastSize_15 : decode cX10_leastSize 15 = .ok (.iconst 1, 1) := by decide +kernel
theorem dX10_leastSize_16 : decode cX10_leastSize 16 = .ok (.iadd, 1) := by decide +kernel
theorem dX10_leastSize_17 : decode cX10_leastSize 17 = .ok (.goto 4, 3) := by decide +kernel
theorem dX10_leastSize_20 : decode cX10_leastSize 20 = .ok (.iconst 2, 1) := by decide +kernel
theorem dX10_leastSize_21 : decode cX10_leastSize 21 = .ok (.istore 4, 2) := by decide +kernel
theorem dX10_leastSize_23 : decode cX10_leastSize 23 = .ok (.aload_n 0, 1) := by decide +kernel
theorem dX10_leastSize_24 : decode cX10_leastSize 24 = .ok (.getfield 34, 3) := by decide +kernel
theorem dX10_leastSize_27 : decode cX10_leastSize 27 = .ok (.iload_n 1, 1) := by decide +kernel
theorem dX10_leastSize_28 : decode cX10_leastSize 28 = .ok (.iconst 1, 1) := by decide +kernel
theorem dX10_leastSize_29 : decode cX10_leastSize 29 = .ok (.iadd, 1) := by decide +kernel
theorem dX10_leastSize_30 : decode cX10_leastSize 30 = .ok (.iload 4, 2) := by decide +kernel
theorem dX10_leastSize_32 : decode cX10_leastSize 32 = .ok (.iconst 0, 1) := by decide +kernel
theorem dX10_leastSize_33 : decode cX10_leastSize 33 = .ok (.invokestatic 181, 3) := by decide +kernel
theorem dX10_leastSize_36 : decode cX10_leastSize 36 = .ok (.laload, 1) := by decide +kernel
theorem dX10_leastSize_37 : decode cX10_leastSize 37 = .ok (.lstore 5, 2) := by decide +kernel
theorem dX10_leastSize_39 : decode cX10_leastSize 39 = .ok (.aload_n 0, 1) := by decide +kernel
theorem dX10_leastSize_40 : decode cX10_leastSize 40 = .ok (.getfield 34, 3) := by decide +kernel
theorem dX10_leastSize_43 : decode cX10_leastSize 43 = .ok (.iload_n 1, 1) := by decide +kernel
theorem dX10_leastSize_44 : decode cX10_leastSize 44 = .ok (.iconst 1, 1) := by decide +kernel
theorem dX10_leastSize_45 : decode cX10_leastSize 45 = .ok (.iadd, 1) := by decide +kernel
theorem dX10_leastSize_46 : decode cX10_leastSize 46 = .ok (.iload_n 2, 1) := by decide +kernel
theorem dX10_leastSize_47 : decode cX10_leastSize 47 = .ok (.iload_n 3, 1) := by decide +kernel
theorem dX10_leastSize_48 : decode cX10_leastSize 48 = .ok (.invokestatic 181, 3) := by decide +kernel
theorem dX10_leastSize_51 : decode cX10_leastSize 51 = .ok (.laload, 1) := by decide +kernel
theorem dX10_leastSize_52 : decode cX10_leastSize 52 = .ok (.lstore 7, 2) := by decide +kernel
theorem dX10_leastSize_54 : decode cX10_leastSize 54 = .ok (.iconst 1, 1) := by decide +kernel
theorem dX10_leastSize_55 : decode cX10_leastSize 55 = .ok (.istore 9, 2) := by decide +kernel
theorem dX10_leastSize_57 : decode cX10_leastSize 57 = .ok (.iload 9, 2) := by decide +kernel
theorem dX10_leastSize_59 : decode cX10_leastSize 59 = .ok (.sipush 9999, 3) := by decide +kernel
theorem dX10_leastSize_62 : decode cX10_leastSize 62 = .ok (.if_icmp .gt 61, 3) := by decide +kernel
theorem dX10_leastSize_65 : decode cX10_leastSize 65 = .ok (.aload_n 0, 1) := by decide +kernel
theorem dX10_leastSize_66 : decode cX10_leastSize 66 = .ok (.getfield 13, 3) := by decide +kernel
theorem dX10_leastSize_69 : decode cX10_leastSize 69 = .ok (.iconst 4, 1) := by decide +kernel
theorem dX10_leastSize_70 : decode cX10_leastSize 70 = .ok (.iaload, 1) := by decide +kernel
theorem dX10_leastSize_71 : decode cX10_leastSize 71 = .ok (.iload 9, 2) := by decide +kernel
theorem dX10_leastSize_73 : decode cX10_leastSize 73 = .ok (.if_icmp .ge 13, 3) := by decide +kernel
theorem dX10_leastSize_76 : decode cX10_leastSize 76 = .ok (.aload_n 0, 1) := by decide +kernel
theorem dX10_leastSize_77 : decode cX10_leastSize 77 = .ok (.getfield 13, 3) := by decide +kernel
theorem dX10_leastSize_80 : decode cX10_leastSize 80 = .ok (.iconst 4, 1) := by decide +kernel
theorem dX10_leastSize_81 : decode cX10_leastSize 81 = .ok (.iaload, 1) := by decide +kernel
theorem dX10_leastSize_82 : decode cX10_leastSize 82 = .ok (.i2l, 1) := by decide +kernel
theorem dX10_leastSize_83 : decode cX10_leastSize 83 = .ok (.goto 6, 3) := by decide +kernel
theorem dX10_leastSize_86 : decode cX10_leastSize 86 = .ok (.iload 9, 2) := by decide +kernel
theorem dX10_leastSize_88 : decode cX10_leastSize 88 = .ok (.i2l, 1) := by decide +kernel
theorem dX10_leastSize_89 : decode cX10_leastSize 89 = .ok (.lstore 10, 2) := by decide +kernel
theorem dX10_leastSize_91 : decode cX10_leastSize 91 = .ok (.lload 10, 2) := by decide +kernel
theorem dX10_leastSize_93 : decode cX10_leastSize 93 = .ok (.ldc2_w 179, 3) := by decide +kernel
theorem dX10_leastSize_96 : decode cX10_leastSize 96 = .ok (.lmul, 1) := by decide +kernel
theorem dX10_leastSize_97 : decode cX10_leastSize 97 = .ok (.lload 5, 2) := by decide +kernel
theorem dX10_leastSize_99 : decode cX10_leastSize 99 = .ok (.ladd, 1) := by decide +kernel
theorem dX10_leastSize_100 : decode cX10_leastSize 100 = .ok (.iload 9, 2) := by decide +kernel
theorem dX10_leastSize_102 : decode cX10_leastSize 102 = .ok (.i2l, 1) := by decide +kernel
theorem dX10_leastSize_103 : decode cX10_leastSize 103 = .ok (.ldc2_w 179, 3) := by decide +kernel
theorem dX10_leastSize_106 : decode cX10_leastSize 106 = .ok (.lmul, 1) := by decide +kernel
theorem dX10_leastSize_107 : decode cX10_leastSize 107 = .ok (.lload 7, 2) := by decide +kernel
theorem dX10_leastSize_109 : decode cX10_leastSize 109 = .ok (.ladd, 1) := by decide +kernel
theorem dX10_leastSize_110 : decode cX10_leastSize 110 = .ok (.lcmp, 1) := by decide +kernel
theorem dX10_leastSize_111 : decode cX10_leastSize 111 = .ok (.ifCond .ge 6, 3) := by decide +kernel
theorem dX10_leastSize_114 : decode cX10_leastSize 114 = .ok (.iload 9, 2) := by decide +kernel
theorem dX10_leastSize_116 : decode cX10_leastSize 116 = .ok (.ireturn, 1) := by decide +kernel
theorem dX10_leastSize_117 : decode cX10_leastSize 117 = .ok (.iinc 9 1, 3) := by decide +kernel
theorem dX10_leastSize_120 : decode cX10_leastSize 120 = .ok (.goto (-63), 3) := by decide +kernel
theorem dX10_leastSize_123 : decode cX10_leastSize 123 = .ok (.bipush (-2), 2) := by decide +kernel
theorem dX10_leastSize_125 : decode cX10_leastSize 125 = .ok (.ireturn, 1) := by decide +kernel
theorem dX10_least_0 : decode cX10_least 0 = .ok (.aload_n 0, 1) := by decide +kernel
theorem dX10_least_1 : decode cX10_least 1 = .ok (.iload_n 1, 1) := by decide +kernel
theorem dX10_least_2 : decode cX10_least 2 = .ok (.iload_n 2, 1) := by decide +kernel
theorem dX10_least_3 : decode cX10_least 3 = .ok (.iload_n 3, 1) := by decide +kernel
theorem dX10_least_4 : decode cX10_least 4 = .ok (.iload 4, 2) := by decide +kernel
theorem dX10_least_6 : decode cX10_least 6 = .ok (.aload_n 0, 1) := by decide +kernel
theorem dX10_least_7 : decode cX10_least 7 = .ok (.getfield 13, 3) := by decide +kernel
theorem dX10_least_10 : decode cX10_least 10 = .ok (.iconst 2, 1) := by decide +kernel
theorem dX10_least_11 : decode cX10_least 11 = .ok (.iaload, 1) := by decide +kernel
theorem dX10_least_12 : decode cX10_least 12 = .ok (.iconst 1, 1) := by decide +kernel
theorem dX10_least_13 : decode cX10_least 13 = .ok (.isub, 1) := by decide +kernel
theorem dX10_least_14 : decode cX10_least 14 = .ok (.invokevirtual 237, 3) := by decide +kernel
theorem dX10_least_17 : decode cX10_least 17 = .ok (.ifCond .eq 23, 3) := by decide +kernel
theorem dX10_least_20 : decode cX10_least 20 = .ok (.aload_n 0, 1) := by decide +kernel
theorem dX10_least_21 : decode cX10_least 21 = .ok (.iload_n 3, 1) := by decide +kernel
theorem dX10_least_22 : decode cX10_least 22 = .ok (.iload 4, 2) := by decide +kernel
theorem dX10_least_24 : decode cX10_least 24 = .ok (.iload 5, 2) := by decide +kernel
theorem dX10_least_26 : decode cX10_least 26 = .ok (.ifCond .eq 7, 3) := by decide +kernel
theorem dX10_least_29 : decode cX10_least 29 = .ok (.iconst 1, 1) := by decide +kernel
theorem dX10_least_30 : decode cX10_least 30 = .ok (.goto 4, 3) := by decide +kernel
theorem dX10_least_33 : decode cX10_least 33 = .ok (.iconst 0, 1) := by decide +kernel
theorem dX10_least_34 : decode cX10_least 34 = .ok (.invokevirtual 241, 3) := by decide +kernel
theorem dX10_least_37 : decode cX10_least 37 = .ok (.goto 4, 3) := by decide +kernel
theorem dX10_least_40 : decode cX10_least 40 = .ok (.iconst (-1), 1) := by decide +kernel
theorem dX10_least_41 : decode cX10_least 41 = .ok (.ireturn, 1) := by decide +kernel
theorem dX10_tells_0 : decode cX10_tells 0 = .ok (.aload_n 0, 1) := by decide +kernel
theorem dX10_tells_1 : decode cX10_tells 1 = .ok (.iload_n 1, 1) := by decide +kernel
theorem dX10_tells_2 : decode cX10_tells 2 = .ok (.iload_n 2, 1) := by decide +kernel
theorem dX10_tells_3 : decode cX10_tells 3 = .ok (.iload_n 3, 1) := by decide +kernel
theorem dX10_tells_4 : decode cX10_tells 4 = .ok (.iload 4, 2) := by decide +kernel
theorem dX10_tells_6 : decode cX10_tells 6 = .ok (.aload_n 0, 1) := by decide +kernel
theorem dX10_tells_7 : decode cX10_tells 7 = .ok (.getfield 13, 3) := by decide +kernel
theorem dX10_tells_10 : decode cX10_tells 10 = .ok (.iconst 2, 1) := by decide +kernel
theorem dX10_tells_11 : decode cX10_tells 11 = .ok (.iaload, 1) := by decide +kernel
theorem dX10_tells_12 : decode cX10_tells 12 = .ok (.iconst 1, 1) := by decide +kernel
theorem dX10_tells_13 : decode cX10_tells 13 = .ok (.isub, 1) := by decide +kernel
theorem dX10_tells_14 : decode cX10_tells 14 = .ok (.invokevirtual 237, 3) := by decide +kernel
theorem dX10_tells_17 : decode cX10_tells 17 = .ok (.ifCond .ne 5, 3) := by decide +kernel
theorem dX10_tells_20 : decode cX10_tells 20 = .ok (.iconst (-1), 1) := by decide +kernel
theorem dX10_tells_21 : decode cX10_tells 21 = .ok (.ireturn, 1) := by decide +kernel
theorem dX10_tells_22 : decode cX10_tells 22 = .ok (.iconst 0, 1) := by decide +kernel
theorem dX10_tells_23 : decode cX10_tells 23 = .ok (.istore 6, 2) := by decide +kernel
theorem dX10_tells_25 : decode cX10_tells 25 = .ok (.iconst 0, 1) := by decide +kernel
theorem dX10_tells_26 : decode cX10_tells 26 = .ok (.istore 7, 2) := by decide +kernel
theorem dX10_tells_28 : decode cX10_tells 28 = .ok (.iload 7, 2) := by decide +kernel
theorem dX10_tells_30 : decode cX10_tells 30 = .ok (.aload_n 0, 1) := by decide +kernel
theorem dX10_tells_31 : decode cX10_tells 31 = .ok (.getfield 13, 3) := by decide +kernel
theorem dX10_tells_34 : decode cX10_tells 34 = .ok (.iconst 1, 1) := by decide +kernel
theorem dX10_tells_35 : decode cX10_tells 35 = .ok (.iaload, 1) := by decide +kernel
theorem dX10_tells_36 : decode cX10_tells 36 = .ok (.if_icmp .ge 42, 3) := by decide +kernel
theorem dX10_tells_39 : decode cX10_tells 39 = .ok (.aload_n 0, 1) := by decide +kernel
theorem dX10_tells_40 : decode cX10_tells 40 = .ok (.iload 7, 2) := by decide +kernel
theorem dX10_tells_42 : decode cX10_tells 42 = .ok (.iload_n 3, 1) := by decide +kernel
theorem dX10_tells_43 : decode cX10_tells 43 = .ok (.iload 4, 2) := by decide +kernel
theorem dX10_tells_45 : decode cX10_tells 45 = .ok (.iload 5, 2) := by decide +kernel
theorem dX10_tells_47 : decode cX10_tells 47 = .ok (.ifCond .eq 7, 3) := by decide +kernel
theorem dX10_tells_50 : decode cX10_tells 50 = .ok (.iconst 1, 1) := by decide +kernel
theorem dX10_tells_51 : decode cX10_tells 51 = .ok (.goto 4, 3) := by decide +kernel
theorem dX10_tells_54 : decode cX10_tells 54 = .ok (.iconst 0, 1) := by decide +kernel
theorem dX10_tells_55 : decode cX10_tells 55 = .ok (.invokevirtual 159, 3) := by decide +kernel
theorem dX10_tells_58 : decode cX10_tells 58 = .ok (.lconst 0, 1) := by decide +kernel
theorem dX10_tells_59 : decode cX10_tells 59 = .ok (.lcmp, 1) := by decide +kernel
theorem dX10_tells_60 : decode cX10_tells 60 = .ok (.ifCond .le 12, 3) := by decide +kernel
theorem dX10_tells_63 : decode cX10_tells 63 = .ok (.iload 6, 2) := by decide +kernel
theorem dX10_tells_65 : decode cX10_tells 65 = .ok (.iconst 1, 1) := by decide +kernel
theorem dX10_tells_66 : decode cX10_tells 66 = .ok (.iload 7, 2) := by decide +kernel
theorem dX10_tells_68 : decode cX10_tells 68 = .ok (.ishl, 1) := by decide +kernel
theorem dX10_tells_69 : decode cX10_tells 69 = .ok (.ior, 1) := by decide +kernel
theorem dX10_tells_70 : decode cX10_tells 70 = .ok (.istore 6, 2) := by decide +kernel
theorem dX10_tells_72 : decode cX10_tells 72 = .ok (.iinc 7 1, 3) := by decide +kernel
theorem dX10_tells_75 : decode cX10_tells 75 = .ok (.goto (-47), 3) := by decide +kernel
theorem dX10_tells_78 : decode cX10_tells 78 = .ok (.iload 6, 2) := by decide +kernel
theorem dX10_tells_80 : decode cX10_tells 80 = .ok (.ireturn, 1) := by decide +kernel
theorem dX10_gain_0 : decode cX10_gain 0 = .ok (.aload_n 0, 1) := by decide +kernel
theorem dX10_gain_1 : decode cX10_gain 1 = .ok (.iload 6, 2) := by decide +kernel
theorem dX10_gain_3 : decode cX10_gain 3 = .ok (.invokevirtual 93, 3) := by decide +kernel
theorem dX10_gain_6 : decode cX10_gain 6 = .ok (.ifCond .eq 45, 3) := by decide +kernel
theorem dX10_gain_9 : decode cX10_gain 9 = .ok (.aload_n 0, 1) := by decide +kernel
theorem dX10_gain_10 : decode cX10_gain 10 = .ok (.iload_n 1, 1) := by decide +kernel
theorem dX10_gain_11 : decode cX10_gain 11 = .ok (.iload_n 2, 1) := by decide +kernel
theorem dX10_gain_12 : decode cX10_gain 12 = .ok (.iload_n 3, 1) := by decide +kernel
theorem dX10_gain_13 : decode cX10_gain 13 = .ok (.iload 4, 2) := by decide +kernel
theorem dX10_gain_15 : decode cX10_gain 15 = .ok (.aload_n 0, 1) := by decide +kernel
theorem dX10_gain_16 : decode cX10_gain 16 = .ok (.getfield 13, 3) := by decide +kernel
theorem dX10_gain_19 : decode cX10_gain 19 = .ok (.iconst 2, 1) := by decide +kernel
theorem dX10_gain_20 : decode cX10_gain 20 = .ok (.iaload, 1) := by decide +kernel
theorem dX10_gain_21 : decode cX10_gain 21 = .ok (.iconst 1, 1) := by decide +kernel
theorem dX10_gain_22 : decode cX10_gain 22 = .ok (.isub, 1) := by decide +kernel
theorem dX10_gain_23 : decode cX10_gain 23 = .ok (.invokevirtual 237, 3) := by decide +kernel
theorem dX10_gain_26 : decode cX10_gain 26 = .ok (.ifCond .eq 25, 3) := by decide +kernel
theorem dX10_gain_29 : decode cX10_gain 29 = .ok (.aload_n 0, 1) := by decide +kernel
theorem dX10_gain_30 : decode cX10_gain 30 = .ok (.iload 6, 2) := by decide +kernel
theorem dX10_gain_32 : decode cX10_gain 32 = .ok (.iload_n 3, 1) := by decide +kernel
theorem dX10_gain_33 : decode cX10_gain 33 = .ok (.iload 4, 2) := by decide +kernel
theorem dX10_gain_35 : decode cX10_gain 35 = .ok (.iload 5, 2) := by decide +kernel
theorem dX10_gain_37 : decode cX10_gain 37 = .ok (.ifCond .eq 7, 3) := by decide +kernel
theorem dX10_gain_40 : decode cX10_gain 40 = .ok (.iconst 1, 1) := by decide +kernel
theorem dX10_gain_41 : decode cX10_gain 41 = .ok (.goto 4, 3) := by decide +kernel
theorem dX10_gain_44 : decode cX10_gain 44 = .ok (.iconst 0, 1) := by decide +kernel
theorem dX10_gain_45 : decode cX10_gain 45 = .ok (.invokevirtual 159, 3) := by decide +kernel
theorem dX10_gain_48 : decode cX10_gain 48 = .ok (.goto 6, 3) := by decide +kernel
theorem dX10_gain_51 : decode cX10_gain 51 = .ok (.ldc2_w 201, 3) := by decide +kernel
theorem dX10_gain_54 : decode cX10_gain 54 = .ok (.lreturn, 1) := by decide +kernel
theorem dX10_patience_0 : decode cX10_patience 0 = .ok (.aload_n 0, 1) := by decide +kernel
theorem dX10_patience_1 : decode cX10_patience 1 = .ok (.iload_n 1, 1) := by decide +kernel
theorem dX10_patience_2 : decode cX10_patience 2 = .ok (.invokevirtual 84, 3) := by decide +kernel
theorem dX10_patience_5 : decode cX10_patience 5 = .ok (.ifCond .eq 11, 3) := by decide +kernel
theorem dX10_patience_8 : decode cX10_patience 8 = .ok (.aload_n 0, 1) := by decide +kernel
theorem dX10_patience_9 : decode cX10_patience 9 = .ok (.iload_n 2, 1) := by decide +kernel
theorem dX10_patience_10 : decode cX10_patience 10 = .ok (.invokevirtual 93, 3) := by decide +kernel
theorem dX10_patience_13 : decode cX10_patience 13 = .ok (.ifCond .ne 5, 3) := by decide +kernel
theorem dX10_patience_16 : decode cX10_patience 16 = .ok (.iconst (-1), 1) := by decide +kernel
theorem dX10_patience_17 : decode cX10_patience 17 = .ok (.ireturn, 1) := by decide +kernel
theorem dX10_patience_18 : decode cX10_patience 18 = .ok (.aload_n 0, 1) := by decide +kernel
theorem dX10_patience_19 : decode cX10_patience 19 = .ok (.bipush 20, 2) := by decide +kernel
theorem dX10_patience_21 : decode cX10_patience 21 = .ok (.iconst 1, 1) := by decide +kernel
theorem dX10_patience_22 : decode cX10_patience 22 = .ok (.iconst 0, 1) := by decide +kernel
theorem dX10_patience_23 : decode cX10_patience 23 = .ok (.iconst 0, 1) := by decide +kernel
theorem dX10_patience_24 : decode cX10_patience 24 = .ok (.invokevirtual 142, 3) := by decide +kernel
theorem dX10_patience_27 : decode cX10_patience 27 = .ok (.iconst 1, 1) := by decide +kernel
theorem dX10_patience_28 : decode cX10_patience 28 = .ok (.istore_n 3, 1) := by decide +kernel
theorem dX10_patience_29 : decode cX10_patience 29 = .ok (.iload_n 3, 1) := by decide +kernel
theorem dX10_patience_30 : decode cX10_patience 30 = .ok (.bipush 20, 2) := by decide +kernel
theorem dX10_patience_32 : decode cX10_patience 32 = .ok (.if_icmp .gt 30, 3) := by decide +kernel
theorem dX10_patience_35 : decode cX10_patience 35 = .ok (.aload_n 0, 1) := by decide +kernel
theorem dX10_patience_36 : decode cX10_patience 36 = .ok (.iload_n 3, 1) := by decide +kernel
theorem dX10_patience_37 : decode cX10_patience 37 = .ok (.iload_n 1, 1) := by decide +kernel
theorem dX10_patience_38 : decode cX10_patience 38 = .ok (.invokevirtual 152, 3) := by decide +kernel
theorem dX10_patience_41 : decode cX10_patience 41 = .ok (.aload_n 0, 1) := by decide +kernel
theorem dX10_patience_42 : decode cX10_patience 42 = .ok (.iload_n 2, 1) := by decide +kernel
theorem dX10_patience_43 : decode cX10_patience 43 = .ok (.iconst 0, 1) := by decide +kernel
theorem dX10_patience_44 : decode cX10_patience 44 = .ok (.iconst 0, 1) := by decide +kernel
theorem dX10_patience_45 : decode cX10_patience 45 = .ok (.iconst 0, 1) := by decide +kernel
theorem dX10_patience_46 : decode cX10_patience 46 = .ok (.invokevirtual 159, 3) := by decide +kernel
theorem dX10_patience_49 : decode cX10_patience 49 = .ok (.lconst 0, 1) := by decide +kernel
theorem dX10_patience_50 : decode cX10_patience 50 = .ok (.lcmp, 1) := by decide +kernel
theorem dX10_patience_51 : decode cX10_patience 51 = .ok (.ifCond .gt 5, 3) := by decide +kernel
theorem dX10_patience_54 : decode cX10_patience 54 = .ok (.iload_n 3, 1) := by decide +kernel
theorem dX10_patience_55 : decode cX10_patience 55 = .ok (.ireturn, 1) := by decide +kernel
theorem dX10_patience_56 : decode cX10_patience 56 = .ok (.iinc 3 1, 3) := by decide +kernel
theorem dX10_patience_59 : decode cX10_patience 59 = .ok (.goto (-30), 3) := by decide +kernel
theorem dX10_patience_62 : decode cX10_patience 62 = .ok (.bipush (-2), 2) := by decide +kernel
theorem dX10_patience_64 : decode cX10_patience 64 = .ok (.ireturn, 1) := by decide +kernel
theorem dX10_worst_0 : decode cX10_worst 0 = .ok (.iload_n 1, 1) := by decide +kernel
theorem dX10_worst_1 : decode cX10_worst 1 = .ok (.invokestatic 227, 3) := by decide +kernel
theorem dX10_worst_4 : decode cX10_worst 4 = .ok (.ifCond .eq 11, 3) := by decide +kernel
theorem dX10_worst_7 : decode cX10_worst 7 = .ok (.aload_n 0, 1) := by decide +kernel
theorem dX10_worst_8 : decode cX10_worst 8 = .ok (.iload_n 2, 1) := by decide +kernel
theorem dX10_worst_9 : decode cX10_worst 9 = .ok (.invokevirtual 84, 3) := by decide +kernel
theorem dX10_worst_12 : decode cX10_worst 12 = .ok (.ifCond .ne 7, 3) := by decide +kernel
theorem dX10_worst_15 : decode cX10_worst 15 = .ok (.ldc2_w 233, 3) := by decide +kernel
theorem dX10_worst_18 : decode cX10_worst 18 = .ok (.lreturn, 1) := by decide +kernel
theorem dX10_worst_19 : decode cX10_worst 19 = .ok (.aload_n 0, 1) := by decide +kernel
theorem dX10_worst_20 : decode cX10_worst 20 = .ok (.iconst 0, 1) := by decide +kernel
theorem dX10_worst_21 : decode cX10_worst 21 = .ok (.putfield 191, 3) := by decide +kernel
theorem dX10_worst_24 : decode cX10_worst 24 = .ok (.aload_n 0, 1) := by decide +kernel
theorem dX10_worst_25 : decode cX10_worst 25 = .ok (.iconst 1, 1) := by decide +kernel
theorem dX10_worst_26 : decode cX10_worst 26 = .ok (.putfield 197, 3) := by decide +kernel
theorem dX10_worst_29 : decode cX10_worst 29 = .ok (.aload_n 0, 1) := by decide +kernel
theorem dX10_worst_30 : decode cX10_worst 30 = .ok (.iload_n 1, 1) := by decide +kernel
theorem dX10_worst_31 : decode cX10_worst 31 = .ok (.iconst 0, 1) := by decide +kernel
theorem dX10_worst_32 : decode cX10_worst 32 = .ok (.aload_n 0, 1) := by decide +kernel
theorem dX10_worst_33 : decode cX10_worst 33 = .ok (.getfield 13, 3) := by decide +kernel
theorem dX10_worst_36 : decode cX10_worst 36 = .ok (.iconst 2, 1) := by decide +kernel
theorem dX10_worst_37 : decode cX10_worst 37 = .ok (.iaload, 1) := by decide +kernel
theorem dX10_worst_38 : decode cX10_worst 38 = .ok (.iconst 1, 1) := by decide +kernel
theorem dX10_worst_39 : decode cX10_worst 39 = .ok (.iconst 0, 1) := by decide +kernel
theorem dX10_worst_40 : decode cX10_worst 40 = .ok (.invokevirtual 223, 3) := by decide +kernel
theorem dX10_worst_43 : decode cX10_worst 43 = .ok (.aload_n 0, 1) := by decide +kernel
theorem dX10_worst_44 : decode cX10_worst 44 = .ok (.iconst 0, 1) := by decide +kernel
theorem dX10_worst_45 : decode cX10_worst 45 = .ok (.putfield 197, 3) := by decide +kernel
theorem dX10_worst_48 : decode cX10_worst 48 = .ok (.aload_n 0, 1) := by decide +kernel
theorem dX10_worst_49 : decode cX10_worst 49 = .ok (.iload_n 1, 1) := by decide +kernel
theorem dX10_worst_50 : decode cX10_worst 50 = .ok (.iload_n 2, 1) := by decide +kernel
theorem dX10_worst_51 : decode cX10_worst 51 = .ok (.invokevirtual 210, 3) := by decide +kernel
theorem dX10_worst_54 : decode cX10_worst 54 = .ok (.lreturn, 1) := by decide +kernel
theorem dX10_bare_0 : decode cX10_bare 0 = .ok (.iload_n 1, 1) := by decide +kernel
theorem dX10_bare_1 : decode cX10_bare 1 = .ok (.invokestatic 227, 3) := by decide +kernel
theorem dX10_bare_4 : decode cX10_bare 4 = .ok (.ifCond .eq 20, 3) := by decide +kernel
theorem dX10_bare_7 : decode cX10_bare 7 = .ok (.aload_n 0, 1) := by decide +kernel
theorem dX10_bare_8 : decode cX10_bare 8 = .ok (.iload_n 2, 1) := by decide +kernel
theorem dX10_bare_9 : decode cX10_bare 9 = .ok (.invokevirtual 84, 3) := by decide +kernel
theorem dX10_bare_12 : decode cX10_bare 12 = .ok (.ifCond .eq 12, 3) := by decide +kernel
theorem dX10_bare_15 : decode cX10_bare 15 = .ok (.aload_n 0, 1) := by decide +kernel
theorem dX10_bare_16 : decode cX10_bare 16 = .ok (.iload_n 1, 1) := by decide +kernel
theorem dX10_bare_17 : decode cX10_bare 17 = .ok (.iload_n 2, 1) := by decide +kernel
theorem dX10_bare_18 : decode cX10_bare 18 = .ok (.invokevirtual 244, 3) := by decide +kernel
theorem dX10_bare_21 : decode cX10_bare 21 = .ok (.goto 6, 3) := by decide +kernel
theorem dX10_bare_24 : decode cX10_bare 24 = .ok (.ldc2_w 233, 3) := by decide +kernel
theorem dX10_bare_27 : decode cX10_bare 27 = .ok (.lreturn, 1) := by decide +kernel
theorem dX10_by_0 : decode cX10_by 0 = .ok (.iload_n 1, 1) := by decide +kernel
theorem dX10_by_1 : decode cX10_by 1 = .ok (.i2l, 1) := by decide +kernel
theorem dX10_by_2 : decode cX10_by 2 = .ok (.lconst 0, 1) := by decide +kernel
theorem dX10_by_3 : decode cX10_by 3 = .ok (.ldc2_w 100, 3) := by decide +kernel
theorem dX10_by_6 : decode cX10_by 6 = .ok (.invokestatic 66, 3) := by decide +kernel
theorem dX10_by_9 : decode cX10_by 9 = .ok (.ifCond .eq 40, 3) := by decide +kernel
theorem dX10_by_12 : decode cX10_by 12 = .ok (.iload_n 2, 1) := by decide +kernel
theorem dX10_by_13 : decode cX10_by 13 = .ok (.i2l, 1) := by decide +kernel
theorem dX10_by_14 : decode cX10_by 14 = .ok (.lconst 0, 1) := by decide +kernel
theorem dX10_by_15 : decode cX10_by 15 = .ok (.iload_n 1, 1) := by decide +kernel
theorem dX10_by_16 : decode cX10_by 16 = .ok (.iconst 3, 1) := by decide +kernel
theorem dX10_by_17 : decode cX10_by 17 = .ok (.if_icmp .ne 9, 3) := by decide +kernel
theorem dX10_by_20 : decode cX10_by 20 = .ok (.ldc2_w 96, 3) := by decide +kernel
theorem dX10_by_23 : decode cX10_by 23 = .ok (.goto 4, 3) := by decide +kernel
theorem dX10_by_26 : decode cX10_by 26 = .ok (.lconst 0, 1) := by decide +kernel
theorem dX10_by_27 : decode cX10_by 27 = .ok (.invokestatic 66, 3) := by decide +kernel
theorem dX10_by_30 : decode cX10_by 30 = .ok (.ifCond .eq 19, 3) := by decide +kernel
theorem dX10_by_33 : decode cX10_by 33 = .ok (.iload_n 3, 1) := by decide +kernel
theorem dX10_by_34 : decode cX10_by 34 = .ok (.invokestatic 227, 3) := by decide +kernel
theorem dX10_by_37 : decode cX10_by 37 = .ok (.ifCond .eq 12, 3) := by decide +kernel
theorem dX10_by_40 : decode cX10_by 40 = .ok (.aload_n 0, 1) := by decide +kernel
theorem dX10_by_41 : decode cX10_by 41 = .ok (.iload 4, 2) := by decide +kernel
theorem dX10_by_43 : decode cX10_by 43 = .ok (.invokevirtual 84, 3) := by decide +kernel
theorem dX10_by_46 : decode cX10_by 46 = .ok (.ifCond .ne 7, 3) := by decide +kernel
theorem dX10_by_49 : decode cX10_by 49 = .ok (.ldc2_w 233, 3) := by decide +kernel
theorem dX10_by_52 : decode cX10_by 52 = .ok (.lreturn, 1) := by decide +kernel
theorem dX10_by_53 : decode cX10_by 53 = .ok (.aload_n 0, 1) := by decide +kernel
theorem dX10_by_54 : decode cX10_by 54 = .ok (.iload_n 3, 1) := by decide +kernel
theorem dX10_by_55 : decode cX10_by 55 = .ok (.iconst 0, 1) := by decide +kernel
theorem dX10_by_56 : decode cX10_by 56 = .ok (.iload_n 1, 1) := by decide +kernel
theorem dX10_by_57 : decode cX10_by 57 = .ok (.iload_n 2, 1) := by decide +kernel
theorem dX10_by_58 : decode cX10_by 58 = .ok (.invokevirtual 142, 3) := by decide +kernel
theorem dX10_by_61 : decode cX10_by 61 = .ok (.aload_n 0, 1) := by decide +kernel
theorem dX10_by_62 : decode cX10_by 62 = .ok (.iload_n 3, 1) := by decide +kernel
theorem dX10_by_63 : decode cX10_by 63 = .ok (.iload 4, 2) := by decide +kernel
theorem dX10_by_65 : decode cX10_by 65 = .ok (.invokevirtual 210, 3) := by decide +kernel
theorem dX10_by_68 : decode cX10_by 68 = .ok (.lreturn, 1) := by decide +kernel
theorem dX10_bestLimit_0 : decode cX10_bestLimit 0 = .ok (.iload_n 1, 1) := by decide +kernel
theorem dX10_bestLimit_1 : decode cX10_bestLimit 1 = .ok (.invokestatic 227, 3) := by decide +kernel
theorem dX10_bestLimit_4 : decode cX10_bestLimit 4 = .ok (.ifCond .eq 11, 3) := by decide +kernel
theorem dX10_bestLimit_7 : decode cX10_bestLimit 7 = .ok (.aload_n 0, 1) := by decide +kernel
theorem dX10_bestLimit_8 : decode cX10_bestLimit 8 = .ok (.iload_n 2, 1) := by decide +kernel
theorem dX10_bestLimit_9 : decode cX10_bestLimit 9 = .ok (.invokevirtual 84, 3) := by decide +kernel
theorem dX10_bestLimit_12 : decode cX10_bestLimit 12 = .ok (.ifCond .ne 5, 3) := by decide +kernel
theorem dX10_bestLimit_15 : decode cX10_bestLimit 15 = .ok (.iconst (-1), 1) := by decide +kernel
theorem dX10_bestLimit_16 : decode cX10_bestLimit 16 = .ok (.ireturn, 1) := by decide +kernel
theorem dX10_bestLimit_17 : decode cX10_bestLimit 17 = .ok (.iconst (-1), 1) := by decide +kernel
theorem dX10_bestLimit_18 : decode cX10_bestLimit 18 = .ok (.istore_n 3, 1) := by decide +kernel
theorem dX10_bestLimit_19 : decode cX10_bestLimit 19 = .ok (.lconst 0, 1) := by decide +kernel
theorem dX10_bestLimit_20 : decode cX10_bestLimit 20 = .ok (.lstore 4, 2) := by decide +kernel
theorem dX10_bestLimit_22 : decode cX10_bestLimit 22 = .ok (.iconst 0, 1) := by decide +kernel
theorem dX10_bestLimit_23 : decode cX10_bestLimit 23 = .ok (.istore 6, 2) := by decide +kernel
theorem dX10_bestLimit_25 : decode cX10_bestLimit 25 = .ok (.iload 6, 2) := by decide +kernel
theorem dX10_bestLimit_27 : decode cX10_bestLimit 27 = .ok (.sipush 1000, 3) := by decide +kernel
theorem dX10_bestLimit_30 : decode cX10_bestLimit 30 = .ok (.if_icmp .ge 112, 3) := by decide +kernel
theorem dX10_bestLimit_33 : decode cX10_bestLimit 33 = .ok (.iload 6, 2) := by decide +kernel
theorem dX10_bestLimit_35 : decode cX10_bestLimit 35 = .ok (.ifCond .ne 7, 3) := by decide +kernel
theorem dX10_bestLimit_38 : decode cX10_bestLimit 38 = .ok (.iconst 1, 1) := by decide +kernel
theorem dX10_bestLimit_39 : decode cX10_bestLimit 39 = .ok (.goto 4, 3) := by decide +kernel
theorem dX10_bestLimit_42 : decode cX10_bestLimit 42 = .ok (.iconst 0, 1) := by decide +kernel
theorem dX10_bestLimit_43 : decode cX10_bestLimit 43 = .ok (.istore 7, 2) := by decide +kernel
theorem dX10_bestLimit_45 : decode cX10_bestLimit 45 = .ok (.iconst 0, 1) := by decide +kernel
theorem dX10_bestLimit_46 : decode cX10_bestLimit 46 = .ok (.istore 8, 2) := by decide +kernel
theorem dX10_bestLimit_48 : decode cX10_bestLimit 48 = .ok (.iload 8, 2) := by decide +kernel
theorem dX10_bestLimit_50 : decode cX10_bestLimit 50 = .ok (.aload_n 0, 1) := by decide +kernel
theorem dX10_bestLimit_51 : decode cX10_bestLimit 51 = .ok (.getfield 13, 3) := by decide +kernel
theorem dX10_bestLimit_54 : decode cX10_bestLimit 54 = .ok (.iconst 1, 1) := by decide +kernel
theorem dX10_bestLimit_55 : decode cX10_bestLimit 55 = .ok (.iaload, 1) := by decide +kernel
theorem dX10_bestLimit_56 : decode cX10_bestLimit 56 = .ok (.if_icmp .ge 32, 3) := by decide +kernel
theorem dX10_bestLimit_59 : decode cX10_bestLimit 59 = .ok (.iload 7, 2) := by decide +kernel
theorem dX10_bestLimit_61 : decode cX10_bestLimit 61 = .ok (.ifCond .ne 14, 3) := by decide +kernel
theorem dX10_bestLimit_64 : decode cX10_bestLimit 64 = .ok (.aload_n 0, 1) := by decide +kernel
theorem dX10_bestLimit_65 : decode cX10_bestLimit 65 = .ok (.iload 8, 2) := by decide +kernel
theorem dX10_bestLimit_67 : decode cX10_bestLimit 67 = .ok (.invokevirtual 78, 3) := by decide +kernel
theorem dX10_bestLimit_70 : decode cX10_bestLimit 70 = .ok (.iload 6, 2) := by decide +kernel
theorem dX10_bestLimit_72 : decode cX10_bestLimit 72 = .ok (.if_icmp .ne 7, 3) := by decide +kernel
theorem dX10_bestLimit_75 : decode cX10_bestLimit 75 = .ok (.iconst 1, 1) := by decide +kernel
theorem dX10_bestLimit_76 : decode cX10_bestLimit 76 = .ok (.goto 4, 3) := by decide +kernel
theorem dX10_bestLimit_79 : decode cX10_bestLimit 79 = .ok (.iconst 0, 1) := by decide +kernel
theorem dX10_bestLimit_80 : decode cX10_bestLimit 80 = .ok (.istore 7, 2) := by decide +kernel
theorem dX10_bestLimit_82 : decode cX10_bestLimit 82 = .ok (.iinc 8 1, 3) := by decide +kernel
theorem dX10_bestLimit_85 : decode cX10_bestLimit 85 = .ok (.goto (-37), 3) := by decide +kernel
theorem dX10_bestLimit_88 : decode cX10_bestLimit 88 = .ok (.iload 7, 2) := by decide +kernel
theorem dX10_bestLimit_90 : decode cX10_bestLimit 90 = .ok (.ifCond .ne 6, 3) := by decide +kernel
theorem dX10_bestLimit_93 : decode cX10_bestLimit 93 = .ok (.goto 43, 3) := by decide +kernel
theorem dX10_bestLimit_96 : decode cX10_bestLimit 96 = .ok (.aload_n 0, 1) := by decide +kernel
theorem dX10_bestLimit_97 : decode cX10_bestLimit 97 = .ok (.iload_n 1, 1) := by decide +kernel
theorem dX10_bestLimit_98 : decode cX10_bestLimit 98 = .ok (.iconst 0, 1) := by decide +kernel
theorem dX10_bestLimit_99 : decode cX10_bestLimit 99 = .ok (.iconst 3, 1) := by decide +kernel
theorem dX10_bestLimit_100 : decode cX10_bestLimit 100 = .ok (.iload 6, 2) := by decide +kernel
theorem dX10_bestLimit_102 : decode cX10_bestLimit 102 = .ok (.invokevirtual 142, 3) := by decide +kernel
theorem dX10_bestLimit_105 : decode cX10_bestLimit 105 = .ok (.iload_n 3, 1) := by decide +kernel
theorem dX10_bestLimit_106 : decode cX10_bestLimit 106 = .ok (.iconst (-1), 1) := by decide +kernel
theorem dX10_bestLimit_107 : decode cX10_bestLimit 107 = .ok (.if_icmp .eq 18, 3) := by decide +kernel
theorem dX10_bestLimit_110 : decode cX10_bestLimit 110 = .ok (.aload_n 0, 1) := by decide +kernel
theorem dX10_bestLimit_111 : decode cX10_bestLimit 111 = .ok (.iload_n 1, 1) := by decide +kernel
theorem dX10_bestLimit_112 : decode cX10_bestLimit 112 = .ok (.iload_n 2, 1) := by decide +kernel
theorem dX10_bestLimit_113 : decode cX10_bestLimit 113 = .ok (.invokevirtual 210, 3) := by decide +kernel
theorem dX10_bestLimit_116 : decode cX10_bestLimit 116 = .ok (.lload 4, 2) := by decide +kernel
theorem dX10_bestLimit_118 : decode cX10_bestLimit 118 = .ok (.lcmp, 1) := by decide +kernel
theorem dX10_bestLimit_119 : decode cX10_bestLimit 119 = .ok (.ifCond .lt 6, 3) := by decide +kernel
theorem dX10_bestLimit_122 : decode cX10_bestLimit 122 = .ok (.goto 14, 3) := by decide +kernel
theorem dX10_bestLimit_125 : decode cX10_bestLimit 125 = .ok (.iload 6, 2) := by decide +kernel
theorem dX10_bestLimit_127 : decode cX10_bestLimit 127 = .ok (.istore_n 3, 1) := by decide +kernel
theorem dX10_bestLimit_128 : decode cX10_bestLimit 128 = .ok (.aload_n 0, 1) := by decide +kernel
theorem dX10_bestLimit_129 : decode cX10_bestLimit 129 = .ok (.iload_n 1, 1) := by decide +kernel
theorem dX10_bestLimit_130 : decode cX10_bestLimit 130 = .ok (.iload_n 2, 1) := by decide +kernel
theorem dX10_bestLimit_131 : decode cX10_bestLimit 131 = .ok (.invokevirtual 210, 3) := by decide +kernel
theorem dX10_bestLimit_134 : decode cX10_bestLimit 134 = .ok (.lstore 4, 2) := by decide +kernel
theorem dX10_bestLimit_136 : decode cX10_bestLimit 136 = .ok (.iinc 6 1, 3) := by decide +kernel
theorem dX10_bestLimit_139 : decode cX10_bestLimit 139 = .ok (.goto (-114), 3) := by decide +kernel
theorem dX10_bestLimit_142 : decode cX10_bestLimit 142 = .ok (.iload_n 3, 1) := by decide +kernel
theorem dX10_bestLimit_143 : decode cX10_bestLimit 143 = .ok (.ireturn, 1) := by decide +kernel
theorem dX10_worth_0 : decode cX10_worth 0 = .ok (.iload_n 1, 1) := by decide +kernel
theorem dX10_worth_1 : decode cX10_worth 1 = .ok (.invokestatic 227, 3) := by decide +kernel
theorem dX10_worth_4 : decode cX10_worth 4 = .ok (.ifCond .eq 19, 3) := by decide +kernel
theorem dX10_worth_7 : decode cX10_worth 7 = .ok (.aload_n 0, 1) := by decide +kernel
theorem dX10_worth_8 : decode cX10_worth 8 = .ok (.iload_n 2, 1) := by decide +kernel
theorem dX10_worth_9 : decode cX10_worth 9 = .ok (.invokevirtual 84, 3) := by decide +kernel
theorem dX10_worth_12 : decode cX10_worth 12 = .ok (.ifCond .eq 11, 3) := by decide +kernel
theorem dX10_worth_15 : decode cX10_worth 15 = .ok (.aload_n 0, 1) := by decide +kernel
theorem dX10_worth_16 : decode cX10_worth 16 = .ok (.iload_n 3, 1) := by decide +kernel
theorem dX10_worth_17 : decode cX10_worth 17 = .ok (.invokevirtual 84, 3) := by decide +kernel
theorem dX10_worth_20 : decode cX10_worth 20 = .ok (.ifCond .ne 7, 3) := by decide +kernel
theorem dX10_worth_23 : decode cX10_worth 23 = .ok (.ldc2_w 201, 3) := by decide +kernel
theorem dX10_worth_26 : decode cX10_worth 26 = .ok (.lreturn, 1) := by decide +kernel
theorem dX10_worth_27 : decode cX10_worth 27 = .ok (.aload_n 0, 1) := by decide +kernel
theorem dX10_worth_28 : decode cX10_worth 28 = .ok (.iload_n 1, 1) := by decide +kernel
theorem dX10_worth_29 : decode cX10_worth 29 = .ok (.iconst 1, 1) := by decide +kernel
theorem dX10_worth_30 : decode cX10_worth 30 = .ok (.iconst 0, 1) := by decide +kernel
theorem dX10_worth_31 : decode cX10_worth 31 = .ok (.iconst 0, 1) := by decide +kernel
theorem dX10_worth_32 : decode cX10_worth 32 = .ok (.invokevirtual 142, 3) := by decide +kernel
theorem dX10_worth_35 : decode cX10_worth 35 = .ok (.aload_n 0, 1) := by decide +kernel
theorem dX10_worth_36 : decode cX10_worth 36 = .ok (.iload_n 1, 1) := by decide +kernel
theorem dX10_worth_37 : decode cX10_worth 37 = .ok (.iload_n 3, 1) := by decide +kernel
theorem dX10_worth_38 : decode cX10_worth 38 = .ok (.invokevirtual 210, 3) := by decide +kernel
theorem dX10_worth_41 : decode cX10_worth 41 = .ok (.aload_n 0, 1) := by decide +kernel
theorem dX10_worth_42 : decode cX10_worth 42 = .ok (.iload_n 1, 1) := by decide +kernel
theorem dX10_worth_43 : decode cX10_worth 43 = .ok (.iload_n 2, 1) := by decide +kernel
theorem dX10_worth_44 : decode cX10_worth 44 = .ok (.invokevirtual 210, 3) := by decide +kernel
theorem dX10_worth_47 : decode cX10_worth 47 = .ok (.lsub, 1) := by decide +kernel
theorem dX10_worth_48 : decode cX10_worth 48 = .ok (.lreturn, 1) := by decide +kernel
theorem dX10_cheapest_0 : decode cX10_cheapest 0 = .ok (.iload_n 1, 1) := by decide +kernel
theorem dX10_cheapest_1 : decode cX10_cheapest 1 = .ok (.invokestatic 227, 3) := by decide +kernel
theorem dX10_cheapest_4 : decode cX10_cheapest 4 = .ok (.ifCond .eq 12, 3) := by decide +kernel
theorem dX10_cheapest_7 : decode cX10_cheapest 7 = .ok (.aload_n 0, 1) := by decide +kernel
theorem dX10_cheapest_8 : decode cX10_cheapest 8 = .ok (.getfield 13, 3) := by decide +kernel
theorem dX10_cheapest_11 : decode cX10_cheapest 11 = .ok (.iconst 0, 1) := by decide +kernel
theorem dX10_cheapest_12 : decode cX10_cheapest 12 = .ok (.iaload, 1) := by decide +kernel
theorem dX10_cheapest_13 : decode cX10_cheapest 13 = .ok (.ifCond .ne 5, 3) := by decide +kernel
theorem dX10_cheapest_16 : decode cX10_cheapest 16 = .ok (.iconst (-1), 1) := by decide +kernel
theorem dX10_cheapest_17 : decode cX10_cheapest 17 = .ok (.ireturn, 1) := by decide +kernel
theorem dX10_cheapest_18 : decode cX10_cheapest 18 = .ok (.aload_n 0, 1) := by decide +kernel
theorem dX10_cheapest_19 : decode cX10_cheapest 19 = .ok (.iload_n 1, 1) := by decide +kernel
theorem dX10_cheapest_20 : decode cX10_cheapest 20 = .ok (.iconst 1, 1) := by decide +kernel
theorem dX10_cheapest_21 : decode cX10_cheapest 21 = .ok (.iconst 0, 1) := by decide +kernel
theorem dX10_cheapest_22 : decode cX10_cheapest 22 = .ok (.iconst 0, 1) := by decide +kernel
theorem dX10_cheapest_23 : decode cX10_cheapest 23 = .ok (.invokevirtual 142, 3) := by decide +kernel
theorem dX10_cheapest_26 : decode cX10_cheapest 26 = .ok (.iconst 0, 1) := by decide +kernel
theorem dX10_cheapest_27 : decode cX10_cheapest 27 = .ok (.istore_n 2, 1) := by decide +kernel
theorem dX10_cheapest_28 : decode cX10_cheapest 28 = .ok (.iconst 1, 1) := by decide +kernel
theorem dX10_cheapest_29 : decode cX10_cheapest 29 = .ok (.istore_n 3, 1) := by decide +kernel
theorem dX10_cheapest_30 : decode cX10_cheapest 30 = .ok (.iload_n 3, 1) := by decide +kernel
theorem dX10_cheapest_31 : decode cX10_cheapest 31 = .ok (.aload_n 0, 1) := by decide +kernel
theorem dX10_cheapest_32 : decode cX10_cheapest 32 = .ok (.getfield 13, 3) := by decide +kernel
theorem dX10_cheapest_35 : decode cX10_cheapest 35 = .ok (.iconst 0, 1) := by decide +kernel
theorem dX10_cheapest_36 : decode cX10_cheapest 36 = .ok (.iaload, 1) := by decide +kernel
theorem dX10_cheapest_37 : decode cX10_cheapest 37 = .ok (.if_icmp .ge 27, 3) := by decide +kernel
theorem dX10_cheapest_40 : decode cX10_cheapest 40 = .ok (.aload_n 0, 1) := by decide +kernel
theorem dX10_cheapest_41 : decode cX10_cheapest 41 = .ok (.iload_n 1, 1) := by decide +kernel
theorem dX10_cheapest_42 : decode cX10_cheapest 42 = .ok (.iload_n 3, 1) := by decide +kernel
theorem dX10_cheapest_43 : decode cX10_cheapest 43 = .ok (.invokevirtual 210, 3) := by decide +kernel
theorem dX10_cheapest_46 : decode cX10_cheapest 46 = .ok (.aload_n 0, 1) := by decide +kernel
theorem dX10_cheapest_47 : decode cX10_cheapest 47 = .ok (.iload_n 1, 1) := by decide +kernel
theorem dX10_cheapest_48 : decode cX10_cheapest 48 = .ok (.iload_n 2, 1) := by decide +kernel
theorem dX10_cheapest_49 : decode cX10_cheapest 49 = .ok (.invokevirtual 210, 3) := by decide +kernel
theorem dX10_cheapest_52 : decode cX10_cheapest 52 = .ok (.lcmp, 1) := by decide +kernel
theorem dX10_cheapest_53 : decode cX10_cheapest 53 = .ok (.ifCond .ge 5, 3) := by decide +kernel
theorem dX10_cheapest_56 : decode cX10_cheapest 56 = .ok (.iload_n 3, 1) := by decide +kernel
theorem dX10_cheapest_57 : decode cX10_cheapest 57 = .ok (.istore_n 2, 1) := by decide +kernel
theorem dX10_cheapest_58 : decode cX10_cheapest 58 = .ok (.iinc 3 1, 3) := by decide +kernel
theorem dX10_cheapest_61 : decode cX10_cheapest 61 = .ok (.goto (-31), 3) := by decide +kernel
theorem dX10_cheapest_64 : decode cX10_cheapest 64 = .ok (.iload_n 2, 1) := by decide +kernel
theorem dX10_cheapest_65 : decode cX10_cheapest 65 = .ok (.ireturn, 1) := by decide +kernel
theorem dX10_reach_0 : decode cX10_reach 0 = .ok (.aload_n 0, 1) := by decide +kernel
theorem dX10_reach_1 : decode cX10_reach 1 = .ok (.iload_n 1, 1) := by decide +kernel
theorem dX10_reach_2 : decode cX10_reach 2 = .ok (.invokevirtual 84, 3) := by decide +kernel
theorem dX10_reach_5 : decode cX10_reach 5 = .ok (.ifCond .ne 5, 3) := by decide +kernel
theorem dX10_reach_8 : decode cX10_reach 8 = .ok (.iconst (-1), 1) := by decide +kernel
theorem dX10_reach_9 : decode cX10_reach 9 = .ok (.ireturn, 1) := by decide +kernel
theorem dX10_reach_10 : decode cX10_reach 10 = .ok (.iconst 1, 1) := by decide +kernel
theorem dX10_reach_11 : decode cX10_reach 11 = .ok (.iload_n 1, 1) := by decide +kernel
theorem dX10_reach_12 : decode cX10_reach 12 = .ok (.ishl, 1) := by decide +kernel
theorem dX10_reach_13 : decode cX10_reach 13 = .ok (.istore_n 2, 1) := by decide +kernel
theorem dX10_reach_14 : decode cX10_reach 14 = .ok (.iconst 0, 1) := by decide +kernel
theorem dX10_reach_15 : decode cX10_reach 15 = .ok (.istore_n 3, 1) := by decide +kernel
theorem dX10_reach_16 : decode cX10_reach 16 = .ok (.iload_n 3, 1) := by decide +kernel
theorem dX10_reach_17 : decode cX10_reach 17 = .ok (.bipush 8, 2) := by decide +kernel
theorem dX10_reach_19 : decode cX10_reach 19 = .ok (.if_icmp .ge 69, 3) := by decide +kernel
theorem dX10_reach_22 : decode cX10_reach 22 = .ok (.iconst 0, 1) := by decide +kernel
theorem dX10_reach_23 : decode cX10_reach 23 = .ok (.istore 4, 2) := by decide +kernel
theorem dX10_reach_25 : decode cX10_reach 25 = .ok (.iload 4, 2) := by decide +kernel
theorem dX10_reach_27 : decode cX10_reach 27 = .ok (.aload_n 0, 1) := by decide +kernel
theorem dX10_reach_28 : decode cX10_reach 28 = .ok (.getfield 13, 3) := by decide +kernel
theorem dX10_reach_31 : decode cX10_reach 31 = .ok (.iconst 0, 1) := by decide +kernel
theorem dX10_reach_32 : decode cX10_reach 32 = .ok (.iaload, 1) := by decide +kernel
theorem dX10_reach_33 : decode cX10_reach 33 = .ok (.if_icmp .ge 49, 3) := by decide +kernel
theorem dX10_reach_36 : decode cX10_reach 36 = .ok (.iload_n 2, 1) := by decide +kernel
theorem dX10_reach_37 : decode cX10_reach 37 = .ok (.iload 4, 2) := by decide +kernel
theorem dX10_reach_39 : decode cX10_reach 39 = .ok (.ishr, 1) := by decide +kernel
theorem dX10_reach_40 : decode cX10_reach 40 = .ok (.iconst 1, 1) := by decide +kernel
theorem dX10_reach_41 : decode cX10_reach 41 = .ok (.iand, 1) := by decide +kernel
theorem dX10_reach_42 : decode cX10_reach 42 = .ok (.ifCond .ne 6, 3) := by decide +kernel
theorem dX10_reach_45 : decode cX10_reach 45 = .ok (.goto 31, 3) := by decide +kernel
theorem dX10_reach_48 : decode cX10_reach 48 = .ok (.iconst 0, 1) := by decide +kernel
theorem dX10_reach_49 : decode cX10_reach 49 = .ok (.istore 5, 2) := by decide +kernel
theorem dX10_reach_51 : decode cX10_reach 51 = .ok (.iload 5, 2) := by decide +kernel
theorem dX10_reach_53 : decode cX10_reach 53 = .ok (.iconst 3, 1) := by decide +kernel
theorem dX10_reach_54 : decode cX10_reach 54 = .ok (.if_icmp .ge 22, 3) := by decide +kernel
theorem dX10_reach_57 : decode cX10_reach 57 = .ok (.iload_n 2, 1) := by decide +kernel
theorem dX10_reach_58 : decode cX10_reach 58 = .ok (.iconst 1, 1) := by decide +kernel
theorem dX10_reach_59 : decode cX10_reach 59 = .ok (.aload_n 0, 1) := by decide +kernel
theorem dX10_reach_60 : decode cX10_reach 60 = .ok (.iload 4, 2) := by decide +kernel
theorem dX10_reach_62 : decode cX10_reach 62 = .ok (.iload 5, 2) := by decide +kernel
theorem dX10_reach_64 : decode cX10_reach 64 = .ok (.invokevirtual 118, 3) := by decide +kernel
theorem dX10_reach_67 : decode cX10_reach 67 = .ok (.ishl, 1) := by decide +kernel
theorem dX10_reach_68 : decode cX10_reach 68 = .ok (.ior, 1) := by decide +kernel
theorem dX10_reach_69 : decode cX10_reach 69 = .ok (.istore_n 2, 1) := by decide +kernel
theorem dX10_reach_70 : decode cX10_reach 70 = .ok (.iinc 5 1, 3) := by decide +kernel
theorem dX10_reach_73 : decode cX10_reach 73 = .ok (.goto (-22), 3) := by decide +kernel
theorem dX10_reach_76 : decode cX10_reach 76 = .ok (.iinc 4 1, 3) := by decide +kernel
theorem dX10_reach_79 : decode cX10_reach 79 = .ok (.goto (-54), 3) := by decide +kernel
theorem dX10_reach_82 : decode cX10_reach 82 = .ok (.iinc 3 1, 3) := by decide +kernel
theorem dX10_reach_85 : decode cX10_reach 85 = .ok (.goto (-69), 3) := by decide +kernel
theorem dX10_reach_88 : decode cX10_reach 88 = .ok (.iload_n 2, 1) := by decide +kernel
theorem dX10_reach_89 : decode cX10_reach 89 = .ok (.ireturn, 1) := by decide +kernel
theorem dX10_years_0 : decode cX10_years 0 = .ok (.aload_n 0, 1) := by decide +kernel
theorem dX10_years_1 : decode cX10_years 1 = .ok (.iload_n 1, 1) := by decide +kernel
theorem dX10_years_2 : decode cX10_years 2 = .ok (.invokevirtual 84, 3) := by decide +kernel
theorem dX10_years_5 : decode cX10_years 5 = .ok (.ifCond .eq 11, 3) := by decide +kernel
theorem dX10_years_8 : decode cX10_years 8 = .ok (.aload_n 0, 1) := by decide +kernel
theorem dX10_years_9 : decode cX10_years 9 = .ok (.iload_n 2, 1) := by decide +kernel
theorem dX10_years_10 : decode cX10_years 10 = .ok (.invokevirtual 84, 3) := by decide +kernel
theorem dX10_years_13 : decode cX10_years 13 = .ok (.ifCond .ne 5, 3) := by decide +kernel
theorem dX10_years_16 : decode cX10_years 16 = .ok (.iconst (-1), 1) := by decide +kernel
theorem dX10_years_17 : decode cX10_years 17 = .ok (.ireturn, 1) := by decide +kernel
theorem dX10_years_18 : decode cX10_years 18 = .ok (.iload_n 1, 1) := by decide +kernel
theorem dX10_years_19 : decode cX10_years 19 = .ok (.istore_n 3, 1) := by decide +kernel
theorem dX10_years_20 : decode cX10_years 20 = .ok (.iconst 0, 1) := by decide +kernel
theorem dX10_years_21 : decode cX10_years 21 = .ok (.istore 4, 2) := by decide +kernel
theorem dX10_years_23 : decode cX10_years 23 = .ok (.iload 4, 2) := by decide +kernel
theorem dX10_years_25 : decode cX10_years 25 = .ok (.bipush 8, 2) := by decide +kernel
theorem dX10_years_27 : decode cX10_years 27 = .ok (.if_icmp .ge 24, 3) := by decide +kernel
theorem dX10_years_30 : decode cX10_years 30 = .ok (.iload_n 3, 1) := by decide +kernel
theorem dX10_years_31 : decode cX10_years 31 = .ok (.iload_n 2, 1) := by decide +kernel
theorem dX10_years_32 : decode cX10_years 32 = .ok (.if_icmp .ne 6, 3) := by decide +kernel
theorem dX10_years_35 : decode cX10_years 35 = .ok (.iload 4, 2) := by decide +kernel
theorem dX10_years_37 : decode cX10_years 37 = .ok (.ireturn, 1) := by decide +kernel
theorem dX10_years_38 : decode cX10_years 38 = .ok (.aload_n 0, 1) := by decide +kernel
theorem dX10_years_39 : decode cX10_years 39 = .ok (.iload_n 3, 1) := by decide +kernel
theorem dX10_years_40 : decode cX10_years 40 = .ok (.iconst 0, 1) := by decide +kernel
theorem dX10_years_41 : decode cX10_years 41 = .ok (.invokevirtual 118, 3) := by decide +kernel
theorem dX10_years_44 : decode cX10_years 44 = .ok (.istore_n 3, 1) := by decide +kernel
theorem dX10_years_45 : decode cX10_years 45 = .ok (.iinc 4 1, 3) := by decide +kernel
theorem dX10_years_48 : decode cX10_years 48 = .ok (.goto (-25), 3) := by decide +kernel
theorem dX10_years_51 : decode cX10_years 51 = .ok (.bipush (-2), 2) := by decide +kernel
theorem dX10_years_53 : decode cX10_years 53 = .ok (.ireturn, 1) := by decide +kernel
theorem dX10_power_0 : decode cX10_power 0 = .ok (.lconst 1, 1) := by decide +kernel
theorem dX10_power_1 : decode cX10_power 1 = .ok (.lstore_n 3, 1) := by decide +kernel
theorem dX10_power_2 : decode cX10_power 2 = .ok (.iconst 0, 1) := by decide +kernel
theorem dX10_power_3 : decode cX10_power 3 = .ok (.istore 5, 2) := by decide +kernel
theorem dX10_power_5 : decode cX10_power 5 = .ok (.iload 5, 2) := by decide +kernel
theorem dX10_power_7 : decode cX10_power 7 = .ok (.iload_n 2, 1) := by decide +kernel
theorem dX10_power_8 : decode cX10_power 8 = .ok (.if_icmp .ge 13, 3) := by decide +kernel
theorem dX10_power_11 : decode cX10_power 11 = .ok (.lload_n 3, 1) := by decide +kernel
theorem dX10_power_12 : decode cX10_power 12 = .ok (.lload_n 0, 1) := by decide +kernel
theorem dX10_power_13 : decode cX10_power 13 = .ok (.lmul, 1) := by decide +kernel
theorem dX10_power_14 : decode cX10_power 14 = .ok (.lstore_n 3, 1) := by decide +kernel
theorem dX10_power_15 : decode cX10_power 15 = .ok (.iinc 5 1, 3) := by decide +kernel
theorem dX10_power_18 : decode cX10_power 18 = .ok (.goto (-13), 3) := by decide +kernel
theorem dX10_power_21 : decode cX10_power 21 = .ok (.lload_n 3, 1) := by decide +kernel
theorem dX10_power_22 : decode cX10_power 22 = .ok (.lreturn, 1) := by decide +kernel
theorem dX10_waysOf_0 : decode cX10_waysOf 0 = .ok (.aload_n 0, 1) := by decide +kernel
theorem dX10_waysOf_1 : decode cX10_waysOf 1 = .ok (.getfield 13, 3) := by decide +kernel
theorem dX10_waysOf_4 : decode cX10_waysOf 4 = .ok (.iconst 2, 1) := by decide +kernel
theorem dX10_waysOf_5 : decode cX10_waysOf 5 = .ok (.iaload, 1) := by decide +kernel
theorem dX10_waysOf_6 : decode cX10_waysOf 6 = .ok (.istore_n 2, 1) := by decide +kernel
theorem dX10_waysOf_7 : decode cX10_waysOf 7 = .ok (.iload_n 1, 1) := by decide +kernel
theorem dX10_waysOf_8 : decode cX10_waysOf 8 = .ok (.iload_n 2, 1) := by decide +kernel
theorem dX10_waysOf_9 : decode cX10_waysOf 9 = .ok (.if_icmp .le 5, 3) := by decide +kernel
theorem dX10_waysOf_12 : decode cX10_waysOf 12 = .ok (.lconst 0, 1) := by decide +kernel
theorem dX10_waysOf_13 : decode cX10_waysOf 13 = .ok (.lreturn, 1) := by decide +kernel
theorem dX10_waysOf_14 : decode cX10_waysOf 14 = .ok (.iload_n 1, 1) := by decide +kernel
theorem dX10_waysOf_15 : decode cX10_waysOf 15 = .ok (.ifCond .eq 8, 3) := by decide +kernel
theorem dX10_waysOf_18 : decode cX10_waysOf 18 = .ok (.iload_n 1, 1) := by decide +kernel
theorem dX10_waysOf_19 : decode cX10_waysOf 19 = .ok (.iload_n 2, 1) := by decide +kernel
theorem dX10_waysOf_20 : decode cX10_waysOf 20 = .ok (.if_icmp .ne 7, 3) := by decide +kernel
theorem dX10_waysOf_23 : decode cX10_waysOf 23 = .ok (.lconst 1, 1) := by decide +kernel
theorem dX10_waysOf_24 : decode cX10_waysOf 24 = .ok (.goto 5, 3) := by decide +kernel
theorem dX10_waysOf_27 : decode cX10_waysOf 27 = .ok (.iload_n 2, 1) := by decide +kernel
theorem dX10_waysOf_28 : decode cX10_waysOf 28 = .ok (.i2l, 1) := by decide +kernel
theorem dX10_waysOf_29 : decode cX10_waysOf 29 = .ok (.lstore_n 3, 1) := by decide +kernel
theorem dX10_waysOf_30 : decode cX10_waysOf 30 = .ok (.lload_n 3, 1) := by decide +kernel
theorem dX10_waysOf_31 : decode cX10_waysOf 31 = .ok (.aload_n 0, 1) := by decide +kernel
theorem dX10_waysOf_32 : decode cX10_waysOf 32 = .ok (.getfield 13, 3) := by decide +kernel
theorem dX10_waysOf_35 : decode cX10_waysOf 35 = .ok (.iconst 3, 1) := by decide +kernel
theorem dX10_waysOf_36 : decode cX10_waysOf 36 = .ok (.iaload, 1) := by decide +kernel
theorem dX10_waysOf_37 : decode cX10_waysOf 37 = .ok (.i2l, 1) := by decide +kernel
theorem dX10_waysOf_38 : decode cX10_waysOf 38 = .ok (.iload_n 1, 1) := by decide +kernel
theorem dX10_waysOf_39 : decode cX10_waysOf 39 = .ok (.invokestatic 247, 3) := by decide +kernel
theorem dX10_waysOf_42 : decode cX10_waysOf 42 = .ok (.lmul, 1) := by decide +kernel
theorem dX10_waysOf_43 : decode cX10_waysOf 43 = .ok (.bipush 12, 2) := by decide +kernel
theorem dX10_waysOf_45 : decode cX10_waysOf 45 = .ok (.aload_n 0, 1) := by decide +kernel
theorem dX10_waysOf_46 : decode cX10_waysOf 46 = .ok (.getfield 13, 3) := by decide +kernel
theorem dX10_waysOf_49 : decode cX10_waysOf 49 = .ok (.iconst 3, 1) := by decide +kernel
theorem dX10_waysOf_50 : decode cX10_waysOf 50 = .ok (.iaload, 1) := by decide +kernel
theorem dX10_waysOf_51 : decode cX10_waysOf 51 = .ok (.isub, 1) := by decide +kernel
theorem dX10_waysOf_52 : decode cX10_waysOf 52 = .ok (.i2l, 1) := by decide +kernel
