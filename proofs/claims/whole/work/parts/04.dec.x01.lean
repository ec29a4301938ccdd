theorem dX9_init_0 : decode cX9_init 0 = .ok (.aload_n 0, 1) := by decide +kernel
theorem dX9_init_1 : decode cX9_init 1 = .ok (.invokespecial 1, 3) := by decide +kernel
theorem dX9_init_4 : decode cX9_init 4 = .ok (.aload_n 0, 1) := by decide +kernel
theorem dX9_init_5 : decode cX9_init 5 = .ok (.new 7, 3) := by decide +kernel
theorem dX9_init_8 : decode cX9_init 8 = .ok (.dup, 1) := by decide +kernel
theorem dX9_init_9 : decode cX9_init 9 = .ok (.invokespecial 9, 3) := by decide +kernel
theorem dX9_init_12 : decode cX9_init 12 = .ok (.putfield 10, 3) := by decide +kernel
theorem dX9_init_15 : decode cX9_init 15 = .ok (.aload_n 0, 1) := by decide +kernel
theorem dX9_init_16 : decode cX9_init 16 = .ok (.new 16, 3) := by decide +kernel
theorem dX9_init_19 : decode cX9_init 19 = .ok (.dup, 1) := by decide +kernel
theorem dX9_init_20 : decode cX9_init 20 = .ok (.invokespecial 18, 3) := by decide +kernel
theorem dX9_init_23 : decode cX9_init 23 = .ok (.putfield 19, 3) := by decide +kernel
theorem dX9_init_26 : decode cX9_init 26 = .ok (.aload_n 0, 1) := by decide +kernel
theorem dX9_init_27 : decode cX9_init 27 = .ok (.new 23, 3) := by decide +kernel
theorem dX9_init_30 : decode cX9_init 30 = .ok (.dup, 1) := by decide +kernel
theorem dX9_init_31 : decode cX9_init 31 = .ok (.invokespecial 25, 3) := by decide +kernel
theorem dX9_init_34 : decode cX9_init 34 = .ok (.putfield 26, 3) := by decide +kernel
theorem dX9_init_37 : decode cX9_init 37 = .ok (.aload_n 0, 1) := by decide +kernel
theorem dX9_init_38 : decode cX9_init 38 = .ok (.new 23, 3) := by decide +kernel
theorem dX9_init_41 : decode cX9_init 41 = .ok (.dup, 1) := by decide +kernel
theorem dX9_init_42 : decode cX9_init 42 = .ok (.invokespecial 25, 3) := by decide +kernel
theorem dX9_init_45 : decode cX9_init 45 = .ok (.putfield 30, 3) := by decide +kernel
theorem dX9_init_48 : decode cX9_init 48 = .ok (.aload_n 0, 1) := by decide +kernel
theorem dX9_init_49 : decode cX9_init 49 = .ok (.new 33, 3) := by decide +kernel
theorem dX9_init_52 : decode cX9_init 52 = .ok (.dup, 1) := by decide +kernel
theorem dX9_init_53 : decode cX9_init 53 = .ok (.invokespecial 35, 3) := by decide +kernel
theorem dX9_init_56 : decode cX9_init 56 = .ok (.putfield 36, 3) := by decide +kernel
theorem dX9_init_59 : decode cX9_init 59 = .ok (.aload_n 0, 1) := by decide +kernel
theorem dX9_init_60 : decode cX9_init 60 = .ok (.new 33, 3) := by decide +kernel
theorem dX9_init_63 : decode cX9_init 63 = .ok (.dup, 1) := by decide +kernel
theorem dX9_init_64 : decode cX9_init 64 = .ok (.invokespecial 35, 3) := by decide +kernel
theorem dX9_init_67 : decode cX9_init 67 = .ok (.putfield 40, 3) := by decide +kernel
theorem dX9_init_70 : decode cX9_init 70 = .ok (.aload_n 0, 1) := by decide +kernel
theorem dX9_init_71 : decode cX9_init 71 = .ok (.new 43, 3) := by decide +kernel
theorem dX9_init_74 : decode cX9_init 74 = .ok (.dup, 1) := by decide +kernel
theorem dX9_init_75 : decode cX9_init 75 = .ok (.invokespecial 45, 3) := by decide +kernel
theorem dX9_init_78 : decode cX9_init 78 = .ok (.putfield 46, 3) := by decide +kernel
theorem dX9_init_81 : decode cX9_init 81 = .ok (.aload_n 0, 1) := by decide +kernel
theorem dX9_init_82 : decode cX9_init 82 = .ok (.new 50, 3) := by decide +kernel
theorem dX9_init_85 : decode cX9_init 85 = .ok (.dup, 1) := by decide +kernel
theorem dX9_init_86 : decode cX9_init 86 = .ok (.aload_n 0, 1) := by decide +kernel
theorem dX9_init_87 : decode cX9_init 87 = .ok (.getfield 26, 3) := by decide +kernel
theorem dX9_init_90 : decode cX9_init 90 = .ok (.invokespecial 52, 3) := by decide +kernel
theorem dX9_init_93 : decode cX9_init 93 = .ok (.putfield 55, 3) := by decide +kernel
theorem dX9_init_96 : decode cX9_init 96 = .ok (.aload_n 0, 1) := by decide +kernel
theorem dX9_init_97 : decode cX9_init 97 = .ok (.new 50, 3) := by decide +kernel
theorem dX9_init_100 : decode cX9_init 100 = .ok (.dup, 1) := by decide +kernel
theorem dX9_init_101 : decode cX9_init 101 = .ok (.aload_n 0, 1) := by decide +kernel
theorem dX9_init_102 : decode cX9_init 102 = .ok (.getfield 26, 3) := by decide +kernel
theorem dX9_init_105 : decode cX9_init 105 = .ok (.invokespecial 52, 3) := by decide +kernel
theorem dX9_init_108 : decode cX9_init 108 = .ok (.putfield 59, 3) := by decide +kernel
theorem dX9_init_111 : decode cX9_init 111 = .ok (.aload_n 0, 1) := by decide +kernel
theorem dX9_init_112 : decode cX9_init 112 = .ok (.new 62, 3) := by decide +kernel
theorem dX9_init_115 : decode cX9_init 115 = .ok (.dup, 1) := by decide +kernel
theorem dX9_init_116 : decode cX9_init 116 = .ok (.invokespecial 64, 3) := by decide +kernel
theorem dX9_init_119 : decode cX9_init 119 = .ok (.putfield 65, 3) := by decide +kernel
theorem dX9_init_122 : decode cX9_init 122 = .ok (.aload_n 0, 1) := by decide +kernel
theorem dX9_init_123 : decode cX9_init 123 = .ok (.new 69, 3) := by decide +kernel
theorem dX9_init_126 : decode cX9_init 126 = .ok (.dup, 1) := by decide +kernel
theorem dX9_init_127 : decode cX9_init 127 = .ok (.invokespecial 71, 3) := by decide +kernel
theorem dX9_init_130 : decode cX9_init 130 = .ok (.putfield 72, 3) := by decide +kernel
theorem dX9_init_133 : decode cX9_init 133 = .ok (.aload_n 0, 1) := by decide +kernel
theorem dX9_init_134 : decode cX9_init 134 = .ok (.bipush 8, 2) := by decide +kernel
theorem dX9_init_136 : decode cX9_init 136 = .ok (.newarray .long, 2) := by decide +kernel
theorem dX9_init_138 : decode cX9_init 138 = .ok (.putfield 76, 3) := by decide +kernel
theorem dX9_init_141 : decode cX9_init 141 = .ok (.aload_n 0, 1) := by decide +kernel
theorem dX9_init_142 : decode cX9_init 142 = .ok (.bipush 8, 2) := by decide +kernel
theorem dX9_init_144 : decode cX9_init 144 = .ok (.newarray .long, 2) := by decide +kernel
theorem dX9_init_146 : decode cX9_init 146 = .ok (.putfield 80, 3) := by decide +kernel
theorem dX9_init_149 : decode cX9_init 149 = .ok (.return_, 1) := by decide +kernel
theorem dX9_feed_0 : decode cX9_feed 0 = .ok (.aload_n 0, 1) := by decide +kernel
theorem dX9_feed_1 : decode cX9_feed 1 = .ok (.getfield 10, 3) := by decide +kernel
theorem dX9_feed_4 : decode cX9_feed 4 = .ok (.getfield 83, 3) := by decide +kernel
theorem dX9_feed_7 : decode cX9_feed 7 = .ok (.bipush 20, 2) := by decide +kernel
theorem dX9_feed_9 : decode cX9_feed 9 = .ok (.iadd, 1) := by decide +kernel
theorem dX9_feed_10 : decode cX9_feed 10 = .ok (.sipush 400, 3) := by decide +kernel
theorem dX9_feed_13 : decode cX9_feed 13 = .ok (.if_icmp .le 5, 3) := by decide +kernel
theorem dX9_feed_16 : decode cX9_feed 16 = .ok (.iconst (-1), 1) := by decide +kernel
theorem dX9_feed_17 : decode cX9_feed 17 = .ok (.ireturn, 1) := by decide +kernel
theorem dX9_feed_18 : decode cX9_feed 18 = .ok (.aload_n 0, 1) := by decide +kernel
theorem dX9_feed_19 : decode cX9_feed 19 = .ok (.getfield 10, 3) := by decide +kernel
theorem dX9_feed_22 : decode cX9_feed 22 = .ok (.iload_n 1, 1) := by decide +kernel
theorem dX9_feed_23 : decode cX9_feed 23 = .ok (.invokevirtual 87, 3) := by decide +kernel
theorem dX9_feed_26 : decode cX9_feed 26 = .ok (.aload_n 0, 1) := by decide +kernel
theorem dX9_feed_27 : decode cX9_feed 27 = .ok (.getfield 10, 3) := by decide +kernel
theorem dX9_feed_30 : decode cX9_feed 30 = .ok (.iload_n 2, 1) := by decide +kernel
theorem dX9_feed_31 : decode cX9_feed 31 = .ok (.invokevirtual 87, 3) := by decide +kernel
theorem dX9_feed_34 : decode cX9_feed 34 = .ok (.aload_n 0, 1) := by decide +kernel
theorem dX9_feed_35 : decode cX9_feed 35 = .ok (.getfield 10, 3) := by decide +kernel
theorem dX9_feed_38 : decode cX9_feed 38 = .ok (.iload_n 3, 1) := by decide +kernel
theorem dX9_feed_39 : decode cX9_feed 39 = .ok (.invokevirtual 87, 3) := by decide +kernel
theorem dX9_feed_42 : decode cX9_feed 42 = .ok (.aload_n 0, 1) := by decide +kernel
theorem dX9_feed_43 : decode cX9_feed 43 = .ok (.getfield 10, 3) := by decide +kernel
theorem dX9_feed_46 : decode cX9_feed 46 = .ok (.iload 4, 2) := by decide +kernel
theorem dX9_feed_48 : decode cX9_feed 48 = .ok (.invokevirtual 87, 3) := by decide +kernel
theorem dX9_feed_51 : decode cX9_feed 51 = .ok (.aload_n 0, 1) := by decide +kernel
theorem dX9_feed_52 : decode cX9_feed 52 = .ok (.getfield 10, 3) := by decide +kernel
theorem dX9_feed_55 : decode cX9_feed 55 = .ok (.iload 5, 2) := by decide +kernel
theorem dX9_feed_57 : decode cX9_feed 57 = .ok (.invokevirtual 87, 3) := by decide +kernel
theorem dX9_feed_60 : decode cX9_feed 60 = .ok (.aload_n 0, 1) := by decide +kernel
theorem dX9_feed_61 : decode cX9_feed 61 = .ok (.getfield 10, 3) := by decide +kernel
theorem dX9_feed_64 : decode cX9_feed 64 = .ok (.getfield 83, 3) := by decide +kernel
theorem dX9_feed_67 : decode cX9_feed 67 = .ok (.ireturn, 1) := by decide +kernel
theorem dX9_back_0 : decode cX9_back 0 = .ok (.iload_n 1, 1) := by decide +kernel
theorem dX9_back_1 : decode cX9_back 1 = .ok (.ifCond .lt 14, 3) := by decide +kernel
theorem dX9_back_4 : decode cX9_back 4 = .ok (.iload_n 1, 1) := by decide +kernel
theorem dX9_back_5 : decode cX9_back 5 = .ok (.aload_n 0, 1) := by decide +kernel
theorem dX9_back_6 : decode cX9_back 6 = .ok (.getfield 10, 3) := by decide +kernel
theorem dX9_back_9 : decode cX9_back 9 = .ok (.getfield 83, 3) := by decide +kernel
theorem dX9_back_12 : decode cX9_back 12 = .ok (.if_icmp .le 5, 3) := by decide +kernel
theorem dX9_back_15 : decode cX9_back 15 = .ok (.iconst (-1), 1) := by decide +kernel
theorem dX9_back_16 : decode cX9_back 16 = .ok (.ireturn, 1) := by decide +kernel
theorem dX9_back_17 : decode cX9_back 17 = .ok (.aload_n 0, 1) := by decide +kernel
theorem dX9_back_18 : decode cX9_back 18 = .ok (.getfield 10, 3) := by decide +kernel
theorem dX9_back_21 : decode cX9_back 21 = .ok (.dup, 1) := by decide +kernel
theorem dX9_back_22 : decode cX9_back 22 = .ok (.getfield 83, 3) := by decide +kernel
theorem dX9_back_25 : decode cX9_back 25 = .ok (.iload_n 1, 1) := by decide +kernel
theorem dX9_back_26 : decode cX9_back 26 = .ok (.isub, 1) := by decide +kernel
theorem dX9_back_27 : decode cX9_back 27 = .ok (.putfield 83, 3) := by decide +kernel
theorem dX9_back_30 : decode cX9_back 30 = .ok (.aload_n 0, 1) := by decide +kernel
theorem dX9_back_31 : decode cX9_back 31 = .ok (.getfield 10, 3) := by decide +kernel
theorem dX9_back_34 : decode cX9_back 34 = .ok (.getfield 83, 3) := by decide +kernel
theorem dX9_back_37 : decode cX9_back 37 = .ok (.ireturn, 1) := by decide +kernel
theorem dX9_text_0 : decode cX9_text 0 = .ok (.aload_n 0, 1) := by decide +kernel
theorem dX9_text_1 : decode cX9_text 1 = .ok (.getfield 10, 3) := by decide +kernel
theorem dX9_text_4 : decode cX9_text 4 = .ok (.invokevirtual 91, 3) := by decide +kernel
theorem dX9_text_7 : decode cX9_text 7 = .ok (.istore_n 1, 1) := by decide +kernel
theorem dX9_text_8 : decode cX9_text 8 = .ok (.aload_n 0, 1) := by decide +kernel
theorem dX9_text_9 : decode cX9_text 9 = .ok (.getfield 10, 3) := by decide +kernel
theorem dX9_text_12 : decode cX9_text 12 = .ok (.iconst 0, 1) := by decide +kernel
theorem dX9_text_13 : decode cX9_text 13 = .ok (.putfield 83, 3) := by decide +kernel
theorem dX9_text_16 : decode cX9_text 16 = .ok (.iload_n 1, 1) := by decide +kernel
theorem dX9_text_17 : decode cX9_text 17 = .ok (.iconst (-1), 1) := by decide +kernel
theorem dX9_text_18 : decode cX9_text 18 = .ok (.if_icmp .eq 8, 3) := by decide +kernel
theorem dX9_text_21 : decode cX9_text 21 = .ok (.bipush (-4), 2) := by decide +kernel
theorem dX9_text_23 : decode cX9_text 23 = .ok (.iload_n 1, 1) := by decide +kernel
theorem dX9_text_24 : decode cX9_text 24 = .ok (.isub, 1) := by decide +kernel
theorem dX9_text_25 : decode cX9_text 25 = .ok (.ireturn, 1) := by decide +kernel
theorem dX9_text_26 : decode cX9_text 26 = .ok (.aload_n 0, 1) := by decide +kernel
theorem dX9_text_27 : decode cX9_text 27 = .ok (.getfield 26, 3) := by decide +kernel
theorem dX9_text_30 : decode cX9_text 30 = .ok (.aload_n 0, 1) := by decide +kernel
theorem dX9_text_31 : decode cX9_text 31 = .ok (.getfield 10, 3) := by decide +kernel
theorem dX9_text_34 : decode cX9_text 34 = .ok (.getfield 95, 3) := by decide +kernel
theorem dX9_text_37 : decode cX9_text 37 = .ok (.invokevirtual 98, 3) := by decide +kernel
theorem dX9_text_40 : decode cX9_text 40 = .ok (.aload_n 0, 1) := by decide +kernel
theorem dX9_text_41 : decode cX9_text 41 = .ok (.getfield 36, 3) := by decide +kernel
theorem dX9_text_44 : decode cX9_text 44 = .ok (.invokevirtual 101, 3) := by decide +kernel
theorem dX9_text_47 : decode cX9_text 47 = .ok (.aload_n 0, 1) := by decide +kernel
theorem dX9_text_48 : decode cX9_text 48 = .ok (.getfield 46, 3) := by decide +kernel
theorem dX9_text_51 : decode cX9_text 51 = .ok (.invokevirtual 104, 3) := by decide +kernel
theorem dX9_text_54 : decode cX9_text 54 = .ok (.aload_n 0, 1) := by decide +kernel
theorem dX9_text_55 : decode cX9_text 55 = .ok (.getfield 55, 3) := by decide +kernel
theorem dX9_text_58 : decode cX9_text 58 = .ok (.aload_n 0, 1) := by decide +kernel
theorem dX9_text_59 : decode cX9_text 59 = .ok (.getfield 26, 3) := by decide +kernel
theorem dX9_text_62 : decode cX9_text 62 = .ok (.iconst 1, 1) := by decide +kernel
theorem dX9_text_63 : decode cX9_text 63 = .ok (.invokevirtual 107, 3) := by decide +kernel
theorem dX9_text_66 : decode cX9_text 66 = .ok (.aload_n 0, 1) := by decide +kernel
theorem dX9_text_67 : decode cX9_text 67 = .ok (.getfield 26, 3) := by decide +kernel
theorem dX9_text_70 : decode cX9_text 70 = .ok (.getfield 111, 3) := by decide +kernel
theorem dX9_text_73 : decode cX9_text 73 = .ok (.ireturn, 1) := by decide +kernel
theorem dX9_set_0 : decode cX9_set 0 = .ok (.aload_n 0, 1) := by decide +kernel
theorem dX9_set_1 : decode cX9_set 1 = .ok (.getfield 26, 3) := by decide +kernel
theorem dX9_set_4 : decode cX9_set 4 = .ok (.iload_n 1, 1) := by decide +kernel
theorem dX9_set_5 : decode cX9_set 5 = .ok (.invokevirtual 114, 3) := by decide +kernel
theorem dX9_set_8 : decode cX9_set 8 = .ok (.ifCond .eq 25, 3) := by decide +kernel
theorem dX9_set_11 : decode cX9_set 11 = .ok (.iload_n 2, 1) := by decide +kernel
theorem dX9_set_12 : decode cX9_set 12 = .ok (.ifCond .lt 21, 3) := by decide +kernel
theorem dX9_set_15 : decode cX9_set 15 = .ok (.iload_n 2, 1) := by decide +kernel
theorem dX9_set_16 : decode cX9_set 16 = .ok (.iconst 5, 1) := by decide +kernel
theorem dX9_set_17 : decode cX9_set 17 = .ok (.if_icmp .ge 16, 3) := by decide +kernel
theorem dX9_set_20 : decode cX9_set 20 = .ok (.iload_n 3, 1) := by decide +kernel
theorem dX9_set_21 : decode cX9_set 21 = .ok (.ifCond .lt 12, 3) := by decide +kernel
theorem dX9_set_24 : decode cX9_set 24 = .ok (.iload_n 3, 1) := by decide +kernel
theorem dX9_set_25 : decode cX9_set 25 = .ok (.aload_n 0, 1) := by decide +kernel
theorem dX9_set_26 : decode cX9_set 26 = .ok (.iload_n 2, 1) := by decide +kernel
theorem dX9_set_27 : decode cX9_set 27 = .ok (.invokevirtual 118, 3) := by decide +kernel
theorem dX9_set_30 : decode cX9_set 30 = .ok (.if_icmp .le 5, 3) := by decide +kernel
theorem dX9_set_33 : decode cX9_set 33 = .ok (.iconst (-1), 1) := by decide +kernel
theorem dX9_set_34 : decode cX9_set 34 = .ok (.ireturn, 1) := by decide +kernel
theorem dX9_set_35 : decode cX9_set 35 = .ok (.aload_n 0, 1) := by decide +kernel
theorem dX9_set_36 : decode cX9_set 36 = .ok (.getfield 26, 3) := by decide +kernel
theorem dX9_set_39 : decode cX9_set 39 = .ok (.iload_n 1, 1) := by decide +kernel
theorem dX9_set_40 : decode cX9_set 40 = .ok (.iload_n 2, 1) := by decide +kernel
theorem dX9_set_41 : decode cX9_set 41 = .ok (.invokevirtual 122, 3) := by decide +kernel
theorem dX9_set_44 : decode cX9_set 44 = .ok (.istore 4, 2) := by decide +kernel
theorem dX9_set_46 : decode cX9_set 46 = .ok (.iload 4, 2) := by decide +kernel
theorem dX9_set_48 : decode cX9_set 48 = .ok (.iload_n 3, 1) := by decide +kernel
theorem dX9_set_49 : decode cX9_set 49 = .ok (.if_icmp .ne 5, 3) := by decide +kernel
theorem dX9_set_52 : decode cX9_set 52 = .ok (.iconst (-1), 1) := by decide +kernel
theorem dX9_set_53 : decode cX9_set 53 = .ok (.ireturn, 1) := by decide +kernel
theorem dX9_set_54 : decode cX9_set 54 = .ok (.aload_n 0, 1) := by decide +kernel
theorem dX9_set_55 : decode cX9_set 55 = .ok (.invokevirtual 126, 3) := by decide +kernel
theorem dX9_set_58 : decode cX9_set 58 = .ok (.aload_n 0, 1) := by decide +kernel
theorem dX9_set_59 : decode cX9_set 59 = .ok (.getfield 26, 3) := by decide +kernel
theorem dX9_set_62 : decode cX9_set 62 = .ok (.iload_n 1, 1) := by decide +kernel
theorem dX9_set_63 : decode cX9_set 63 = .ok (.iload_n 2, 1) := by decide +kernel
theorem dX9_set_64 : decode cX9_set 64 = .ok (.iload_n 3, 1) := by decide +kernel
theorem dX9_set_65 : decode cX9_set 65 = .ok (.invokevirtual 129, 3) := by decide +kernel
theorem dX9_set_68 : decode cX9_set 68 = .ok (.iload 4, 2) := by decide +kernel
theorem dX9_set_70 : decode cX9_set 70 = .ok (.ireturn, 1) := by decide +kernel
theorem dX9_sort_0 : decode cX9_sort 0 = .ok (.aload_n 0, 1) := by decide +kernel
theorem dX9_sort_1 : decode cX9_sort 1 = .ok (.getfield 26, 3) := by decide +kernel
theorem dX9_sort_4 : decode cX9_sort 4 = .ok (.iload_n 1, 1) := by decide +kernel
theorem dX9_sort_5 : decode cX9_sort 5 = .ok (.invokevirtual 133, 3) := by decide +kernel
theorem dX9_sort_8 : decode cX9_sort 8 = .ok (.ifCond .eq 26, 3) := by decide +kernel
theorem dX9_sort_11 : decode cX9_sort 11 = .ok (.iload_n 2, 1) := by decide +kernel
theorem dX9_sort_12 : decode cX9_sort 12 = .ok (.ifCond .lt 22, 3) := by decide +kernel
theorem dX9_sort_15 : decode cX9_sort 15 = .ok (.iload_n 2, 1) := by decide +kernel
theorem dX9_sort_16 : decode cX9_sort 16 = .ok (.iconst 2, 1) := by decide +kernel
theorem dX9_sort_17 : decode cX9_sort 17 = .ok (.if_icmp .ge 17, 3) := by decide +kernel
theorem dX9_sort_20 : decode cX9_sort 20 = .ok (.iload_n 3, 1) := by decide +kernel
theorem dX9_sort_21 : decode cX9_sort 21 = .ok (.iconst 1, 1) := by decide +kernel
theorem dX9_sort_22 : decode cX9_sort 22 = .ok (.if_icmp .lt 12, 3) := by decide +kernel
theorem dX9_sort_25 : decode cX9_sort 25 = .ok (.iload_n 3, 1) := by decide +kernel
theorem dX9_sort_26 : decode cX9_sort 26 = .ok (.getstatic 136, 3) := by decide +kernel
theorem dX9_sort_29 : decode cX9_sort 29 = .ok (.iload_n 2, 1) := by decide +kernel
theorem dX9_sort_30 : decode cX9_sort 30 = .ok (.iaload, 1) := by decide +kernel
theorem dX9_sort_31 : decode cX9_sort 31 = .ok (.if_icmp .le 5, 3) := by decide +kernel
theorem dX9_sort_34 : decode cX9_sort 34 = .ok (.iconst (-1), 1) := by decide +kernel
theorem dX9_sort_35 : decode cX9_sort 35 = .ok (.ireturn, 1) := by decide +kernel
theorem dX9_sort_36 : decode cX9_sort 36 = .ok (.aload_n 0, 1) := by decide +kernel
theorem dX9_sort_37 : decode cX9_sort 37 = .ok (.getfield 26, 3) := by decide +kernel
theorem dX9_sort_40 : decode cX9_sort 40 = .ok (.iload_n 1, 1) := by decide +kernel
theorem dX9_sort_41 : decode cX9_sort 41 = .ok (.iload_n 2, 1) := by decide +kernel
theorem dX9_sort_42 : decode cX9_sort 42 = .ok (.invokevirtual 140, 3) := by decide +kernel
theorem dX9_sort_45 : decode cX9_sort 45 = .ok (.istore 4, 2) := by decide +kernel
theorem dX9_sort_47 : decode cX9_sort 47 = .ok (.iload 4, 2) := by decide +kernel
theorem dX9_sort_49 : decode cX9_sort 49 = .ok (.iload_n 3, 1) := by decide +kernel
theorem dX9_sort_50 : decode cX9_sort 50 = .ok (.if_icmp .ne 5, 3) := by decide +kernel
theorem dX9_sort_53 : decode cX9_sort 53 = .ok (.iconst (-1), 1) := by decide +kernel
theorem dX9_sort_54 : decode cX9_sort 54 = .ok (.ireturn, 1) := by decide +kernel
theorem dX9_sort_55 : decode cX9_sort 55 = .ok (.aload_n 0, 1) := by decide +kernel
theorem dX9_sort_56 : decode cX9_sort 56 = .ok (.invokevirtual 126, 3) := by decide +kernel
theorem dX9_sort_59 : decode cX9_sort 59 = .ok (.aload_n 0, 1) := by decide +kernel
theorem dX9_sort_60 : decode cX9_sort 60 = .ok (.getfield 26, 3) := by decide +kernel
theorem dX9_sort_63 : decode cX9_sort 63 = .ok (.iload_n 1, 1) := by decide +kernel
theorem dX9_sort_64 : decode cX9_sort 64 = .ok (.iload_n 2, 1) := by decide +kernel
theorem dX9_sort_65 : decode cX9_sort 65 = .ok (.iload_n 3, 1) := by decide +kernel
theorem dX9_sort_66 : decode cX9_sort 66 = .ok (.invokevirtual 143, 3) := by decide +kernel
theorem dX9_sort_69 : decode cX9_sort 69 = .ok (.iload 4, 2) := by decide +kernel
theorem dX9_sort_71 : decode cX9_sort 71 = .ok (.ireturn, 1) := by decide +kernel
theorem dX9_rule_0 : decode cX9_rule 0 = .ok (.iload_n 1, 1) := by decide +kernel
theorem dX9_rule_1 : decode cX9_rule 1 = .ok (.iload_n 2, 1) := by decide +kernel
theorem dX9_rule_2 : decode cX9_rule 2 = .ok (.invokestatic 146, 3) := by decide +kernel
theorem dX9_rule_5 : decode cX9_rule 5 = .ok (.ifCond .eq 17, 3) := by decide +kernel
theorem dX9_rule_8 : decode cX9_rule 8 = .ok (.iload_n 1, 1) := by decide +kernel
theorem dX9_rule_9 : decode cX9_rule 9 = .ok (.ifCond .ne 15, 3) := by decide +kernel
theorem dX9_rule_12 : decode cX9_rule 12 = .ok (.aload_n 0, 1) := by decide +kernel
theorem dX9_rule_13 : decode cX9_rule 13 = .ok (.getfield 36, 3) := by decide +kernel
theorem dX9_rule_16 : decode cX9_rule 16 = .ok (.getfield 150, 3) := by decide +kernel
theorem dX9_rule_19 : decode cX9_rule 19 = .ok (.ifCond .eq 5, 3) := by decide +kernel
theorem dX9_rule_22 : decode cX9_rule 22 = .ok (.iconst (-1), 1) := by decide +kernel
theorem dX9_rule_23 : decode cX9_rule 23 = .ok (.ireturn, 1) := by decide +kernel
theorem dX9_rule_24 : decode cX9_rule 24 = .ok (.aload_n 0, 1) := by decide +kernel
theorem dX9_rule_25 : decode cX9_rule 25 = .ok (.getfield 26, 3) := by decide +kernel
theorem dX9_rule_28 : decode cX9_rule 28 = .ok (.getfield 154, 3) := by decide +kernel
theorem dX9_rule_31 : decode cX9_rule 31 = .ok (.iload_n 1, 1) := by decide +kernel
theorem dX9_rule_32 : decode cX9_rule 32 = .ok (.iaload, 1) := by decide +kernel
theorem dX9_rule_33 : decode cX9_rule 33 = .ok (.istore_n 3, 1) := by decide +kernel
theorem dX9_rule_34 : decode cX9_rule 34 = .ok (.iload_n 3, 1) := by decide +kernel
theorem dX9_rule_35 : decode cX9_rule 35 = .ok (.iload_n 2, 1) := by decide +kernel
theorem dX9_rule_36 : decode cX9_rule 36 = .ok (.if_icmp .ne 5, 3) := by decide +kernel
theorem dX9_rule_39 : decode cX9_rule 39 = .ok (.iconst (-1), 1) := by decide +kernel
theorem dX9_rule_40 : decode cX9_rule 40 = .ok (.ireturn, 1) := by decide +kernel
theorem dX9_rule_41 : decode cX9_rule 41 = .ok (.aload_n 0, 1) := by decide +kernel
theorem dX9_rule_42 : decode cX9_rule 42 = .ok (.invokevirtual 126, 3) := by decide +kernel
theorem dX9_rule_45 : decode cX9_rule 45 = .ok (.aload_n 0, 1) := by decide +kernel
theorem dX9_rule_46 : decode cX9_rule 46 = .ok (.getfield 26, 3) := by decide +kernel
theorem dX9_rule_49 : decode cX9_rule 49 = .ok (.getfield 154, 3) := by decide +kernel
theorem dX9_rule_52 : decode cX9_rule 52 = .ok (.iload_n 1, 1) := by decide +kernel
theorem dX9_rule_53 : decode cX9_rule 53 = .ok (.iload_n 2, 1) := by decide +kernel
theorem dX9_rule_54 : decode cX9_rule 54 = .ok (.iastore, 1) := by decide +kernel
theorem dX9_rule_55 : decode cX9_rule 55 = .ok (.iload_n 3, 1) := by decide +kernel
theorem dX9_rule_56 : decode cX9_rule 56 = .ok (.ireturn, 1) := by decide +kernel
theorem dX9_begin_0 : decode cX9_begin 0 = .ok (.aload_n 0, 1) := by decide +kernel
theorem dX9_begin_1 : decode cX9_begin 1 = .ok (.getfield 36, 3) := by decide +kernel
theorem dX9_begin_4 : decode cX9_begin 4 = .ok (.getfield 150, 3) := by decide +kernel
theorem dX9_begin_7 : decode cX9_begin 7 = .ok (.ifCond .ne 13, 3) := by decide +kernel
theorem dX9_begin_10 : decode cX9_begin 10 = .ok (.aload_n 0, 1) := by decide +kernel
theorem dX9_begin_11 : decode cX9_begin 11 = .ok (.getfield 26, 3) := by decide +kernel
theorem dX9_begin_14 : decode cX9_begin 14 = .ok (.getfield 111, 3) := by decide +kernel
theorem dX9_begin_17 : decode cX9_begin 17 = .ok (.ifCond .ne 5, 3) := by decide +kernel
theorem dX9_begin_20 : decode cX9_begin 20 = .ok (.iconst (-1), 1) := by decide +kernel
theorem dX9_begin_21 : decode cX9_begin 21 = .ok (.ireturn, 1) := by decide +kernel
theorem dX9_begin_22 : decode cX9_begin 22 = .ok (.aload_n 0, 1) := by decide +kernel
theorem dX9_begin_23 : decode cX9_begin 23 = .ok (.invokevirtual 126, 3) := by decide +kernel
theorem dX9_begin_26 : decode cX9_begin 26 = .ok (.aload_n 0, 1) := by decide +kernel
theorem dX9_begin_27 : decode cX9_begin 27 = .ok (.getfield 36, 3) := by decide +kernel
theorem dX9_begin_30 : decode cX9_begin 30 = .ok (.aload_n 0, 1) := by decide +kernel
theorem dX9_begin_31 : decode cX9_begin 31 = .ok (.getfield 26, 3) := by decide +kernel
theorem dX9_begin_34 : decode cX9_begin 34 = .ok (.iload_n 1, 1) := by decide +kernel
theorem dX9_begin_35 : decode cX9_begin 35 = .ok (.invokevirtual 157, 3) := by decide +kernel
theorem dX9_begin_38 : decode cX9_begin 38 = .ok (.ireturn, 1) := by decide +kernel
theorem dX9_quiet_0 : decode cX9_quiet 0 = .ok (.aload_n 0, 1) := by decide +kernel
theorem dX9_quiet_1 : decode cX9_quiet 1 = .ok (.getfield 36, 3) := by decide +kernel
theorem dX9_quiet_4 : decode cX9_quiet 4 = .ok (.getfield 150, 3) := by decide +kernel
theorem dX9_quiet_7 : decode cX9_quiet 7 = .ok (.ifCond .ne 5, 3) := by decide +kernel
theorem dX9_quiet_10 : decode cX9_quiet 10 = .ok (.iconst (-1), 1) := by decide +kernel
theorem dX9_quiet_11 : decode cX9_quiet 11 = .ok (.ireturn, 1) := by decide +kernel
theorem dX9_quiet_12 : decode cX9_quiet 12 = .ok (.aload_n 0, 1) := by decide +kernel
theorem dX9_quiet_13 : decode cX9_quiet 13 = .ok (.invokevirtual 126, 3) := by decide +kernel
theorem dX9_quiet_16 : decode cX9_quiet 16 = .ok (.aload_n 0, 1) := by decide +kernel
theorem dX9_quiet_17 : decode cX9_quiet 17 = .ok (.getfield 36, 3) := by decide +kernel
theorem dX9_quiet_20 : decode cX9_quiet 20 = .ok (.aload_n 0, 1) := by decide +kernel
theorem dX9_quiet_21 : decode cX9_quiet 21 = .ok (.getfield 26, 3) := by decide +kernel
theorem dX9_quiet_24 : decode cX9_quiet 24 = .ok (.invokevirtual 161, 3) := by decide +kernel
theorem dX9_quiet_27 : decode cX9_quiet 27 = .ok (.ireturn, 1) := by decide +kernel
theorem dX9_loss_0 : decode cX9_loss 0 = .ok (.aload_n 0, 1) := by decide +kernel
theorem dX9_loss_1 : decode cX9_loss 1 = .ok (.getfield 36, 3) := by decide +kernel
theorem dX9_loss_4 : decode cX9_loss 4 = .ok (.getfield 150, 3) := by decide +kernel
theorem dX9_loss_7 : decode cX9_loss 7 = .ok (.ifCond .eq 14, 3) := by decide +kernel
theorem dX9_loss_10 : decode cX9_loss 10 = .ok (.aload_n 0, 1) := by decide +kernel
theorem dX9_loss_11 : decode cX9_loss 11 = .ok (.getfield 26, 3) := by decide +kernel
theorem dX9_loss_14 : decode cX9_loss 14 = .ok (.iload_n 1, 1) := by decide +kernel
theorem dX9_loss_15 : decode cX9_loss 15 = .ok (.invokevirtual 133, 3) := by decide +kernel
theorem dX9_loss_18 : decode cX9_loss 18 = .ok (.ifCond .ne 5, 3) := by decide +kernel
theorem dX9_loss_21 : decode cX9_loss 21 = .ok (.iconst (-1), 1) := by decide +kernel
theorem dX9_loss_22 : decode cX9_loss 22 = .ok (.ireturn, 1) := by decide +kernel
theorem dX9_loss_23 : decode cX9_loss 23 = .ok (.aload_n 0, 1) := by decide +kernel
theorem dX9_loss_24 : decode cX9_loss 24 = .ok (.invokevirtual 126, 3) := by decide +kernel
theorem dX9_loss_27 : decode cX9_loss 27 = .ok (.aload_n 0, 1) := by decide +kernel
theorem dX9_loss_28 : decode cX9_loss 28 = .ok (.getfield 36, 3) := by decide +kernel
theorem dX9_loss_31 : decode cX9_loss 31 = .ok (.aload_n 0, 1) := by decide +kernel
theorem dX9_loss_32 : decode cX9_loss 32 = .ok (.getfield 26, 3) := by decide +kernel
theorem dX9_loss_35 : decode cX9_loss 35 = .ok (.iload_n 1, 1) := by decide +kernel
theorem dX9_loss_36 : decode cX9_loss 36 = .ok (.iload_n 2, 1) := by decide +kernel
theorem dX9_loss_37 : decode cX9_loss 37 = .ok (.invokevirtual 165, 3) := by decide +kernel
theorem dX9_loss_40 : decode cX9_loss 40 = .ok (.istore_n 3, 1) := by decide +kernel
theorem dX9_loss_41 : decode cX9_loss 41 = .ok (.aload_n 0, 1) := by decide +kernel
theorem dX9_loss_42 : decode cX9_loss 42 = .ok (.getfield 36, 3) := by decide +kernel
theorem dX9_loss_45 : decode cX9_loss 45 = .ok (.aload_n 0, 1) := by decide +kernel
theorem dX9_loss_46 : decode cX9_loss 46 = .ok (.getfield 26, 3) := by decide +kernel
theorem dX9_loss_49 : decode cX9_loss 49 = .ok (.invokevirtual 161, 3) := by decide +kernel
theorem dX9_loss_52 : decode cX9_loss 52 = .ok (.pop, 1) := by decide +kernel
theorem dX9_loss_53 : decode cX9_loss 53 = .ok (.iload_n 3, 1) := by decide +kernel
theorem dX9_loss_54 : decode cX9_loss 54 = .ok (.ireturn, 1) := by decide +kernel
theorem dX9_live_0 : decode cX9_live 0 = .ok (.aload_n 0, 1) := by decide +kernel
theorem dX9_live_1 : decode cX9_live 1 = .ok (.getfield 36, 3) := by decide +kernel
theorem dX9_live_4 : decode cX9_live 4 = .ok (.getfield 150, 3) := by decide +kernel
theorem dX9_live_7 : decode cX9_live 7 = .ok (.ifCond .ne 13, 3) := by decide +kernel
theorem dX9_live_10 : decode cX9_live 10 = .ok (.aload_n 0, 1) := by decide +kernel
theorem dX9_live_11 : decode cX9_live 11 = .ok (.iload_n 1, 1) := by decide +kernel
theorem dX9_live_12 : decode cX9_live 12 = .ok (.iload_n 2, 1) := by decide +kernel
theorem dX9_live_13 : decode cX9_live 13 = .ok (.iload_n 3, 1) := by decide +kernel
theorem dX9_live_14 : decode cX9_live 14 = .ok (.invokevirtual 169, 3) := by decide +kernel
theorem dX9_live_17 : decode cX9_live 17 = .ok (.ifCond .ne 5, 3) := by decide +kernel
theorem dX9_live_20 : decode cX9_live 20 = .ok (.iconst (-1), 1) := by decide +kernel
theorem dX9_live_21 : decode cX9_live 21 = .ok (.ireturn, 1) := by decide +kernel
theorem dX9_live_22 : decode cX9_live 22 = .ok (.aload_n 0, 1) := by decide +kernel
theorem dX9_live_23 : decode cX9_live 23 = .ok (.invokevirtual 126, 3) := by decide +kernel
theorem dX9_live_26 : decode cX9_live 26 = .ok (.aload_n 0, 1) := by decide +kernel
theorem dX9_live_27 : decode cX9_live 27 = .ok (.aload_n 0, 1) := by decide +kernel
theorem dX9_live_28 : decode cX9_live 28 = .ok (.getfield 36, 3) := by decide +kernel
theorem dX9_live_31 : decode cX9_live 31 = .ok (.iload_n 1, 1) := by decide +kernel
theorem dX9_live_32 : decode cX9_live 32 = .ok (.iload_n 2, 1) := by decide +kernel
theorem dX9_live_33 : decode cX9_live 33 = .ok (.iload_n 3, 1) := by decide +kernel
theorem dX9_live_34 : decode cX9_live 34 = .ok (.iload 4, 2) := by decide +kernel
theorem dX9_live_36 : decode cX9_live 36 = .ok (.invokevirtual 173, 3) := by decide +kernel
theorem dX9_live_39 : decode cX9_live 39 = .ok (.ireturn, 1) := by decide +kernel
theorem dX9_come_0 : decode cX9_come 0 = .ok (.iload_n 1, 1) := by decide +kernel
theorem dX9_come_1 : decode cX9_come 1 = .ok (.iconst 1, 1) := by decide +kernel
theorem dX9_come_2 : decode cX9_come 2 = .ok (.if_icmp .lt 26, 3) := by decide +kernel
theorem dX9_come_5 : decode cX9_come 5 = .ok (.iload_n 1, 1) := by decide +kernel
theorem dX9_come_6 : decode cX9_come 6 = .ok (.getstatic 136, 3) := by decide +kernel
theorem dX9_come_9 : decode cX9_come 9 = .ok (.iconst 0, 1) := by decide +kernel
theorem dX9_come_10 : decode cX9_come 10 = .ok (.iaload, 1) := by decide +kernel
theorem dX9_come_11 : decode cX9_come 11 = .ok (.if_icmp .gt 17, 3) := by decide +kernel
theorem dX9_come_14 : decode cX9_come 14 = .ok (.iload_n 2, 1) := by decide +kernel
theorem dX9_come_15 : decode cX9_come 15 = .ok (.iconst 1, 1) := by decide +kernel
theorem dX9_come_16 : decode cX9_come 16 = .ok (.if_icmp .lt 12, 3) := by decide +kernel
theorem dX9_come_19 : decode cX9_come 19 = .ok (.iload_n 2, 1) := by decide +kernel
theorem dX9_come_20 : decode cX9_come 20 = .ok (.getstatic 136, 3) := by decide +kernel
theorem dX9_come_23 : decode cX9_come 23 = .ok (.iconst 1, 1) := by decide +kernel
theorem dX9_come_24 : decode cX9_come 24 = .ok (.iaload, 1) := by decide +kernel
theorem dX9_come_25 : decode cX9_come 25 = .ok (.if_icmp .le 5, 3) := by decide +kernel
theorem dX9_come_28 : decode cX9_come 28 = .ok (.iconst (-1), 1) := by decide +kernel
theorem dX9_come_29 : decode cX9_come 29 = .ok (.ireturn, 1) := by decide +kernel
theorem dX9_come_30 : decode cX9_come 30 = .ok (.aload_n 0, 1) := by decide +kernel
theorem dX9_come_31 : decode cX9_come 31 = .ok (.getfield 26, 3) := by decide +kernel
theorem dX9_come_34 : decode cX9_come 34 = .ok (.getfield 177, 3) := by decide +kernel
theorem dX9_come_37 : decode cX9_come 37 = .ok (.iconst 5, 1) := by decide +kernel
theorem dX9_come_38 : decode cX9_come 38 = .ok (.if_icmp .ge 13, 3) := by decide +kernel
theorem dX9_come_41 : decode cX9_come 41 = .ok (.aload_n 0, 1) := by decide +kernel
theorem dX9_come_42 : decode cX9_come 42 = .ok (.getfield 26, 3) := by decide +kernel
theorem dX9_come_45 : decode cX9_come 45 = .ok (.getfield 111, 3) := by decide +kernel
theorem dX9_come_48 : decode cX9_come 48 = .ok (.ifCond .ne 5, 3) := by decide +kernel
theorem dX9_come_51 : decode cX9_come 51 = .ok (.iconst (-1), 1) := by decide +kernel
theorem dX9_come_52 : decode cX9_come 52 = .ok (.ireturn, 1) := by decide +kernel
theorem dX9_come_53 : decode cX9_come 53 = .ok (.aload_n 0, 1) := by decide +kernel
theorem dX9_come_54 : decode cX9_come 54 = .ok (.invokevirtual 126, 3) := by decide +kernel
theorem dX9_come_57 : decode cX9_come 57 = .ok (.aload_n 0, 1) := by decide +kernel
theorem dX9_come_58 : decode cX9_come 58 = .ok (.getfield 26, 3) := by decide +kernel
theorem dX9_come_61 : decode cX9_come 61 = .ok (.iload_n 1, 1) := by decide +kernel
theorem dX9_come_62 : decode cX9_come 62 = .ok (.iload_n 2, 1) := by decide +kernel
theorem dX9_come_63 : decode cX9_come 63 = .ok (.invokevirtual 180, 3) := by decide +kernel
theorem dX9_come_66 : decode cX9_come 66 = .ok (.aload_n 0, 1) := by decide +kernel
theorem dX9_come_67 : decode cX9_come 67 = .ok (.getfield 26, 3) := by decide +kernel
theorem dX9_come_70 : decode cX9_come 70 = .ok (.getfield 177, 3) := by decide +kernel
theorem dX9_come_73 : decode cX9_come 73 = .ok (.iconst 1, 1) := by decide +kernel
theorem dX9_come_74 : decode cX9_come 74 = .ok (.isub, 1) := by decide +kernel
theorem dX9_come_75 : decode cX9_come 75 = .ok (.ireturn, 1) := by decide +kernel
theorem dX9_drop_0 : decode cX9_drop 0 = .ok (.aload_n 0, 1) := by decide +kernel
theorem dX9_drop_1 : decode cX9_drop 1 = .ok (.getfield 26, 3) := by decide +kernel
theorem dX9_drop_4 : decode cX9_drop 4 = .ok (.iload_n 1, 1) := by decide +kernel
theorem dX9_drop_5 : decode cX9_drop 5 = .ok (.invokevirtual 133, 3) := by decide +kernel
theorem dX9_drop_8 : decode cX9_drop 8 = .ok (.ifCond .eq 14, 3) := by decide +kernel
theorem dX9_drop_11 : decode cX9_drop 11 = .ok (.aload_n 0, 1) := by decide +kernel
theorem dX9_drop_12 : decode cX9_drop 12 = .ok (.getfield 26, 3) := by decide +kernel
theorem dX9_drop_15 : decode cX9_drop 15 = .ok (.getfield 177, 3) := by decide +kernel
theorem dX9_drop_18 : decode cX9_drop 18 = .ok (.iconst 1, 1) := by decide +kernel
theorem dX9_drop_19 : decode cX9_drop 19 = .ok (.if_icmp .ne 5, 3) := by decide +kernel
theorem dX9_drop_22 : decode cX9_drop 22 = .ok (.iconst (-1), 1) := by decide +kernel
theorem dX9_drop_23 : decode cX9_drop 23 = .ok (.ireturn, 1) := by decide +kernel
theorem dX9_drop_24 : decode cX9_drop 24 = .ok (.aload_n 0, 1) := by decide +kernel
theorem dX9_drop_25 : decode cX9_drop 25 = .ok (.invokevirtual 126, 3) := by decide +kernel
theorem dX9_drop_28 : decode cX9_drop 28 = .ok (.aload_n 0, 1) := by decide +kernel
theorem dX9_drop_29 : decode cX9_drop 29 = .ok (.getfield 26, 3) := by decide +kernel
theorem dX9_drop_32 : decode cX9_drop 32 = .ok (.iload_n 1, 1) := by decide +kernel
theorem dX9_drop_33 : decode cX9_drop 33 = .ok (.invokevirtual 184, 3) := by decide +kernel
theorem dX9_drop_36 : decode cX9_drop 36 = .ok (.aload_n 0, 1) := by decide +kernel
theorem dX9_drop_37 : decode cX9_drop 37 = .ok (.getfield 26, 3) := by decide +kernel
theorem dX9_drop_40 : decode cX9_drop 40 = .ok (.getfield 177, 3) := by decide +kernel
theorem dX9_drop_43 : decode cX9_drop 43 = .ok (.ireturn, 1) := by decide +kernel
theorem dX9_move_0 : decode cX9_move 0 = .ok (.aload_n 0, 1) := by decide +kernel
theorem dX9_move_1 : decode cX9_move 1 = .ok (.getfield 26, 3) := by decide +kernel
theorem dX9_move_4 : decode cX9_move 4 = .ok (.iload_n 1, 1) := by decide +kernel
theorem dX9_move_5 : decode cX9_move 5 = .ok (.invokevirtual 114, 3) := by decide +kernel
theorem dX9_move_8 : decode cX9_move 8 = .ok (.ifCond .eq 24, 3) := by decide +kernel
theorem dX9_move_11 : decode cX9_move 11 = .ok (.aload_n 0, 1) := by decide +kernel
theorem dX9_move_12 : decode cX9_move 12 = .ok (.getfield 36, 3) := by decide +kernel
theorem dX9_move_15 : decode cX9_move 15 = .ok (.getfield 150, 3) := by decide +kernel
theorem dX9_move_18 : decode cX9_move 18 = .ok (.ifCond .ne 14, 3) := by decide +kernel
theorem dX9_move_21 : decode cX9_move 21 = .ok (.aload_n 0, 1) := by decide +kernel
theorem dX9_move_22 : decode cX9_move 22 = .ok (.getfield 36, 3) := by decide +kernel
theorem dX9_move_25 : decode cX9_move 25 = .ok (.getfield 187, 3) := by decide +kernel
theorem dX9_move_28 : decode cX9_move 28 = .ok (.iload_n 1, 1) := by decide +kernel
theorem dX9_move_29 : decode cX9_move 29 = .ok (.if_icmp .ne 5, 3) := by decide +kernel
theorem dX9_move_32 : decode cX9_move 32 = .ok (.iconst (-1), 1) := by decide +kernel
theorem dX9_move_33 : decode cX9_move 33 = .ok (.ireturn, 1) := by decide +kernel
theorem dX9_move_34 : decode cX9_move 34 = .ok (.aload_n 0, 1) := by decide +kernel
theorem dX9_move_35 : decode cX9_move 35 = .ok (.invokevirtual 126, 3) := by decide +kernel
theorem dX9_move_38 : decode cX9_move 38 = .ok (.aload_n 0, 1) := by decide +kernel
theorem dX9_move_39 : decode cX9_move 39 = .ok (.getfield 36, 3) := by decide +kernel
theorem dX9_move_42 : decode cX9_move 42 = .ok (.getfield 187, 3) := by decide +kernel
theorem dX9_move_45 : decode cX9_move 45 = .ok (.istore_n 2, 1) := by decide +kernel
theorem dX9_move_46 : decode cX9_move 46 = .ok (.aload_n 0, 1) := by decide +kernel
theorem dX9_move_47 : decode cX9_move 47 = .ok (.getfield 36, 3) := by decide +kernel
theorem dX9_move_50 : decode cX9_move 50 = .ok (.iload_n 1, 1) := by decide +kernel
theorem dX9_move_51 : decode cX9_move 51 = .ok (.putfield 187, 3) := by decide +kernel
theorem dX9_move_54 : decode cX9_move 54 = .ok (.iload_n 2, 1) := by decide +kernel
theorem dX9_move_55 : decode cX9_move 55 = .ok (.ireturn, 1) := by decide +kernel
theorem dX9_anew_0 : decode cX9_anew 0 = .ok (.aload_n 0, 1) := by decide +kernel
theorem dX9_anew_1 : decode cX9_anew 1 = .ok (.invokevirtual 126, 3) := by decide +kernel
theorem dX9_anew_4 : decode cX9_anew 4 = .ok (.aload_n 0, 1) := by decide +kernel
theorem dX9_anew_5 : decode cX9_anew 5 = .ok (.getfield 36, 3) := by decide +kernel
theorem dX9_anew_8 : decode cX9_anew 8 = .ok (.getfield 190, 3) := by decide +kernel
theorem dX9_anew_11 : decode cX9_anew 11 = .ok (.istore_n 1, 1) := by decide +kernel
theorem dX9_anew_12 : decode cX9_anew 12 = .ok (.aload_n 0, 1) := by decide +kernel
theorem dX9_anew_13 : decode cX9_anew 13 = .ok (.getfield 36, 3) := by decide +kernel
theorem dX9_anew_16 : decode cX9_anew 16 = .ok (.invokevirtual 101, 3) := by decide +kernel
theorem dX9_anew_19 : decode cX9_anew 19 = .ok (.iload_n 1, 1) := by decide +kernel
theorem dX9_anew_20 : decode cX9_anew 20 = .ok (.ireturn, 1) := by decide +kernel
theorem dX9_undo_0 : decode cX9_undo 0 = .ok (.aload_n 0, 1) := by decide +kernel
theorem dX9_undo_1 : decode cX9_undo 1 = .ok (.getfield 46, 3) := by decide +kernel
theorem dX9_undo_4 : decode cX9_undo 4 = .ok (.aload_n 0, 1) := by decide +kernel
theorem dX9_undo_5 : decode cX9_undo 5 = .ok (.getfield 26, 3) := by decide +kernel
theorem dX9_undo_8 : decode cX9_undo 8 = .ok (.aload_n 0, 1) := by decide +kernel
theorem dX9_undo_9 : decode cX9_undo 9 = .ok (.getfield 36, 3) := by decide +kernel
theorem dX9_undo_12 : decode cX9_undo 12 = .ok (.invokevirtual 193, 3) := by decide +kernel
theorem dX9_undo_15 : decode cX9_undo 15 = .ok (.ifCond .ne 5, 3) := by decide +kernel
theorem dX9_undo_18 : decode cX9_undo 18 = .ok (.iconst (-1), 1) := by decide +kernel
theorem dX9_undo_19 : decode cX9_undo 19 = .ok (.ireturn, 1) := by decide +kernel
theorem dX9_undo_20 : decode cX9_undo 20 = .ok (.aload_n 0, 1) := by decide +kernel
theorem dX9_undo_21 : decode cX9_undo 21 = .ok (.getfield 55, 3) := by decide +kernel
theorem dX9_undo_24 : decode cX9_undo 24 = .ok (.aload_n 0, 1) := by decide +kernel
theorem dX9_undo_25 : decode cX9_undo 25 = .ok (.getfield 26, 3) := by decide +kernel
theorem dX9_undo_28 : decode cX9_undo 28 = .ok (.iconst 1, 1) := by decide +kernel
theorem dX9_undo_29 : decode cX9_undo 29 = .ok (.invokevirtual 107, 3) := by decide +kernel
theorem dX9_undo_32 : decode cX9_undo 32 = .ok (.aload_n 0, 1) := by decide +kernel
theorem dX9_undo_33 : decode cX9_undo 33 = .ok (.getfield 46, 3) := by decide +kernel
theorem dX9_undo_36 : decode cX9_undo 36 = .ok (.getfield 197, 3) := by decide +kernel
theorem dX9_undo_39 : decode cX9_undo 39 = .ok (.ireturn, 1) := by decide +kernel
theorem dX9_of_0 : decode cX9_of 0 = .ok (.aload_n 0, 1) := by decide +kernel
theorem dX9_of_1 : decode cX9_of 1 = .ok (.getfield 26, 3) := by decide +kernel
theorem dX9_of_4 : decode cX9_of 4 = .ok (.iload_n 1, 1) := by decide +kernel
theorem dX9_of_5 : decode cX9_of 5 = .ok (.invokevirtual 114, 3) := by decide +kernel
theorem dX9_of_8 : decode cX9_of 8 = .ok (.ifCond .eq 12, 3) := by decide +kernel
theorem dX9_of_11 : decode cX9_of 11 = .ok (.iload_n 2, 1) := by decide +kernel
theorem dX9_of_12 : decode cX9_of 12 = .ok (.ifCond .lt 8, 3) := by decide +kernel
theorem dX9_of_15 : decode cX9_of 15 = .ok (.iload_n 2, 1) := by decide +kernel
theorem dX9_of_16 : decode cX9_of 16 = .ok (.iconst 5, 1) := by decide +kernel
theorem dX9_of_17 : decode cX9_of 17 = .ok (.if_icmp .lt 5, 3) := by decide +kernel
theorem dX9_of_20 : decode cX9_of 20 = .ok (.iconst (-1), 1) := by decide +kernel
theorem dX9_of_21 : decode cX9_of 21 = .ok (.ireturn, 1) := by decide +kernel
theorem dX9_of_22 : decode cX9_of 22 = .ok (.aload_n 0, 1) := by decide +kernel
theorem dX9_of_23 : decode cX9_of 23 = .ok (.getfield 26, 3) := by decide +kernel
theorem dX9_of_26 : decode cX9_of 26 = .ok (.iload_n 1, 1) := by decide +kernel
theorem dX9_of_27 : decode cX9_of 27 = .ok (.iload_n 2, 1) := by decide +kernel
theorem dX9_of_28 : decode cX9_of 28 = .ok (.invokevirtual 122, 3) := by decide +kernel
theorem dX9_of_31 : decode cX9_of 31 = .ok (.ireturn, 1) := by decide +kernel
theorem dX9_ofSort_0 : decode cX9_ofSort 0 = .ok (.aload_n 0, 1) := by decide +kernel
theorem dX9_ofSort_1 : decode cX9_ofSort 1 = .ok (.getfield 26, 3) := by decide +kernel
theorem dX9_ofSort_4 : decode cX9_ofSort 4 = .ok (.iload_n 1, 1) := by decide +kernel
theorem dX9_ofSort_5 : decode cX9_ofSort 5 = .ok (.invokevirtual 133, 3) := by decide +kernel
theorem dX9_ofSort_8 : decode cX9_ofSort 8 = .ok (.ifCond .ne 5, 3) := by decide +kernel
theorem dX9_ofSort_11 : decode cX9_ofSort 11 = .ok (.iconst (-1), 1) := by decide +kernel
theorem dX9_ofSort_12 : decode cX9_ofSort 12 = .ok (.ireturn, 1) := by decide +kernel
theorem dX9_ofSort_13 : decode cX9_ofSort 13 = .ok (.iload_n 2, 1) := by decide +kernel
theorem dX9_ofSort_14 : decode cX9_ofSort 14 = .ok (.tableswitch 64 0 2 #[26, 36, 46], 26) := by decide +kernel
theorem dX9_ofSort_40 : decode cX9_ofSort 40 = .ok (.aload_n 0, 1) := by decide +kernel
theorem dX9_ofSort_41 : decode cX9_ofSort 41 = .ok (.getfield 26, 3) := by decide +kernel
theorem dX9_ofSort_44 : decode cX9_ofSort 44 = .ok (.iload_n 1, 1) := by decide +kernel
theorem dX9_ofSort_45 : decode cX9_ofSort 45 = .ok (.iconst 0, 1) := by decide +kernel
theorem dX9_ofSort_46 : decode cX9_ofSort 46 = .ok (.invokevirtual 140, 3) := by decide +kernel
theorem dX9_ofSort_49 : decode cX9_ofSort 49 = .ok (.ireturn, 1) := by decide +kernel
theorem dX9_ofSort_50 : decode cX9_ofSort 50 = .ok (.aload_n 0, 1) := by decide +kernel
theorem dX9_ofSort_51 : decode cX9_ofSort 51 = .ok (.getfield 26, 3) := by decide +kernel
theorem dX9_ofSort_54 : decode cX9_ofSort 54 = .ok (.iload_n 1, 1) := by decide +kernel
theorem dX9_ofSort_55 : decode cX9_ofSort 55 = .ok (.iconst 1, 1) := by decide +kernel
theorem dX9_ofSort_56 : decode cX9_ofSort 56 = .ok (.invokevirtual 140, 3) := by decide +kernel
theorem dX9_ofSort_59 : decode cX9_ofSort 59 = .ok (.ireturn, 1) := by decide +kernel
theorem dX9_ofSort_60 : decode cX9_ofSort 60 = .ok (.aload_n 0, 1) := by decide +kernel
theorem dX9_ofSort_61 : decode cX9_ofSort 61 = .ok (.getfield 26, 3) := by decide +kernel
theorem dX9_ofSort_64 : decode cX9_ofSort 64 = .ok (.invokevirtual 200, 3) := by decide +kernel
theorem dX9_ofSort_67 : decode cX9_ofSort 67 = .ok (.aload_n 0, 1) := by decide +kernel
theorem dX9_ofSort_68 : decode cX9_ofSort 68 = .ok (.getfield 26, 3) := by decide +kernel
theorem dX9_ofSort_71 : decode cX9_ofSort 71 = .ok (.iload_n 1, 1) := by decide +kernel
theorem dX9_ofSort_72 : decode cX9_ofSort 72 = .ok (.iconst 1, 1) := by decide +kernel
theorem dX9_ofSort_73 : decode cX9_ofSort 73 = .ok (.invokevirtual 140, 3) := by decide +kernel
theorem dX9_ofSort_76 : decode cX9_ofSort 76 = .ok (.imul, 1) := by decide +kernel
theorem dX9_ofSort_77 : decode cX9_ofSort 77 = .ok (.ireturn, 1) := by decide +kernel
theorem dX9_ofSort_78 : decode cX9_ofSort 78 = .ok (.iconst (-1), 1) := by decide +kernel
theorem dX9_ofSort_79 : decode cX9_ofSort 79 = .ok (.ireturn, 1) := by decide +kernel
theorem dX9_life_0 : decode cX9_life 0 = .ok (.iload_n 1, 1) := by decide +kernel
theorem dX9_life_1 : decode cX9_life 1 = .ok (.tableswitch 201 0 12 #[67, 89, 105, 113, 121, 137, 145, 153, 161, 169, 177, 185, 193], 67) := by decide +kernel
theorem dX9_life_68 : decode cX9_life 68 = .ok (.aload_n 0, 1) := by decide +kernel
theorem dX9_life_69 : decode cX9_life 69 = .ok (.getfield 26, 3) := by decide +kernel
theorem dX9_life_72 : decode cX9_life 72 = .ok (.getfield 111, 3) := by decide +kernel
theorem dX9_life_75 : decode cX9_life 75 = .ok (.ifCond .ne 7, 3) := by decide +kernel
theorem dX9_life_78 : decode cX9_life 78 = .ok (.iconst (-1), 1) := by decide +kernel
theorem dX9_life_79 : decode cX9_life 79 = .ok (.goto 10, 3) := by decide +kernel
theorem dX9_life_82 : decode cX9_life 82 = .ok (.aload_n 0, 1) := by decide +kernel
theorem dX9_life_83 : decode cX9_life 83 = .ok (.getfield 36, 3) := by decide +kernel
theorem dX9_life_86 : decode cX9_life 86 = .ok (.getfield 187, 3) := by decide +kernel
theorem dX9_life_89 : decode cX9_life 89 = .ok (.ireturn, 1) := by decide +kernel
theorem dX9_life_90 : decode cX9_life 90 = .ok (.aload_n 0, 1) := by decide +kernel
theorem dX9_life_91 : decode cX9_life 91 = .ok (.getfield 36, 3) := by decide +kernel
theorem dX9_life_94 : decode cX9_life 94 = .ok (.getfield 150, 3) := by decide +kernel
theorem dX9_life_97 : decode cX9_life 97 = .ok (.ifCond .eq 7, 3) := by decide +kernel
theorem dX9_life_100 : decode cX9_life 100 = .ok (.iconst 1, 1) := by decide +kernel
theorem dX9_life_101 : decode cX9_life 101 = .ok (.goto 4, 3) := by decide +kernel
theorem dX9_life_104 : decode cX9_life 104 = .ok (.iconst 0, 1) := by decide +kernel
theorem dX9_life_105 : decode cX9_life 105 = .ok (.ireturn, 1) := by decide +kernel
theorem dX9_life_106 : decode cX9_life 106 = .ok (.aload_n 0, 1) := by decide +kernel
theorem dX9_life_107 : decode cX9_life 107 = .ok (.getfield 36, 3) := by decide +kernel
theorem dX9_life_110 : decode cX9_life 110 = .ok (.getfield 203, 3) := by decide +kernel
theorem dX9_life_113 : decode cX9_life 113 = .ok (.ireturn, 1) := by decide +kernel
theorem dX9_life_114 : decode cX9_life 114 = .ok (.aload_n 0, 1) := by decide +kernel
theorem dX9_life_115 : decode cX9_life 115 = .ok (.getfield 36, 3) := by decide +kernel
theorem dX9_life_118 : decode cX9_life 118 = .ok (.getfield 206, 3) := by decide +kernel
theorem dX9_life_121 : decode cX9_life 121 = .ok (.ireturn, 1) := by decide +kernel
theorem dX9_life_122 : decode cX9_life 122 = .ok (.aload_n 0, 1) := by decide +kernel
theorem dX9_life_123 : decode cX9_life 123 = .ok (.getfield 36, 3) := by decide +kernel
theorem dX9_life_126 : decode cX9_life 126 = .ok (.getfield 209, 3) := by decide +kernel
theorem dX9_life_129 : decode cX9_life 129 = .ok (.ifCond .eq 7, 3) := by decide +kernel
theorem dX9_life_132 : decode cX9_life 132 = .ok (.iconst 1, 1) := by decide +kernel
theorem dX9_life_133 : decode cX9_life 133 = .ok (.goto 4, 3) := by decide +kernel
theorem dX9_life_136 : decode cX9_life 136 = .ok (.iconst 0, 1) := by decide +kernel
theorem dX9_life_137 : decode cX9_life 137 = .ok (.ireturn, 1) := by decide +kernel
theorem dX9_life_138 : decode cX9_life 138 = .ok (.aload_n 0, 1) := by decide +kernel
theorem dX9_life_139 : decode cX9_life 139 = .ok (.getfield 36, 3) := by decide +kernel
theorem dX9_life_142 : decode cX9_life 142 = .ok (.getfield 190, 3) := by decide +kernel
theorem dX9_life_145 : decode cX9_life 145 = .ok (.ireturn, 1) := by decide +kernel
theorem dX9_life_146 : decode cX9_life 146 = .ok (.aload_n 0, 1) := by decide +kernel
theorem dX9_life_147 : decode cX9_life 147 = .ok (.getfield 36, 3) := by decide +kernel
theorem dX9_life_150 : decode cX9_life 150 = .ok (.getfield 212, 3) := by decide +kernel
theorem dX9_life_153 : decode cX9_life 153 = .ok (.ireturn, 1) := by decide +kernel
theorem dX9_life_154 : decode cX9_life 154 = .ok (.aload_n 0, 1) := by decide +kernel
theorem dX9_life_155 : decode cX9_life 155 = .ok (.getfield 36, 3) := by decide +kernel
theorem dX9_life_158 : decode cX9_life 158 = .ok (.getfield 215, 3) := by decide +kernel
theorem dX9_life_161 : decode cX9_life 161 = .ok (.ireturn, 1) := by decide +kernel
theorem dX9_life_162 : decode cX9_life 162 = .ok (.aload_n 0, 1) := by decide +kernel
theorem dX9_life_163 : decode cX9_life 163 = .ok (.getfield 36, 3) := by decide +kernel
theorem dX9_life_166 : decode cX9_life 166 = .ok (.getfield 218, 3) := by decide +kernel
theorem dX9_life_169 : decode cX9_life 169 = .ok (.ireturn, 1) := by decide +kernel
theorem dX9_life_170 : decode cX9_life 170 = .ok (.aload_n 0, 1) := by decide +kernel
theorem dX9_life_171 : decode cX9_life 171 = .ok (.getfield 36, 3) := by decide +kernel
theorem dX9_life_174 : decode cX9_life 174 = .ok (.getfield 221, 3) := by decide +kernel
theorem dX9_life_177 : decode cX9_life 177 = .ok (.ireturn, 1) := by decide +kernel
theorem dX9_life_178 : decode cX9_life 178 = .ok (.aload_n 0, 1) := by decide +kernel
theorem dX9_life_179 : decode cX9_life 179 = .ok (.getfield 36, 3) := by decide +kernel
theorem dX9_life_182 : decode cX9_life 182 = .ok (.getfield 224, 3) := by decide +kernel
theorem dX9_life_185 : decode cX9_life 185 = .ok (.ireturn, 1) := by decide +kernel
theorem dX9_life_186 : decode cX9_life 186 = .ok (.aload_n 0, 1) := by decide +kernel
theorem dX9_life_187 : decode cX9_life 187 = .ok (.getfield 36, 3) := by decide +kernel
theorem dX9_life_190 : decode cX9_life 190 = .ok (.getfield 227, 3) := by decide +kernel
theorem dX9_life_193 : decode cX9_life 193 = .ok (.ireturn, 1) := by decide +kernel
theorem dX9_life_194 : decode cX9_life 194 = .ok (.aload_n 0, 1) := by decide +kernel
theorem dX9_life_195 : decode cX9_life 195 = .ok (.getfield 36, 3) := by decide +kernel
theorem dX9_life_198 : decode cX9_life 198 = .ok (.invokevirtual 230, 3) := by decide +kernel
theorem dX9_life_201 : decode cX9_life 201 = .ok (.ireturn, 1) := by decide +kernel
theorem dX9_life_202 : decode cX9_life 202 = .ok (.iconst (-1), 1) := by decide +kernel
theorem dX9_life_203 : decode cX9_life 203 = .ok (.ireturn, 1) := by decide +kernel
theorem dX9_book_0 : decode cX9_book 0 = .ok (.aload_n 0, 1) := by decide +kernel
theorem dX9_book_1 : decode cX9_book 1 = .ok (.getfield 36, 3) := by decide +kernel
theorem dX9_book_4 : decode cX9_book 4 = .ok (.getfield 233, 3) := by decide +kernel
theorem dX9_book_7 : decode cX9_book 7 = .ok (.aload_n 0, 1) := by decide +kernel
theorem dX9_book_8 : decode cX9_book 8 = .ok (.getfield 36, 3) := by decide +kernel
theorem dX9_book_11 : decode cX9_book 11 = .ok (.getfield 224, 3) := by decide +kernel
theorem dX9_book_14 : decode cX9_book 14 = .ok (.aload_n 0, 1) := by decide +kernel
theorem dX9_book_15 : decode cX9_book 15 = .ok (.getfield 36, 3) := by decide +kernel
theorem dX9_book_18 : decode cX9_book 18 = .ok (.getfield 227, 3) := by decide +kernel
theorem dX9_book_21 : decode cX9_book 21 = .ok (.iadd, 1) := by decide +kernel
theorem dX9_book_22 : decode cX9_book 22 = .ok (.iload_n 1, 1) := by decide +kernel
theorem dX9_book_23 : decode cX9_book 23 = .ok (.iload_n 2, 1) := by decide +kernel
theorem dX9_book_24 : decode cX9_book 24 = .ok (.invokestatic 236, 3) := by decide +kernel
theorem dX9_book_27 : decode cX9_book 27 = .ok (.ireturn, 1) := by decide +kernel
theorem dX9_ledger_0 : decode cX9_ledger 0 = .ok (.aload_n 0, 1) := by decide +kernel
theorem dX9_ledger_1 : decode cX9_ledger 1 = .ok (.getfield 36, 3) := by decide +kernel
theorem dX9_ledger_4 : decode cX9_ledger 4 = .ok (.getfield 240, 3) := by decide +kernel
theorem dX9_ledger_7 : decode cX9_ledger 7 = .ok (.aload_n 0, 1) := by decide +kernel
theorem dX9_ledger_8 : decode cX9_ledger 8 = .ok (.getfield 36, 3) := by decide +kernel
theorem dX9_ledger_11 : decode cX9_ledger 11 = .ok (.getfield 190, 3) := by decide +kernel
theorem dX9_ledger_14 : decode cX9_ledger 14 = .ok (.iload_n 1, 1) := by decide +kernel
theorem dX9_ledger_15 : decode cX9_ledger 15 = .ok (.iload_n 2, 1) := by decide +kernel
theorem dX9_ledger_16 : decode cX9_ledger 16 = .ok (.invokestatic 236, 3) := by decide +kernel
theorem dX9_ledger_19 : decode cX9_ledger 19 = .ok (.ireturn, 1) := by decide +kernel
theorem dX9_mean_0 : decode cX9_mean 0 = .ok (.bipush 16, 2) := by decide +kernel
theorem dX9_mean_2 : decode cX9_mean 2 = .ok (.aload_n 0, 1) := by decide +kernel
theorem dX9_mean_3 : decode cX9_mean 3 = .ok (.getfield 36, 3) := by decide +kernel
theorem dX9_mean_6 : decode cX9_mean 6 = .ok (.getfield 190, 3) := by decide +kernel
theorem dX9_mean_9 : decode cX9_mean 9 = .ok (.invokestatic 243, 3) := by decide +kernel
theorem dX9_mean_12 : decode cX9_mean 12 = .ok (.istore_n 2, 1) := by decide +kernel
theorem dX9_mean_13 : decode cX9_mean 13 = .ok (.iload_n 2, 1) := by decide +kernel
theorem dX9_mean_14 : decode cX9_mean 14 = .ok (.ifCond .gt 5, 3) := by decide +kernel
theorem dX9_mean_17 : decode cX9_mean 17 = .ok (.iconst (-1), 1) := by decide +kernel
theorem dX9_mean_18 : decode cX9_mean 18 = .ok (.ireturn, 1) := by decide +kernel
theorem dX9_mean_19 : decode cX9_mean 19 = .ok (.iconst 0, 1) := by decide +kernel
theorem dX9_mean_20 : decode cX9_mean 20 = .ok (.istore_n 3, 1) := by decide +kernel
theorem dX9_mean_21 : decode cX9_mean 21 = .ok (.iconst 0, 1) := by decide +kernel
theorem dX9_mean_22 : decode cX9_mean 22 = .ok (.istore 4, 2) := by decide +kernel
theorem dX9_mean_24 : decode cX9_mean 24 = .ok (.iload 4, 2) := by decide +kernel
theorem dX9_mean_26 : decode cX9_mean 26 = .ok (.iload_n 2, 1) := by decide +kernel
theorem dX9_mean_27 : decode cX9_mean 27 = .ok (.if_icmp .ge 32, 3) := by decide +kernel
theorem dX9_mean_30 : decode cX9_mean 30 = .ok (.iload_n 3, 1) := by decide +kernel
theorem dX9_mean_31 : decode cX9_mean 31 = .ok (.aload_n 0, 1) := by decide +kernel
theorem dX9_mean_32 : decode cX9_mean 32 = .ok (.getfield 36, 3) := by decide +kernel
theorem dX9_mean_35 : decode cX9_mean 35 = .ok (.getfield 240, 3) := by decide +kernel
theorem dX9_mean_38 : decode cX9_mean 38 = .ok (.aload_n 0, 1) := by decide +kernel
theorem dX9_mean_39 : decode cX9_mean 39 = .ok (.getfield 36, 3) := by decide +kernel
theorem dX9_mean_42 : decode cX9_mean 42 = .ok (.getfield 190, 3) := by decide +kernel
theorem dX9_mean_45 : decode cX9_mean 45 = .ok (.iload 4, 2) := by decide +kernel
theorem dX9_mean_47 : decode cX9_mean 47 = .ok (.iconst 1, 1) := by decide +kernel
theorem dX9_mean_48 : decode cX9_mean 48 = .ok (.invokestatic 236, 3) := by decide +kernel
theorem dX9_mean_51 : decode cX9_mean 51 = .ok (.iadd, 1) := by decide +kernel
theorem dX9_mean_52 : decode cX9_mean 52 = .ok (.istore_n 3, 1) := by decide +kernel
theorem dX9_mean_53 : decode cX9_mean 53 = .ok (.iinc 4 1, 3) := by decide +kernel
theorem dX9_mean_56 : decode cX9_mean 56 = .ok (.goto (-32), 3) := by decide +kernel
theorem dX9_mean_59 : decode cX9_mean 59 = .ok (.iload_n 3, 1) := by decide +kernel
theorem dX9_mean_60 : decode cX9_mean 60 = .ok (.iload_n 2, 1) := by decide +kernel
theorem dX9_mean_61 : decode cX9_mean 61 = .ok (.invokestatic 248, 3) := by decide +kernel
theorem dX9_mean_64 : decode cX9_mean 64 = .ok (.istore 4, 2) := by decide +kernel
theorem dX9_mean_66 : decode cX9_mean 66 = .ok (.iload_n 1, 1) := by decide +kernel
theorem dX9_mean_67 : decode cX9_mean 67 = .ok (.ifCond .eq 7, 3) := by decide +kernel
theorem dX9_mean_70 : decode cX9_mean 70 = .ok (.iload_n 2, 1) := by decide +kernel
theorem dX9_mean_71 : decode cX9_mean 71 = .ok (.goto 4, 3) := by decide +kernel
theorem dX9_mean_74 : decode cX9_mean 74 = .ok (.iload_n 3, 1) := by decide +kernel
theorem dX9_mean_75 : decode cX9_mean 75 = .ok (.iload 4, 2) := by decide +kernel
theorem dX9_mean_77 : decode cX9_mean 77 = .ok (.idiv, 1) := by decide +kernel
theorem dX9_mean_78 : decode cX9_mean 78 = .ok (.ireturn, 1) := by decide +kernel
theorem dX9_cost_0 : decode cX9_cost 0 = .ok (.aload_n 0, 1) := by decide +kernel
theorem dX9_cost_1 : decode cX9_cost 1 = .ok (.iload_n 1, 1) := by decide +kernel
theorem dX9_cost_2 : decode cX9_cost 2 = .ok (.iload_n 2, 1) := by decide +kernel
theorem dX9_cost_3 : decode cX9_cost 3 = .ok (.invokevirtual 251, 3) := by decide +kernel
theorem dX9_cost_6 : decode cX9_cost 6 = .ok (.ifCond .ne 7, 3) := by decide +kernel
theorem dX9_cost_9 : decode cX9_cost 9 = .ok (.ldc2_w 254, 3) := by decide +kernel
theorem dX9_cost_12 : decode cX9_cost 12 = .ok (.lreturn, 1) := by decide +kernel
theorem dX9_cost_13 : decode cX9_cost 13 = .ok (.aload_n 0, 1) := by decide +kernel
theorem dX9_cost_14 : decode cX9_cost 14 = .ok (.getfield 55, 3) := by decide +kernel
theorem dX9_cost_17 : decode cX9_cost 17 = .ok (.iload_n 1, 1) := by decide +kernel
theorem dX9_cost_18 : decode cX9_cost 18 = .ok (.iload_n 2, 1) := by decide +kernel
theorem dX9_cost_19 : decode cX9_cost 19 = .ok (.invokevirtual 256, 3) := by decide +kernel
theorem dX9_cost_22 : decode cX9_cost 22 = .ok (.lreturn, 1) := by decide +kernel
theorem dX9_guards_0 : decode cX9_guards 0 = .ok (.aload_n 0, 1) := by decide +kernel
theorem dX9_guards_1 : decode cX9_guards 1 = .ok (.iload_n 1, 1) := by decide +kernel
theorem dX9_guards_2 : decode cX9_guards 2 = .ok (.iload_n 2, 1) := by decide +kernel
theorem dX9_guards_3 : decode cX9_guards 3 = .ok (.invokevirtual 251, 3) := by decide +kernel
theorem dX9_guards_6 : decode cX9_guards 6 = .ok (.ifCond .ne 5, 3) := by decide +kernel
theorem dX9_guards_9 : decode cX9_guards 9 = .ok (.iconst (-1), 1) := by decide +kernel
theorem dX9_guards_10 : decode cX9_guards 10 = .ok (.ireturn, 1) := by decide +kernel
theorem dX9_guards_11 : decode cX9_guards 11 = .ok (.iload_n 1, 1) := by decide +kernel
theorem dX9_guards_12 : decode cX9_guards 12 = .ok (.ifCond .ne 5, 3) := by decide +kernel
theorem dX9_guards_15 : decode cX9_guards 15 = .ok (.iconst 0, 1) := by decide +kernel
theorem dX9_guards_16 : decode cX9_guards 16 = .ok (.ireturn, 1) := by decide +kernel
theorem dX9_guards_17 : decode cX9_guards 17 = .ok (.aload_n 0, 1) := by decide +kernel
theorem dX9_guards_18 : decode cX9_guards 18 = .ok (.getfield 55, 3) := by decide +kernel
theorem dX9_guards_21 : decode cX9_guards 21 = .ok (.iload_n 1, 1) := by decide +kernel
theorem dX9_guards_22 : decode cX9_guards 22 = .ok (.iconst 1, 1) := by decide +kernel
theorem dX9_guards_23 : decode cX9_guards 23 = .ok (.isub, 1) := by decide +kernel
theorem dX9_guards_24 : decode cX9_guards 24 = .ok (.invokevirtual 260, 3) := by decide +kernel
theorem dX9_guards_27 : decode cX9_guards 27 = .ok (.aload_n 0, 1) := by decide +kernel
theorem dX9_guards_28 : decode cX9_guards 28 = .ok (.getfield 55, 3) := by decide +kernel
theorem dX9_guards_31 : decode cX9_guards 31 = .ok (.iload_n 1, 1) := by decide +kernel
theorem dX9_guards_32 : decode cX9_guards 32 = .ok (.iload_n 2, 1) := by decide +kernel
theorem dX9_guards_33 : decode cX9_guards 33 = .ok (.invokevirtual 263, 3) := by decide +kernel
theorem dX9_guards_36 : decode cX9_guards 36 = .ok (.ifCond .eq 7, 3) := by decide +kernel
theorem dX9_guards_39 : decode cX9_guards 39 = .ok (.iconst 1, 1) := by decide +kernel
theorem dX9_guards_40 : decode cX9_guards 40 = .ok (.goto 4, 3) := by decide +kernel
theorem dX9_guards_43 : decode cX9_guards 43 = .ok (.iconst 0, 1) := by decide +kernel
theorem dX9_guards_44 : decode cX9_guards 44 = .ok (.ireturn, 1) := by decide +kernel
theorem dX9_ahead_0 : decode cX9_ahead 0 = .ok (.aload_n 0, 1) := by decide +kernel
theorem dX9_ahead_1 : decode cX9_ahead 1 = .ok (.iload_n 1, 1) := by decide +kernel
theorem dX9_ahead_2 : decode cX9_ahead 2 = .ok (.iload_n 2, 1) := by decide +kernel
theorem dX9_ahead_3 : decode cX9_ahead 3 = .ok (.iload_n 3, 1) := by decide +kernel
theorem dX9_ahead_4 : decode cX9_ahead 4 = .ok (.iload 4, 2) := by decide +kernel
theorem dX9_ahead_6 : decode cX9_ahead 6 = .ok (.invokevirtual 266, 3) := by decide +kernel
theorem dX9_ahead_9 : decode cX9_ahead 9 = .ok (.ifCond .ne 7, 3) := by decide +kernel
theorem dX9_ahead_12 : decode cX9_ahead 12 = .ok (.ldc2_w 254, 3) := by decide +kernel
theorem dX9_ahead_15 : decode cX9_ahead 15 = .ok (.lreturn, 1) := by decide +kernel
theorem dX9_ahead_16 : decode cX9_ahead 16 = .ok (.aload_n 0, 1) := by decide +kernel
theorem dX9_ahead_17 : decode cX9_ahead 17 = .ok (.getfield 55, 3) := by decide +kernel
theorem dX9_ahead_20 : decode cX9_ahead 20 = .ok (.iload_n 1, 1) := by decide +kernel
theorem dX9_ahead_21 : decode cX9_ahead 21 = .ok (.iconst 1, 1) := by decide +kernel
theorem dX9_ahead_22 : decode cX9_ahead 22 = .ok (.isub, 1) := by decide +kernel
theorem dX9_ahead_23 : decode cX9_ahead 23 = .ok (.invokevirtual 260, 3) := by decide +kernel
theorem dX9_ahead_26 : decode cX9_ahead 26 = .ok (.aload_n 0, 1) := by decide +kernel
theorem dX9_ahead_27 : decode cX9_ahead 27 = .ok (.getfield 55, 3) := by decide +kernel
theorem dX9_ahead_30 : decode cX9_ahead 30 = .ok (.iload_n 1, 1) := by decide +kernel
theorem dX9_ahead_31 : decode cX9_ahead 31 = .ok (.iload_n 2, 1) := by decide +kernel
theorem dX9_ahead_32 : decode cX9_ahead 32 = .ok (.iload_n 3, 1) := by decide +kernel
theorem dX9_ahead_33 : decode cX9_ahead 33 = .ok (.iload 4, 2) := by decide +kernel
theorem dX9_ahead_35 : decode cX9_ahead 35 = .ok (.iload 5, 2) := by decide +kernel
theorem dX9_ahead_37 : decode cX9_ahead 37 = .ok (.invokevirtual 270, 3) := by decide +kernel
theorem dX9_ahead_40 : decode cX9_ahead 40 = .ok (.aload_n 0, 1) := by decide +kernel
theorem dX9_ahead_41 : decode cX9_ahead 41 = .ok (.getfield 55, 3) := by decide +kernel
theorem dX9_ahead_44 : decode cX9_ahead 44 = .ok (.iload_n 3, 1) := by decide +kernel
theorem dX9_ahead_45 : decode cX9_ahead 45 = .ok (.iload 4, 2) := by decide +kernel
theorem dX9_ahead_47 : decode cX9_ahead 47 = .ok (.iload 5, 2) := by decide +kernel
theorem dX9_ahead_49 : decode cX9_ahead 49 = .ok (.invokevirtual 274, 3) := by decide +kernel
theorem dX9_ahead_52 : decode cX9_ahead 52 = .ok (.lreturn, 1) := by decide +kernel
theorem dX9_least_0 : decode cX9_least 0 = .ok (.aload_n 0, 1) := by decide +kernel
theorem dX9_least_1 : decode cX9_least 1 = .ok (.iload_n 1, 1) := by decide +kernel
theorem dX9_least_2 : decode cX9_least 2 = .ok (.iload_n 2, 1) := by decide +kernel
theorem dX9_least_3 : decode cX9_least 3 = .ok (.iload_n 3, 1) := by decide +kernel
theorem dX9_least_4 : decode cX9_least 4 = .ok (.iload 4, 2) := by decide +kernel
theorem dX9_least_6 : decode cX9_least 6 = .ok (.invokevirtual 266, 3) := by decide +kernel
theorem dX9_least_9 : decode cX9_least 9 = .ok (.ifCond .eq 14, 3) := by decide +kernel
theorem dX9_least_12 : decode cX9_least 12 = .ok (.iload_n 3, 1) := by decide +kernel
theorem dX9_least_13 : decode cX9_least 13 = .ok (.aload_n 0, 1) := by decide +kernel
theorem dX9_least_14 : decode cX9_least 14 = .ok (.getfield 26, 3) := by decide +kernel
theorem dX9_least_17 : decode cX9_least 17 = .ok (.invokevirtual 278, 3) := by decide +kernel
theorem dX9_least_20 : decode cX9_least 20 = .ok (.if_icmp .ne 5, 3) := by decide +kernel
theorem dX9_least_23 : decode cX9_least 23 = .ok (.iconst (-1), 1) := by decide +kernel
theorem dX9_least_24 : decode cX9_least 24 = .ok (.ireturn, 1) := by decide +kernel
theorem dX9_least_25 : decode cX9_least 25 = .ok (.aload_n 0, 1) := by decide +kernel
theorem dX9_least_26 : decode cX9_least 26 = .ok (.getfield 55, 3) := by decide +kernel
theorem dX9_least_29 : decode cX9_least 29 = .ok (.iload_n 1, 1) := by decide +kernel
theorem dX9_least_30 : decode cX9_least 30 = .ok (.iconst 1, 1) := by decide +kernel
theorem dX9_least_31 : decode cX9_least 31 = .ok (.isub, 1) := by decide +kernel
theorem dX9_least_32 : decode cX9_least 32 = .ok (.invokevirtual 260, 3) := by decide +kernel
theorem dX9_least_35 : decode cX9_least 35 = .ok (.aload_n 0, 1) := by decide +kernel
theorem dX9_least_36 : decode cX9_least 36 = .ok (.getfield 55, 3) := by decide +kernel
theorem dX9_least_39 : decode cX9_least 39 = .ok (.iload_n 1, 1) := by decide +kernel
theorem dX9_least_40 : decode cX9_least 40 = .ok (.iload_n 2, 1) := by decide +kernel
theorem dX9_least_41 : decode cX9_least 41 = .ok (.iload_n 3, 1) := by decide +kernel
theorem dX9_least_42 : decode cX9_least 42 = .ok (.iload 4, 2) := by decide +kernel
theorem dX9_least_44 : decode cX9_least 44 = .ok (.iload 5, 2) := by decide +kernel
theorem dX9_least_46 : decode cX9_least 46 = .ok (.invokevirtual 270, 3) := by decide +kernel
theorem dX9_least_49 : decode cX9_least 49 = .ok (.aload_n 0, 1) := by decide +kernel
theorem dX9_least_50 : decode cX9_least 50 = .ok (.getfield 55, 3) := by decide +kernel
theorem dX9_least_53 : decode cX9_least 53 = .ok (.iload_n 3, 1) := by decide +kernel
theorem dX9_least_54 : decode cX9_least 54 = .ok (.iload 4, 2) := by decide +kernel
theorem dX9_least_56 : decode cX9_least 56 = .ok (.iload 5, 2) := by decide +kernel
theorem dX9_least_58 : decode cX9_least 58 = .ok (.invokevirtual 281, 3) := by decide +kernel
theorem dX9_least_61 : decode cX9_least 61 = .ok (.ireturn, 1) := by decide +kernel
theorem dX9_tells_0 : decode cX9_tells 0 = .ok (.aload_n 0, 1) := by decide +kernel
theorem dX9_tells_1 : decode cX9_tells 1 = .ok (.iload_n 1, 1) := by decide +kernel
theorem dX9_tells_2 : decode cX9_tells 2 = .ok (.iload_n 2, 1) := by decide +kernel
theorem dX9_tells_3 : decode cX9_tells 3 = .ok (.iload_n 3, 1) := by decide +kernel
theorem dX9_tells_4 : decode cX9_tells 4 = .ok (.iload 4, 2) := by decide +kernel
theorem dX9_tells_6 : decode cX9_tells 6 = .ok (.invokevirtual 266, 3) := by decide +kernel
theorem dX9_tells_9 : decode cX9_tells 9 = .ok (.ifCond .eq 14, 3) := by decide +kernel
theorem dX9_tells_12 : decode cX9_tells 12 = .ok (.iload_n 3, 1) := by decide +kernel
theorem dX9_tells_13 : decode cX9_tells 13 = .ok (.aload_n 0, 1) := by decide +kernel
theorem dX9_tells_14 : decode cX9_tells 14 = .ok (.getfield 26, 3) := by decide +kernel
theorem dX9_tells_17 : decode cX9_tells 17 = .ok (.invokevirtual 278, 3) := by decide +kernel
theorem dX9_tells_20 : decode cX9_tells 20 = .ok (.if_icmp .ne 5, 3) := by decide +kernel
theorem dX9_tells_23 : decode cX9_tells 23 = .ok (.iconst (-1), 1) := by decide +kernel
theorem dX9_tells_24 : decode cX9_tells 24 = .ok (.ireturn, 1) := by decide +kernel
theorem dX9_tells_25 : decode cX9_tells 25 = .ok (.aload_n 0, 1) := by decide +kernel
theorem dX9_tells_26 : decode cX9_tells 26 = .ok (.getfield 55, 3) := by decide +kernel
theorem dX9_tells_29 : decode cX9_tells 29 = .ok (.iload_n 1, 1) := by decide +kernel
theorem dX9_tells_30 : decode cX9_tells 30 = .ok (.iconst 1, 1) := by decide +kernel
theorem dX9_tells_31 : decode cX9_tells 31 = .ok (.isub, 1) := by decide +kernel
theorem dX9_tells_32 : decode cX9_tells 32 = .ok (.invokevirtual 260, 3) := by decide +kernel
theorem dX9_tells_35 : decode cX9_tells 35 = .ok (.aload_n 0, 1) := by decide +kernel
theorem dX9_tells_36 : decode cX9_tells 36 = .ok (.getfield 55, 3) := by decide +kernel
theorem dX9_tells_39 : decode cX9_tells 39 = .ok (.iload_n 1, 1) := by decide +kernel
theorem dX9_tells_40 : decode cX9_tells 40 = .ok (.iload_n 2, 1) := by decide +kernel
theorem dX9_tells_41 : decode cX9_tells 41 = .ok (.iload_n 3, 1) := by decide +kernel
theorem dX9_tells_42 : decode cX9_tells 42 = .ok (.iload 4, 2) := by decide +kernel
theorem dX9_tells_44 : decode cX9_tells 44 = .ok (.iload 5, 2) := by decide +kernel
theorem dX9_tells_46 : decode cX9_tells 46 = .ok (.invokevirtual 270, 3) := by decide +kernel
theorem dX9_tells_49 : decode cX9_tells 49 = .ok (.iconst 0, 1) := by decide +kernel
theorem dX9_tells_50 : decode cX9_tells 50 = .ok (.istore 6, 2) := by decide +kernel
theorem dX9_tells_52 : decode cX9_tells 52 = .ok (.iconst 0, 1) := by decide +kernel
theorem dX9_tells_53 : decode cX9_tells 53 = .ok (.istore 7, 2) := by decide +kernel
theorem dX9_tells_55 : decode cX9_tells 55 = .ok (.iload 7, 2) := by decide +kernel
theorem dX9_tells_57 : decode cX9_tells 57 = .ok (.aload_n 0, 1) := by decide +kernel
theorem dX9_tells_58 : decode cX9_tells 58 = .ok (.getfield 26, 3) := by decide +kernel
theorem dX9_tells_61 : decode cX9_tells 61 = .ok (.getfield 177, 3) := by decide +kernel
theorem dX9_tells_64 : decode cX9_tells 64 = .ok (.if_icmp .ge 37, 3) := by decide +kernel
theorem dX9_tells_67 : decode cX9_tells 67 = .ok (.aload_n 0, 1) := by decide +kernel
theorem dX9_tells_68 : decode cX9_tells 68 = .ok (.getfield 55, 3) := by decide +kernel
theorem dX9_tells_71 : decode cX9_tells 71 = .ok (.iload_n 3, 1) := by decide +kernel
theorem dX9_tells_72 : decode cX9_tells 72 = .ok (.iload 4, 2) := by decide +kernel
theorem dX9_tells_74 : decode cX9_tells 74 = .ok (.iload 5, 2) := by decide +kernel
theorem dX9_tells_76 : decode cX9_tells 76 = .ok (.iload 7, 2) := by decide +kernel
theorem dX9_tells_78 : decode cX9_tells 78 = .ok (.invokevirtual 285, 3) := by decide +kernel
theorem dX9_tells_81 : decode cX9_tells 81 = .ok (.lconst 0, 1) := by decide +kernel
theorem dX9_tells_82 : decode cX9_tells 82 = .ok (.lcmp, 1) := by decide +kernel
theorem dX9_tells_83 : decode cX9_tells 83 = .ok (.ifCond .le 12, 3) := by decide +kernel
theorem dX9_tells_86 : decode cX9_tells 86 = .ok (.iload 6, 2) := by decide +kernel
theorem dX9_tells_88 : decode cX9_tells 88 = .ok (.iconst 1, 1) := by decide +kernel
theorem dX9_tells_89 : decode cX9_tells 89 = .ok (.iload 7, 2) := by decide +kernel
theorem dX9_tells_91 : decode cX9_tells 91 = .ok (.ishl, 1) := by decide +kernel
theorem dX9_tells_92 : decode cX9_tells 92 = .ok (.ior, 1) := by decide +kernel
theorem dX9_tells_93 : decode cX9_tells 93 = .ok (.istore 6, 2) := by decide +kernel
theorem dX9_tells_95 : decode cX9_tells 95 = .ok (.iinc 7 1, 3) := by decide +kernel
theorem dX9_tells_98 : decode cX9_tells 98 = .ok (.goto (-43), 3) := by decide +kernel
theorem dX9_tells_101 : decode cX9_tells 101 = .ok (.iload 6, 2) := by decide +kernel
theorem dX9_tells_103 : decode cX9_tells 103 = .ok (.ireturn, 1) := by decide +kernel
theorem dX9_gain_0 : decode cX9_gain 0 = .ok (.aload_n 0, 1) := by decide +kernel
theorem dX9_gain_1 : decode cX9_gain 1 = .ok (.iload_n 1, 1) := by decide +kernel
theorem dX9_gain_2 : decode cX9_gain 2 = .ok (.iload_n 2, 1) := by decide +kernel
theorem dX9_gain_3 : decode cX9_gain 3 = .ok (.iload_n 3, 1) := by decide +kernel
theorem dX9_gain_4 : decode cX9_gain 4 = .ok (.iload 4, 2) := by decide +kernel
theorem dX9_gain_6 : decode cX9_gain 6 = .ok (.invokevirtual 266, 3) := by decide +kernel
theorem dX9_gain_9 : decode cX9_gain 9 = .ok (.ifCond .eq 26, 3) := by decide +kernel
theorem dX9_gain_12 : decode cX9_gain 12 = .ok (.iload_n 3, 1) := by decide +kernel
theorem dX9_gain_13 : decode cX9_gain 13 = .ok (.aload_n 0, 1) := by decide +kernel
theorem dX9_gain_14 : decode cX9_gain 14 = .ok (.getfield 26, 3) := by decide +kernel
theorem dX9_gain_17 : decode cX9_gain 17 = .ok (.invokevirtual 278, 3) := by decide +kernel
theorem dX9_gain_20 : decode cX9_gain 20 = .ok (.if_icmp .eq 15, 3) := by decide +kernel
theorem dX9_gain_23 : decode cX9_gain 23 = .ok (.aload_n 0, 1) := by decide +kernel
theorem dX9_gain_24 : decode cX9_gain 24 = .ok (.getfield 26, 3) := by decide +kernel
theorem dX9_gain_27 : decode cX9_gain 27 = .ok (.iload 6, 2) := by decide +kernel
theorem dX9_gain_29 : decode cX9_gain 29 = .ok (.invokevirtual 133, 3) := by decide +kernel
theorem dX9_gain_32 : decode cX9_gain 32 = .ok (.ifCond .ne 7, 3) := by decide +kernel
theorem dX9_gain_35 : decode cX9_gain 35 = .ok (.ldc2_w 289, 3) := by decide +kernel
theorem dX9_gain_38 : decode cX9_gain 38 = .ok (.lreturn, 1) := by decide +kernel
theorem dX9_gain_39 : decode cX9_gain 39 = .ok (.aload_n 0, 1) := by decide +kernel
theorem dX9_gain_40 : decode cX9_gain 40 = .ok (.getfield 55, 3) := by decide +kernel
theorem dX9_gain_43 : decode cX9_gain 43 = .ok (.iload_n 1, 1) := by decide +kernel
theorem dX9_gain_44 : decode cX9_gain 44 = .ok (.iconst 1, 1) := by decide +kernel
theorem dX9_gain_45 : decode cX9_gain 45 = .ok (.isub, 1) := by decide +kernel
theorem dX9_gain_46 : decode cX9_gain 46 = .ok (.invokevirtual 260, 3) := by decide +kernel
theorem dX9_gain_49 : decode cX9_gain 49 = .ok (.aload_n 0, 1) := by decide +kernel
theorem dX9_gain_50 : decode cX9_gain 50 = .ok (.getfield 55, 3) := by decide +kernel
theorem dX9_gain_53 : decode cX9_gain 53 = .ok (.iload_n 1, 1) := by decide +kernel
theorem dX9_gain_54 : decode cX9_gain 54 = .ok (.iload_n 2, 1) := by decide +kernel
theorem dX9_gain_55 : decode cX9_gain 55 = .ok (.iload_n 3, 1) := by decide +kernel
theorem dX9_gain_56 : decode cX9_gain 56 = .ok (.iload 4, 2) := by decide +kernel
theorem dX9_gain_58 : decode cX9_gain 58 = .ok (.iload 5, 2) := by decide +kernel
theorem dX9_gain_60 : decode cX9_gain 60 = .ok (.invokevirtual 270, 3) := by decide +kernel
theorem dX9_gain_63 : decode cX9_gain 63 = .ok (.aload_n 0, 1) := by decide +kernel
theorem dX9_gain_64 : decode cX9_gain 64 = .ok (.getfield 55, 3) := by decide +kernel
theorem dX9_gain_67 : decode cX9_gain 67 = .ok (.iload_n 3, 1) := by decide +kernel
theorem dX9_gain_68 : decode cX9_gain 68 = .ok (.iload 4, 2) := by decide +kernel
theorem dX9_gain_70 : decode cX9_gain 70 = .ok (.iload 5, 2) := by decide +kernel
theorem dX9_gain_72 : decode cX9_gain 72 = .ok (.iload 6, 2) := by decide +kernel
theorem dX9_gain_74 : decode cX9_gain 74 = .ok (.invokevirtual 285, 3) := by decide +kernel
theorem dX9_gain_77 : decode cX9_gain 77 = .ok (.lreturn, 1) := by decide +kernel
theorem dX9_patience_0 : decode cX9_patience 0 = .ok (.aload_n 0, 1) := by decide +kernel
theorem dX9_patience_1 : decode cX9_patience 1 = .ok (.getfield 26, 3) := by decide +kernel
theorem dX9_patience_4 : decode cX9_patience 4 = .ok (.iload_n 1, 1) := by decide +kernel
theorem dX9_patience_5 : decode cX9_patience 5 = .ok (.invokevirtual 114, 3) := by decide +kernel
theorem dX9_patience_8 : decode cX9_patience 8 = .ok (.ifCond .eq 14, 3) := by decide +kernel
theorem dX9_patience_11 : decode cX9_patience 11 = .ok (.aload_n 0, 1) := by decide +kernel
theorem dX9_patience_12 : decode cX9_patience 12 = .ok (.getfield 26, 3) := by decide +kernel
theorem dX9_patience_15 : decode cX9_patience 15 = .ok (.iload_n 2, 1) := by decide +kernel
theorem dX9_patience_16 : decode cX9_patience 16 = .ok (.invokevirtual 133, 3) := by decide +kernel
theorem dX9_patience_19 : decode cX9_patience 19 = .ok (.ifCond .ne 5, 3) := by decide +kernel
theorem dX9_patience_22 : decode cX9_patience 22 = .ok (.iconst (-1), 1) := by decide +kernel
theorem dX9_patience_23 : decode cX9_patience 23 = .ok (.ireturn, 1) := by decide +kernel
theorem dX9_patience_24 : decode cX9_patience 24 = .ok (.iconst 1, 1) := by decide +kernel
theorem dX9_patience_25 : decode cX9_patience 25 = .ok (.istore_n 3, 1) := by decide +kernel
theorem dX9_patience_26 : decode cX9_patience 26 = .ok (.iload_n 3, 1) := by decide +kernel
theorem dX9_patience_27 : decode cX9_patience 27 = .ok (.bipush 20, 2) := by decide +kernel
theorem dX9_patience_29 : decode cX9_patience 29 = .ok (.if_icmp .gt 49, 3) := by decide +kernel
theorem dX9_patience_32 : decode cX9_patience 32 = .ok (.aload_n 0, 1) := by decide +kernel
theorem dX9_patience_33 : decode cX9_patience 33 = .ok (.getfield 55, 3) := by decide +kernel
theorem dX9_patience_36 : decode cX9_patience 36 = .ok (.iload_n 3, 1) := by decide +kernel
theorem dX9_patience_37 : decode cX9_patience 37 = .ok (.iconst 1, 1) := by decide +kernel
theorem dX9_patience_38 : decode cX9_patience 38 = .ok (.isub, 1) := by decide +kernel
theorem dX9_patience_39 : decode cX9_patience 39 = .ok (.invokevirtual 260, 3) := by decide +kernel
theorem dX9_patience_42 : decode cX9_patience 42 = .ok (.aload_n 0, 1) := by decide +kernel
theorem dX9_patience_43 : decode cX9_patience 43 = .ok (.getfield 55, 3) := by decide +kernel
theorem dX9_patience_46 : decode cX9_patience 46 = .ok (.iload_n 3, 1) := by decide +kernel
theorem dX9_patience_47 : decode cX9_patience 47 = .ok (.iload_n 1, 1) := by decide +kernel
theorem dX9_patience_48 : decode cX9_patience 48 = .ok (.iconst 0, 1) := by decide +kernel
theorem dX9_patience_49 : decode cX9_patience 49 = .ok (.iconst 0, 1) := by decide +kernel
theorem dX9_patience_50 : decode cX9_patience 50 = .ok (.iconst 0, 1) := by decide +kernel
theorem dX9_patience_51 : decode cX9_patience 51 = .ok (.invokevirtual 270, 3) := by decide +kernel
theorem dX9_patience_54 : decode cX9_patience 54 = .ok (.aload_n 0, 1) := by decide +kernel
theorem dX9_patience_55 : decode cX9_patience 55 = .ok (.getfield 55, 3) := by decide +kernel
theorem dX9_patience_58 : decode cX9_patience 58 = .ok (.iconst 0, 1) := by decide +kernel
theorem dX9_patience_59 : decode cX9_patience 59 = .ok (.iconst 0, 1) := by decide +kernel
theorem dX9_patience_60 : decode cX9_patience 60 = .ok (.iconst 0, 1) := by decide +kernel
theorem dX9_patience_61 : decode cX9_patience 61 = .ok (.iload_n 2, 1) := by decide +kernel
theorem dX9_patience_62 : decode cX9_patience 62 = .ok (.invokevirtual 285, 3) := by decide +kernel
theorem dX9_patience_65 : decode cX9_patience 65 = .ok (.lconst 0, 1) := by decide +kernel
theorem dX9_patience_66 : decode cX9_patience 66 = .ok (.lcmp, 1) := by decide +kernel
theorem dX9_patience_67 : decode cX9_patience 67 = .ok (.ifCond .gt 5, 3) := by decide +kernel
theorem dX9_patience_70 : decode cX9_patience 70 = .ok (.iload_n 3, 1) := by decide +kernel
theorem dX9_patience_71 : decode cX9_patience 71 = .ok (.ireturn, 1) := by decide +kernel
theorem dX9_patience_72 : decode cX9_patience 72 = .ok (.iinc 3 1, 3) := by decide +kernel
theorem dX9_patience_75 : decode cX9_patience 75 = .ok (.goto (-49), 3) := by decide +kernel
theorem dX9_patience_78 : decode cX9_patience 78 = .ok (.bipush (-2), 2) := by decide +kernel
theorem dX9_patience_80 : decode cX9_patience 80 = .ok (.ireturn, 1) := by decide +kernel
theorem dX9_worst_0 : decode cX9_worst 0 = .ok (.aload_n 0, 1) := by decide +kernel
theorem dX9_worst_1 : decode cX9_worst 1 = .ok (.iload_n 1, 1) := by decide +kernel
theorem dX9_worst_2 : decode cX9_worst 2 = .ok (.iload_n 2, 1) := by decide +kernel
theorem dX9_worst_3 : decode cX9_worst 3 = .ok (.invokevirtual 251, 3) := by decide +kernel
theorem dX9_worst_6 : decode cX9_worst 6 = .ok (.ifCond .ne 7, 3) := by decide +kernel
theorem dX9_worst_9 : decode cX9_worst 9 = .ok (.ldc2_w 254, 3) := by decide +kernel
theorem dX9_worst_12 : decode cX9_worst 12 = .ok (.lreturn, 1) := by decide +kernel
theorem dX9_worst_13 : decode cX9_worst 13 = .ok (.aload_n 0, 1) := by decide +kernel
theorem dX9_worst_14 : decode cX9_worst 14 = .ok (.getfield 59, 3) := by decide +kernel
theorem dX9_worst_17 : decode cX9_worst 17 = .ok (.aload_n 0, 1) := by decide +kernel
theorem dX9_worst_18 : decode cX9_worst 18 = .ok (.getfield 26, 3) := by decide +kernel
theorem dX9_worst_21 : decode cX9_worst 21 = .ok (.iconst 0, 1) := by decide +kernel
theorem dX9_worst_22 : decode cX9_worst 22 = .ok (.invokevirtual 107, 3) := by decide +kernel
theorem dX9_worst_25 : decode cX9_worst 25 = .ok (.aload_n 0, 1) := by decide +kernel
theorem dX9_worst_26 : decode cX9_worst 26 = .ok (.getfield 59, 3) := by decide +kernel
theorem dX9_worst_29 : decode cX9_worst 29 = .ok (.iconst 1, 1) := by decide +kernel
theorem dX9_worst_30 : decode cX9_worst 30 = .ok (.putfield 291, 3) := by decide +kernel
theorem dX9_worst_33 : decode cX9_worst 33 = .ok (.aload_n 0, 1) := by decide +kernel
theorem dX9_worst_34 : decode cX9_worst 34 = .ok (.getfield 59, 3) := by decide +kernel
theorem dX9_worst_37 : decode cX9_worst 37 = .ok (.iload_n 1, 1) := by decide +kernel
theorem dX9_worst_38 : decode cX9_worst 38 = .ok (.iload_n 2, 1) := by decide +kernel
theorem dX9_worst_39 : decode cX9_worst 39 = .ok (.invokevirtual 256, 3) := by decide +kernel
theorem dX9_worst_42 : decode cX9_worst 42 = .ok (.lreturn, 1) := by decide +kernel
theorem dX9_bare_0 : decode cX9_bare 0 = .ok (.aload_n 0, 1) := by decide +kernel
theorem dX9_bare_1 : decode cX9_bare 1 = .ok (.iload_n 1, 1) := by decide +kernel
theorem dX9_bare_2 : decode cX9_bare 2 = .ok (.iload_n 2, 1) := by decide +kernel
theorem dX9_bare_3 : decode cX9_bare 3 = .ok (.invokevirtual 251, 3) := by decide +kernel
theorem dX9_bare_6 : decode cX9_bare 6 = .ok (.ifCond .ne 7, 3) := by decide +kernel
theorem dX9_bare_9 : decode cX9_bare 9 = .ok (.ldc2_w 254, 3) := by decide +kernel
theorem dX9_bare_12 : decode cX9_bare 12 = .ok (.lreturn, 1) := by decide +kernel
theorem dX9_bare_13 : decode cX9_bare 13 = .ok (.aload_n 0, 1) := by decide +kernel
theorem dX9_bare_14 : decode cX9_bare 14 = .ok (.iload_n 1, 1) := by decide +kernel
theorem dX9_bare_15 : decode cX9_bare 15 = .ok (.iload_n 2, 1) := by decide +kernel
theorem dX9_bare_16 : decode cX9_bare 16 = .ok (.invokevirtual 294, 3) := by decide +kernel
theorem dX9_bare_19 : decode cX9_bare 19 = .ok (.lreturn, 1) := by decide +kernel
theorem dX9_by_0 : decode cX9_by 0 = .ok (.aload_n 0, 1) := by decide +kernel
theorem dX9_by_1 : decode cX9_by 1 = .ok (.iload_n 3, 1) := by decide +kernel
theorem dX9_by_2 : decode cX9_by 2 = .ok (.iload 4, 2) := by decide +kernel
theorem dX9_by_4 : decode cX9_by 4 = .ok (.invokevirtual 251, 3) := by decide +kernel
theorem dX9_by_7 : decode cX9_by 7 = .ok (.ifCond .eq 11, 3) := by decide +kernel
theorem dX9_by_10 : decode cX9_by 10 = .ok (.iload_n 1, 1) := by decide +kernel
theorem dX9_by_11 : decode cX9_by 11 = .ok (.iload_n 2, 1) := by decide +kernel
theorem dX9_by_12 : decode cX9_by 12 = .ok (.invokestatic 297, 3) := by decide +kernel
theorem dX9_by_15 : decode cX9_by 15 = .ok (.ifCond .ne 7, 3) := by decide +kernel
theorem dX9_by_18 : decode cX9_by 18 = .ok (.ldc2_w 254, 3) := by decide +kernel
theorem dX9_by_21 : decode cX9_by 21 = .ok (.lreturn, 1) := by decide +kernel
theorem dX9_by_22 : decode cX9_by 22 = .ok (.aload_n 0, 1) := by decide +kernel
theorem dX9_by_23 : decode cX9_by 23 = .ok (.iload_n 1, 1) := by decide +kernel
theorem dX9_by_24 : decode cX9_by 24 = .ok (.iload_n 2, 1) := by decide +kernel
theorem dX9_by_25 : decode cX9_by 25 = .ok (.iload_n 3, 1) := by decide +kernel
theorem dX9_by_26 : decode cX9_by 26 = .ok (.iload 4, 2) := by decide +kernel
theorem dX9_by_28 : decode cX9_by 28 = .ok (.invokevirtual 300, 3) := by decide +kernel
theorem dX9_by_31 : decode cX9_by 31 = .ok (.lreturn, 1) := by decide +kernel
theorem dX9_bestLimit_0 : decode cX9_bestLimit 0 = .ok (.aload_n 0, 1) := by decide +kernel
theorem dX9_bestLimit_1 : decode cX9_bestLimit 1 = .ok (.iload_n 1, 1) := by decide +kernel
theorem dX9_bestLimit_2 : decode cX9_bestLimit 2 = .ok (.iload_n 2, 1) := by decide +kernel
theorem dX9_bestLimit_3 : decode cX9_bestLimit 3 = .ok (.invokevirtual 251, 3) := by decide +kernel
theorem dX9_bestLimit_6 : decode cX9_bestLimit 6 = .ok (.ifCond .ne 5, 3) := by decide +kernel
theorem dX9_bestLimit_9 : decode cX9_bestLimit 9 = .ok (.iconst (-1), 1) := by decide +kernel
theorem dX9_bestLimit_10 : decode cX9_bestLimit 10 = .ok (.ireturn, 1) := by decide +kernel
theorem dX9_bestLimit_11 : decode cX9_bestLimit 11 = .ok (.iconst 0, 1) := by decide +kernel
theorem dX9_bestLimit_12 : decode cX9_bestLimit 12 = .ok (.istore_n 3, 1) := by decide +kernel
theorem dX9_bestLimit_13 : decode cX9_bestLimit 13 = .ok (.aload_n 0, 1) := by decide +kernel
theorem dX9_bestLimit_14 : decode cX9_bestLimit 14 = .ok (.iconst 3, 1) := by decide +kernel
theorem dX9_bestLimit_15 : decode cX9_bestLimit 15 = .ok (.iconst 0, 1) := by decide +kernel
theorem dX9_bestLimit_16 : decode cX9_bestLimit 16 = .ok (.iload_n 1, 1) := by decide +kernel
theorem dX9_bestLimit_17 : decode cX9_bestLimit 17 = .ok (.iload_n 2, 1) := by decide +kernel
theorem dX9_bestLimit_18 : decode cX9_bestLimit 18 = .ok (.invokevirtual 300, 3) := by decide +kernel
theorem dX9_bestLimit_21 : decode cX9_bestLimit 21 = .ok (.lstore 4, 2) := by decide +kernel
theorem dX9_bestLimit_23 : decode cX9_bestLimit 23 = .ok (.iconst 0, 1) := by decide +kernel
theorem dX9_bestLimit_24 : decode cX9_bestLimit 24 = .ok (.istore 6, 2) := by decide +kernel
theorem dX9_bestLimit_26 : decode cX9_bestLimit 26 = .ok (.iload 6, 2) := by decide +kernel
theorem dX9_bestLimit_28 : decode cX9_bestLimit 28 = .ok (.aload_n 0, 1) := by decide +kernel
theorem dX9_bestLimit_29 : decode cX9_bestLimit 29 = .ok (.getfield 26, 3) := by decide +kernel
theorem dX9_bestLimit_32 : decode cX9_bestLimit 32 = .ok (.getfield 177, 3) := by decide +kernel
theorem dX9_bestLimit_35 : decode cX9_bestLimit 35 = .ok (.if_icmp .ge 61, 3) := by decide +kernel
theorem dX9_bestLimit_38 : decode cX9_bestLimit 38 = .ok (.aload_n 0, 1) := by decide +kernel
theorem dX9_bestLimit_39 : decode cX9_bestLimit 39 = .ok (.getfield 26, 3) := by decide +kernel
theorem dX9_bestLimit_42 : decode cX9_bestLimit 42 = .ok (.iload 6, 2) := by decide +kernel
theorem dX9_bestLimit_44 : decode cX9_bestLimit 44 = .ok (.iconst 0, 1) := by decide +kernel
theorem dX9_bestLimit_45 : decode cX9_bestLimit 45 = .ok (.invokevirtual 140, 3) := by decide +kernel
theorem dX9_bestLimit_48 : decode cX9_bestLimit 48 = .ok (.istore 7, 2) := by decide +kernel
theorem dX9_bestLimit_50 : decode cX9_bestLimit 50 = .ok (.aload_n 0, 1) := by decide +kernel
theorem dX9_bestLimit_51 : decode cX9_bestLimit 51 = .ok (.iconst 3, 1) := by decide +kernel
theorem dX9_bestLimit_52 : decode cX9_bestLimit 52 = .ok (.iload 7, 2) := by decide +kernel
theorem dX9_bestLimit_54 : decode cX9_bestLimit 54 = .ok (.iload_n 1, 1) := by decide +kernel
theorem dX9_bestLimit_55 : decode cX9_bestLimit 55 = .ok (.iload_n 2, 1) := by decide +kernel
theorem dX9_bestLimit_56 : decode cX9_bestLimit 56 = .ok (.invokevirtual 300, 3) := by decide +kernel
theorem dX9_bestLimit_59 : decode cX9_bestLimit 59 = .ok (.lstore 8, 2) := by decide +kernel
theorem dX9_bestLimit_61 : decode cX9_bestLimit 61 = .ok (.lload 8, 2) := by decide +kernel
theorem dX9_bestLimit_63 : decode cX9_bestLimit 63 = .ok (.lload 4, 2) := by decide +kernel
theorem dX9_bestLimit_65 : decode cX9_bestLimit 65 = .ok (.lcmp, 1) := by decide +kernel
theorem dX9_bestLimit_66 : decode cX9_bestLimit 66 = .ok (.ifCond .lt 17, 3) := by decide +kernel
theorem dX9_bestLimit_69 : decode cX9_bestLimit 69 = .ok (.lload 8, 2) := by decide +kernel
theorem dX9_bestLimit_71 : decode cX9_bestLimit 71 = .ok (.lload 4, 2) := by decide +kernel
theorem dX9_bestLimit_73 : decode cX9_bestLimit 73 = .ok (.lcmp, 1) := by decide +kernel
theorem dX9_bestLimit_74 : decode cX9_bestLimit 74 = .ok (.ifCond .ne 16, 3) := by decide +kernel
theorem dX9_bestLimit_77 : decode cX9_bestLimit 77 = .ok (.iload 7, 2) := by decide +kernel
theorem dX9_bestLimit_79 : decode cX9_bestLimit 79 = .ok (.iload_n 3, 1) := by decide +kernel
theorem dX9_bestLimit_80 : decode cX9_bestLimit 80 = .ok (.if_icmp .ge 10, 3) := by decide +kernel
theorem dX9_bestLimit_83 : decode cX9_bestLimit 83 = .ok (.lload 8, 2) := by decide +kernel
theorem dX9_bestLimit_85 : decode cX9_bestLimit 85 = .ok (.lstore 4, 2) := by decide +kernel
theorem dX9_bestLimit_87 : decode cX9_bestLimit 87 = .ok (.iload 7, 2) := by decide +kernel
theorem dX9_bestLimit_89 : decode cX9_bestLimit 89 = .ok (.istore_n 3, 1) := by decide +kernel
theorem dX9_bestLimit_90 : decode cX9_bestLimit 90 = .ok (.iinc 6 1, 3) := by decide +kernel
theorem dX9_bestLimit_93 : decode cX9_bestLimit 93 = .ok (.goto (-67), 3) := by decide +kernel
theorem dX9_bestLimit_96 : decode cX9_bestLimit 96 = .ok (.iload_n 3, 1) := by decide +kernel
theorem dX9_bestLimit_97 : decode cX9_bestLimit 97 = .ok (.ireturn, 1) := by decide +kernel
theorem dX9_worth_0 : decode cX9_worth 0 = .ok (.aload_n 0, 1) := by decide +kernel
theorem dX9_worth_1 : decode cX9_worth 1 = .ok (.iload_n 1, 1) := by decide +kernel
theorem dX9_worth_2 : decode cX9_worth 2 = .ok (.iload_n 2, 1) := by decide +kernel
theorem dX9_worth_3 : decode cX9_worth 3 = .ok (.invokevirtual 251, 3) := by decide +kernel
theorem dX9_worth_6 : decode cX9_worth 6 = .ok (.ifCond .eq 14, 3) := by decide +kernel
theorem dX9_worth_9 : decode cX9_worth 9 = .ok (.aload_n 0, 1) := by decide +kernel
theorem dX9_worth_10 : decode cX9_worth 10 = .ok (.getfield 26, 3) := by decide +kernel
theorem dX9_worth_13 : decode cX9_worth 13 = .ok (.iload_n 3, 1) := by decide +kernel
theorem dX9_worth_14 : decode cX9_worth 14 = .ok (.invokevirtual 114, 3) := by decide +kernel
theorem dX9_worth_17 : decode cX9_worth 17 = .ok (.ifCond .ne 7, 3) := by decide +kernel
theorem dX9_worth_20 : decode cX9_worth 20 = .ok (.ldc2_w 289, 3) := by decide +kernel
theorem dX9_worth_23 : decode cX9_worth 23 = .ok (.lreturn, 1) := by decide +kernel
theorem dX9_worth_24 : decode cX9_worth 24 = .ok (.aload_n 0, 1) := by decide +kernel
theorem dX9_worth_25 : decode cX9_worth 25 = .ok (.getfield 55, 3) := by decide +kernel
theorem dX9_worth_28 : decode cX9_worth 28 = .ok (.iload_n 1, 1) := by decide +kernel
theorem dX9_worth_29 : decode cX9_worth 29 = .ok (.iload_n 3, 1) := by decide +kernel
theorem dX9_worth_30 : decode cX9_worth 30 = .ok (.invokevirtual 256, 3) := by decide +kernel
theorem dX9_worth_33 : decode cX9_worth 33 = .ok (.aload_n 0, 1) := by decide +kernel
theorem dX9_worth_34 : decode cX9_worth 34 = .ok (.getfield 55, 3) := by decide +kernel
theorem dX9_worth_37 : decode cX9_worth 37 = .ok (.iload_n 1, 1) := by decide +kernel
theorem dX9_worth_38 : decode cX9_worth 38 = .ok (.iload_n 2, 1) := by decide +kernel
theorem dX9_worth_39 : decode cX9_worth 39 = .ok (.invokevirtual 256, 3) := by decide +kernel
theorem dX9_worth_42 : decode cX9_worth 42 = .ok (.lsub, 1) := by decide +kernel
theorem dX9_worth_43 : decode cX9_worth 43 = .ok (.lreturn, 1) := by decide +kernel
theorem dX9_cheapest_0 : decode cX9_cheapest 0 = .ok (.aload_n 0, 1) := by decide +kernel
theorem dX9_cheapest_1 : decode cX9_cheapest 1 = .ok (.iload_n 1, 1) := by decide +kernel
theorem dX9_cheapest_2 : decode cX9_cheapest 2 = .ok (.iconst 0, 1) := by decide +kernel
theorem dX9_cheapest_3 : decode cX9_cheapest 3 = .ok (.invokevirtual 251, 3) := by decide +kernel
theorem dX9_cheapest_6 : decode cX9_cheapest 6 = .ok (.ifCond .ne 5, 3) := by decide +kernel
theorem dX9_cheapest_9 : decode cX9_cheapest 9 = .ok (.iconst (-1), 1) := by decide +kernel
theorem dX9_cheapest_10 : decode cX9_cheapest 10 = .ok (.ireturn, 1) := by decide +kernel
theorem dX9_cheapest_11 : decode cX9_cheapest 11 = .ok (.iconst 0, 1) := by decide +kernel
theorem dX9_cheapest_12 : decode cX9_cheapest 12 = .ok (.istore_n 2, 1) := by decide +kernel
theorem dX9_cheapest_13 : decode cX9_cheapest 13 = .ok (.iconst 1, 1) := by decide +kernel
theorem dX9_cheapest_14 : decode cX9_cheapest 14 = .ok (.istore_n 3, 1) := by decide +kernel
theorem dX9_cheapest_15 : decode cX9_cheapest 15 = .ok (.iload_n 3, 1) := by decide +kernel
theorem dX9_cheapest_16 : decode cX9_cheapest 16 = .ok (.aload_n 0, 1) := by decide +kernel
theorem dX9_cheapest_17 : decode cX9_cheapest 17 = .ok (.getfield 26, 3) := by decide +kernel
theorem dX9_cheapest_20 : decode cX9_cheapest 20 = .ok (.getfield 111, 3) := by decide +kernel
theorem dX9_cheapest_23 : decode cX9_cheapest 23 = .ok (.if_icmp .ge 33, 3) := by decide +kernel
theorem dX9_cheapest_26 : decode cX9_cheapest 26 = .ok (.aload_n 0, 1) := by decide +kernel
theorem dX9_cheapest_27 : decode cX9_cheapest 27 = .ok (.getfield 55, 3) := by decide +kernel
theorem dX9_cheapest_30 : decode cX9_cheapest 30 = .ok (.iload_n 1, 1) := by decide +kernel
theorem dX9_cheapest_31 : decode cX9_cheapest 31 = .ok (.iload_n 3, 1) := by decide +kernel
theorem dX9_cheapest_32 : decode cX9_cheapest 32 = .ok (.invokevirtual 256, 3) := by decide +kernel
theorem dX9_cheapest_35 : decode cX9_cheapest 35 = .ok (.aload_n 0, 1) := by decide +kernel
theorem dX9_cheapest_36 : decode cX9_cheapest 36 = .ok (.getfield 55, 3) := by decide +kernel
theorem dX9_cheapest_39 : decode cX9_cheapest 39 = .ok (.iload_n 1, 1) := by decide +kernel
theorem dX9_cheapest_40 : decode cX9_cheapest 40 = .ok (.iload_n 2, 1) := by decide +kernel
theorem dX9_cheapest_41 : decode cX9_cheapest 41 = .ok (.invokevirtual 256, 3) := by decide +kernel
theorem dX9_cheapest_44 : decode cX9_cheapest 44 = .ok (.lcmp, 1) := by decide +kernel
theorem dX9_cheapest_45 : decode cX9_cheapest 45 = .ok (.ifCond .ge 5, 3) := by decide +kernel
theorem dX9_cheapest_48 : decode cX9_cheapest 48 = .ok (.iload_n 3, 1) := by decide +kernel
theorem dX9_cheapest_49 : decode cX9_cheapest 49 = .ok (.istore_n 2, 1) := by decide +kernel
theorem dX9_cheapest_50 : decode cX9_cheapest 50 = .ok (.iinc 3 1, 3) := by decide +kernel
theorem dX9_cheapest_53 : decode cX9_cheapest 53 = .ok (.goto (-38), 3) := by decide +kernel
theorem dX9_cheapest_56 : decode cX9_cheapest 56 = .ok (.iload_n 2, 1) := by decide +kernel
theorem dX9_cheapest_57 : decode cX9_cheapest 57 = .ok (.ireturn, 1) := by decide +kernel
theorem dX9_reach_0 : decode cX9_reach 0 = .ok (.aload_n 0, 1) := by decide +kernel
theorem dX9_reach_1 : decode cX9_reach 1 = .ok (.getfield 26, 3) := by decide +kernel
theorem dX9_reach_4 : decode cX9_reach 4 = .ok (.iload_n 1, 1) := by decide +kernel
theorem dX9_reach_5 : decode cX9_reach 5 = .ok (.invokevirtual 114, 3) := by decide +kernel
theorem dX9_reach_8 : decode cX9_reach 8 = .ok (.ifCond .ne 5, 3) := by decide +kernel
theorem dX9_reach_11 : decode cX9_reach 11 = .ok (.iconst (-1), 1) := by decide +kernel
theorem dX9_reach_12 : decode cX9_reach 12 = .ok (.ireturn, 1) := by decide +kernel
theorem dX9_reach_13 : decode cX9_reach 13 = .ok (.iconst 1, 1) := by decide +kernel
theorem dX9_reach_14 : decode cX9_reach 14 = .ok (.iload_n 1, 1) := by decide +kernel
theorem dX9_reach_15 : decode cX9_reach 15 = .ok (.ishl, 1) := by decide +kernel
theorem dX9_reach_16 : decode cX9_reach 16 = .ok (.istore_n 2, 1) := by decide +kernel
theorem dX9_reach_17 : decode cX9_reach 17 = .ok (.iconst 0, 1) := by decide +kernel
theorem dX9_reach_18 : decode cX9_reach 18 = .ok (.istore_n 3, 1) := by decide +kernel
theorem dX9_reach_19 : decode cX9_reach 19 = .ok (.iload_n 3, 1) := by decide +kernel
theorem dX9_reach_20 : decode cX9_reach 20 = .ok (.aload_n 0, 1) := by decide +kernel
theorem dX9_reach_21 : decode cX9_reach 21 = .ok (.getfield 26, 3) := by decide +kernel
theorem dX9_reach_24 : decode cX9_reach 24 = .ok (.getfield 111, 3) := by decide +kernel
theorem dX9_reach_27 : decode cX9_reach 27 = .ok (.if_icmp .ge 17, 3) := by decide +kernel
theorem dX9_reach_30 : decode cX9_reach 30 = .ok (.iload_n 2, 1) := by decide +kernel
theorem dX9_reach_31 : decode cX9_reach 31 = .ok (.aload_n 0, 1) := by decide +kernel
theorem dX9_reach_32 : decode cX9_reach 32 = .ok (.iload_n 2, 1) := by decide +kernel
theorem dX9_reach_33 : decode cX9_reach 33 = .ok (.invokevirtual 304, 3) := by decide +kernel
theorem dX9_reach_36 : decode cX9_reach 36 = .ok (.ior, 1) := by decide +kernel
theorem dX9_reach_37 : decode cX9_reach 37 = .ok (.istore_n 2, 1) := by decide +kernel
theorem dX9_reach_38 : decode cX9_reach 38 = .ok (.iinc 3 1, 3) := by decide +kernel
theorem dX9_reach_41 : decode cX9_reach 41 = .ok (.goto (-22), 3) := by decide +kernel
theorem dX9_reach_44 : decode cX9_reach 44 = .ok (.iload_n 2, 1) := by decide +kernel
theorem dX9_reach_45 : decode cX9_reach 45 = .ok (.ireturn, 1) := by decide +kernel
theorem dX9_years_0 : decode cX9_years 0 = .ok (.aload_n 0, 1) := by decide +kernel
theorem dX9_years_1 : decode cX9_years 1 = .ok (.getfield 26, 3) := by decide +kernel
theorem dX9_years_4 : decode cX9_years 4 = .ok (.iload_n 1, 1) := by decide +kernel
theorem dX9_years_5 : decode cX9_years 5 = .ok (.invokevirtual 114, 3) := by decide +kernel
theorem dX9_years_8 : decode cX9_years 8 = .ok (.ifCond .eq 14, 3) := by decide +kernel
theorem dX9_years_11 : decode cX9_years 11 = .ok (.aload_n 0, 1) := by decide +kernel
theorem dX9_years_12 : decode cX9_years 12 = .ok (.getfield 26, 3) := by decide +kernel
theorem dX9_years_15 : decode cX9_years 15 = .ok (.iload_n 2, 1) := by decide +kernel
theorem dX9_years_16 : decode cX9_years 16 = .ok (.invokevirtual 114, 3) := by decide +kernel
theorem dX9_years_19 : decode cX9_years 19 = .ok (.ifCond .ne 5, 3) := by decide +kernel
theorem dX9_years_22 : decode cX9_years 22 = .ok (.iconst (-1), 1) := by decide +kernel
theorem dX9_years_23 : decode cX9_years 23 = .ok (.ireturn, 1) := by decide +kernel
theorem dX9_years_24 : decode cX9_years 24 = .ok (.iload_n 1, 1) := by decide +kernel
theorem dX9_years_25 : decode cX9_years 25 = .ok (.istore_n 3, 1) := by decide +kernel
theorem dX9_years_26 : decode cX9_years 26 = .ok (.iconst 0, 1) := by decide +kernel
theorem dX9_years_27 : decode cX9_years 27 = .ok (.istore 4, 2) := by decide +kernel
theorem dX9_years_29 : decode cX9_years 29 = .ok (.iload 4, 2) := by decide +kernel
theorem dX9_years_31 : decode cX9_years 31 = .ok (.aload_n 0, 1) := by decide +kernel
theorem dX9_years_32 : decode cX9_years 32 = .ok (.getfield 26, 3) := by decide +kernel
theorem dX9_years_35 : decode cX9_years 35 = .ok (.getfield 111, 3) := by decide +kernel
theorem dX9_years_38 : decode cX9_years 38 = .ok (.if_icmp .ge 27, 3) := by decide +kernel
theorem dX9_years_41 : decode cX9_years 41 = .ok (.iload_n 3, 1) := by decide +kernel
theorem dX9_years_42 : decode cX9_years 42 = .ok (.iload_n 2, 1) := by decide +kernel
theorem dX9_years_43 : decode cX9_years 43 = .ok (.if_icmp .ne 6, 3) := by decide +kernel
theorem dX9_years_46 : decode cX9_years 46 = .ok (.iload 4, 2) := by decide +kernel
theorem dX9_years_48 : decode cX9_years 48 = .ok (.ireturn, 1) := by decide +kernel
theorem dX9_years_49 : decode cX9_years 49 = .ok (.aload_n 0, 1) := by decide +kernel
theorem dX9_years_50 : decode cX9_years 50 = .ok (.getfield 26, 3) := by decide +kernel
theorem dX9_years_53 : decode cX9_years 53 = .ok (.iload_n 3, 1) := by decide +kernel
theorem dX9_years_54 : decode cX9_years 54 = .ok (.iconst 0, 1) := by decide +kernel
theorem dX9_years_55 : decode cX9_years 55 = .ok (.invokevirtual 307, 3) := by decide +kernel
theorem dX9_years_58 : decode cX9_years 58 = .ok (.istore_n 3, 1) := by decide +kernel
theorem dX9_years_59 : decode cX9_years 59 = .ok (.iinc 4 1, 3) := by decide +kernel
theorem dX9_years_62 : decode cX9_years 62 = .ok (.goto (-33), 3) := by decide +kernel
theorem dX9_years_65 : decode cX9_years 65 = .ok (.bipush (-2), 2) := by decide +kernel
theorem dX9_years_67 : decode cX9_years 67 = .ok (.ireturn, 1) := by decide +kernel
theorem dX9_ways_0 : decode cX9_ways 0 = .ok (.iload_n 1, 1) := by decide +kernel
theorem dX9_ways_1 : decode cX9_ways 1 = .ok (.ifCond .lt 18, 3) := by decide +kernel
theorem dX9_ways_4 : decode cX9_ways 4 = .ok (.iload_n 1, 1) := by decide +kernel
theorem dX9_ways_5 : decode cX9_ways 5 = .ok (.iconst 3, 1) := by decide +kernel
theorem dX9_ways_6 : decode cX9_ways 6 = .ok (.if_icmp .gt 13, 3) := by decide +kernel
theorem dX9_ways_9 : decode cX9_ways 9 = .ok (.aload_n 0, 1) := by decide +kernel
theorem dX9_ways_10 : decode cX9_ways 10 = .ok (.getfield 26, 3) := by decide +kernel
theorem dX9_ways_13 : decode cX9_ways 13 = .ok (.getfield 111, 3) := by decide +kernel
theorem dX9_ways_16 : decode cX9_ways 16 = .ok (.ifCond .ne 5, 3) := by decide +kernel
theorem dX9_ways_19 : decode cX9_ways 19 = .ok (.iconst (-1), 1) := by decide +kernel
theorem dX9_ways_20 : decode cX9_ways 20 = .ok (.ireturn, 1) := by decide +kernel
theorem dX9_ways_21 : decode cX9_ways 21 = .ok (.aload_n 0, 1) := by decide +kernel
theorem dX9_ways_22 : decode cX9_ways 22 = .ok (.iload_n 1, 1) := by decide +kernel
theorem dX9_ways_23 : decode cX9_ways 23 = .ok (.invokevirtual 310, 3) := by decide +kernel
theorem dX9_ways_26 : decode cX9_ways 26 = .ok (.ireturn, 1) := by decide +kernel
theorem dX9_moves_0 : decode cX9_moves 0 = .ok (.aload_n 0, 1) := by decide +kernel
theorem dX9_moves_1 : decode cX9_moves 1 = .ok (.getfield 26, 3) := by decide +kernel
theorem dX9_moves_4 : decode cX9_moves 4 = .ok (.iload_n 1, 1) := by decide +kernel
theorem dX9_moves_5 : decode cX9_moves 5 = .ok (.invokevirtual 114, 3) := by decide +kernel
theorem dX9_moves_8 : decode cX9_moves 8 = .ok (.ifCond .eq 14, 3) := by decide +kernel
theorem dX9_moves_11 : decode cX9_moves 11 = .ok (.aload_n 0, 1) := by decide +kernel
theorem dX9_moves_12 : decode cX9_moves 12 = .ok (.getfield 26, 3) := by decide +kernel
theorem dX9_moves_15 : decode cX9_moves 15 = .ok (.iload_n 2, 1) := by decide +kernel
theorem dX9_moves_16 : decode cX9_moves 16 = .ok (.invokevirtual 114, 3) := by decide +kernel
theorem dX9_moves_19 : decode cX9_moves 19 = .ok (.ifCond .ne 5, 3) := by decide +kernel
theorem dX9_moves_22 : decode cX9_moves 22 = .ok (.iconst (-1), 1) := by decide +kernel
theorem dX9_moves_23 : decode cX9_moves 23 = .ok (.ireturn, 1) := by decide +kernel
theorem dX9_moves_24 : decode cX9_moves 24 = .ok (.iconst 0, 1) := by decide +kernel
theorem dX9_moves_25 : decode cX9_moves 25 = .ok (.istore_n 3, 1) := by decide +kernel
theorem dX9_moves_26 : decode cX9_moves 26 = .ok (.iconst 0, 1) := by decide +kernel
theorem dX9_moves_27 : decode cX9_moves 27 = .ok (.istore 4, 2) := by decide +kernel
theorem dX9_moves_29 : decode cX9_moves 29 = .ok (.iload 4, 2) := by decide +kernel
theorem dX9_moves_31 : decode cX9_moves 31 = .ok (.aload_n 0, 1) := by decide +kernel
theorem dX9_moves_32 : decode cX9_moves 32 = .ok (.getfield 26, 3) := by decide +kernel
theorem dX9_moves_35 : decode cX9_moves 35 = .ok (.invokevirtual 278, 3) := by decide +kernel
theorem dX9_moves_38 : decode cX9_moves 38 = .ok (.if_icmp .gt 32, 3) := by decide +kernel
theorem dX9_moves_41 : decode cX9_moves 41 = .ok (.aload_n 0, 1) := by decide +kernel
theorem dX9_moves_42 : decode cX9_moves 42 = .ok (.getfield 26, 3) := by decide +kernel
theorem dX9_moves_45 : decode cX9_moves 45 = .ok (.iload_n 1, 1) := by decide +kernel
theorem dX9_moves_46 : decode cX9_moves 46 = .ok (.iload 4, 2) := by decide +kernel
theorem dX9_moves_48 : decode cX9_moves 48 = .ok (.invokevirtual 307, 3) := by decide +kernel
theorem dX9_moves_51 : decode cX9_moves 51 = .ok (.iload_n 2, 1) := by decide +kernel
theorem dX9_moves_52 : decode cX9_moves 52 = .ok (.if_icmp .ne 12, 3) := by decide +kernel
theorem dX9_moves_55 : decode cX9_moves 55 = .ok (.iload_n 3, 1) := by decide +kernel
theorem dX9_moves_56 : decode cX9_moves 56 = .ok (.aload_n 0, 1) := by decide +kernel
theorem dX9_moves_57 : decode cX9_moves 57 = .ok (.iload 4, 2) := by decide +kernel
theorem dX9_moves_59 : decode cX9_moves 59 = .ok (.invokevirtual 310, 3) := by decide +kernel
theorem dX9_moves_62 : decode cX9_moves 62 = .ok (.iadd, 1) := by decide +kernel
theorem dX9_moves_63 : decode cX9_moves 63 = .ok (.istore_n 3, 1) := by decide +kernel
theorem dX9_moves_64 : decode cX9_moves 64 = .ok (.iinc 4 1, 3) := by decide +kernel
theorem dX9_moves_67 : decode cX9_moves 67 = .ok (.goto (-38), 3) := by decide +kernel
theorem dX9_moves_70 : decode cX9_moves 70 = .ok (.iload_n 3, 1) := by decide +kernel
theorem dX9_moves_71 : decode cX9_moves 71 = .ok (.ireturn, 1) := by decide +kernel
theorem dX9_spread_0 : decode cX9_spread 0 = .ok (.aload_n 0, 1) := by decide +kernel
theorem dX9_spread_1 : decode cX9_spread 1 = .ok (.getfield 26, 3) := by decide +kernel
theorem dX9_spread_4 : decode cX9_spread 4 = .ok (.iload_n 2, 1) := by decide +kernel
theorem dX9_spread_5 : decode cX9_spread 5 = .ok (.invokevirtual 114, 3) := by decide +kernel
theorem dX9_spread_8 : decode cX9_spread 8 = .ok (.ifCond .eq 14, 3) := by decide +kernel
theorem dX9_spread_11 : decode cX9_spread 11 = .ok (.aload_n 0, 1) := by decide +kernel
theorem dX9_spread_12 : decode cX9_spread 12 = .ok (.getfield 26, 3) := by decide +kernel
theorem dX9_spread_15 : decode cX9_spread 15 = .ok (.iload_n 3, 1) := by decide +kernel
theorem dX9_spread_16 : decode cX9_spread 16 = .ok (.invokevirtual 114, 3) := by decide +kernel
theorem dX9_spread_19 : decode cX9_spread 19 = .ok (.ifCond .ne 7, 3) := by decide +kernel
theorem dX9_spread_22 : decode cX9_spread 22 = .ok (.ldc2_w 254, 3) := by decide +kernel
theorem dX9_spread_25 : decode cX9_spread 25 = .ok (.lreturn, 1) := by decide +kernel
theorem dX9_spread_26 : decode cX9_spread 26 = .ok (.iload_n 1, 1) := by decide +kernel
theorem dX9_spread_27 : decode cX9_spread 27 = .ok (.ifCond .lt 23, 3) := by decide +kernel
theorem dX9_spread_30 : decode cX9_spread 30 = .ok (.iload_n 1, 1) := by decide +kernel
theorem dX9_spread_31 : decode cX9_spread 31 = .ok (.bipush 16, 2) := by decide +kernel
theorem dX9_spread_33 : decode cX9_spread 33 = .ok (.if_icmp .gt 17, 3) := by decide +kernel
theorem dX9_spread_36 : decode cX9_spread 36 = .ok (.iload_n 1, 1) := by decide +kernel
theorem dX9_spread_37 : decode cX9_spread 37 = .ok (.aload_n 0, 1) := by decide +kernel
theorem dX9_spread_38 : decode cX9_spread 38 = .ok (.getfield 26, 3) := by decide +kernel
theorem dX9_spread_41 : decode cX9_spread 41 = .ok (.invokevirtual 278, 3) := by decide +kernel
theorem dX9_spread_44 : decode cX9_spread 44 = .ok (.imul, 1) := by decide +kernel
theorem dX9_spread_45 : decode cX9_spread 45 = .ok (.bipush 16, 2) := by decide +kernel
theorem dX9_spread_47 : decode cX9_spread 47 = .ok (.if_icmp .le 7, 3) := by decide +kernel
theorem dX9_spread_50 : decode cX9_spread 50 = .ok (.ldc2_w 254, 3) := by decide +kernel
theorem dX9_spread_53 : decode cX9_spread 53 = .ok (.lreturn, 1) := by decide +kernel
theorem dX9_spread_54 : decode cX9_spread 54 = .ok (.iconst 0, 1) := by decide +kernel
theorem dX9_spread_55 : decode cX9_spread 55 = .ok (.istore 4, 2) := by decide +kernel
theorem dX9_spread_57 : decode cX9_spread 57 = .ok (.iload 4, 2) := by decide +kernel
theorem dX9_spread_59 : decode cX9_spread 59 = .ok (.bipush 8, 2) := by decide +kernel
theorem dX9_spread_61 : decode cX9_spread 61 = .ok (.if_icmp .ge 27, 3) := by decide +kernel
theorem dX9_spread_64 : decode cX9_spread 64 = .ok (.aload_n 0, 1) := by decide +kernel
theorem dX9_spread_65 : decode cX9_spread 65 = .ok (.getfield 76, 3) := by decide +kernel
theorem dX9_spread_68 : decode cX9_spread 68 = .ok (.iload 4, 2) := by decide +kernel
theorem dX9_spread_70 : decode cX9_spread 70 = .ok (.iload 4, 2) := by decide +kernel
theorem dX9_spread_72 : decode cX9_spread 72 = .ok (.iload_n 2, 1) := by decide +kernel
theorem dX9_spread_73 : decode cX9_spread 73 = .ok (.if_icmp .ne 7, 3) := by decide +kernel
theorem dX9_spread_76 : decode cX9_spread 76 = .ok (.lconst 1, 1) := by decide +kernel
theorem dX9_spread_77 : decode cX9_spread 77 = .ok (.goto 4, 3) := by decide +kernel
theorem dX9_spread_80 : decode cX9_spread 80 = .ok (.lconst 0, 1) := by decide +kernel
theorem dX9_spread_81 : decode cX9_spread 81 = .ok (.lastore, 1) := by decide +kernel
theorem dX9_spread_82 : decode cX9_spread 82 = .ok (.iinc 4 1, 3) := by decide +kernel
theorem dX9_spread_85 : decode cX9_spread 85 = .ok (.goto (-28), 3) := by decide +kernel
theorem dX9_spread_88 : decode cX9_spread 88 = .ok (.iconst 0, 1) := by decide +kernel
theorem dX9_spread_89 : decode cX9_spread 89 = .ok (.istore 4, 2) := by decide +kernel
theorem dX9_spread_91 : decode cX9_spread 91 = .ok (.iload 4, 2) := by decide +kernel
theorem dX9_spread_93 : decode cX9_spread 93 = .ok (.iload_n 1, 1) := by decide +kernel
theorem dX9_spread_94 : decode cX9_spread 94 = .ok (.if_icmp .ge 13, 3) := by decide +kernel
theorem dX9_spread_97 : decode cX9_spread 97 = .ok (.aload_n 0, 1) := by decide +kernel
theorem dX9_spread_98 : decode cX9_spread 98 = .ok (.invokevirtual 313, 3) := by decide +kernel
theorem dX9_spread_101 : decode cX9_spread 101 = .ok (.iinc 4 1, 3) := by decide +kernel
theorem dX9_spread_104 : decode cX9_spread 104 = .ok (.goto (-13), 3) := by decide +kernel
theorem dX9_spread_107 : decode cX9_spread 107 = .ok (.aload_n 0, 1) := by decide +kernel
theorem dX9_spread_108 : decode cX9_spread 108 = .ok (.getfield 76, 3) := by decide +kernel
theorem dX9_spread_111 : decode cX9_spread 111 = .ok (.iload_n 3, 1) := by decide +kernel
theorem dX9_spread_112 : decode cX9_spread 112 = .ok (.laload, 1) := by decide +kernel
theorem dX9_spread_113 : decode cX9_spread 113 = .ok (.lreturn, 1) := by decide +kernel
theorem dX9_shared_0 : decode cX9_shared 0 = .ok (.aload_n 0, 1) := by decide +kernel
theorem dX9_shared_1 : decode cX9_shared 1 = .ok (.iload_n 1, 1) := by decide +kernel
theorem dX9_shared_2 : decode cX9_shared 2 = .ok (.iload_n 2, 1) := by decide +kernel
theorem dX9_shared_3 : decode cX9_shared 3 = .ok (.invokevirtual 251, 3) := by decide +kernel
theorem dX9_shared_6 : decode cX9_shared 6 = .ok (.ifCond .eq 14, 3) := by decide +kernel
theorem dX9_shared_9 : decode cX9_shared 9 = .ok (.aload_n 0, 1) := by decide +kernel
theorem dX9_shared_10 : decode cX9_shared 10 = .ok (.getfield 26, 3) := by decide +kernel
theorem dX9_shared_13 : decode cX9_shared 13 = .ok (.iload_n 3, 1) := by decide +kernel
theorem dX9_shared_14 : decode cX9_shared 14 = .ok (.invokevirtual 114, 3) := by decide +kernel
theorem dX9_shared_17 : decode cX9_shared 17 = .ok (.ifCond .ne 7, 3) := by decide +kernel
theorem dX9_shared_20 : decode cX9_shared 20 = .ok (.ldc2_w 254, 3) := by decide +kernel
theorem dX9_shared_23 : decode cX9_shared 23 = .ok (.lreturn, 1) := by decide +kernel
theorem dX9_shared_24 : decode cX9_shared 24 = .ok (.aload_n 0, 1) := by decide +kernel
theorem dX9_shared_25 : decode cX9_shared 25 = .ok (.getfield 65, 3) := by decide +kernel
theorem dX9_shared_28 : decode cX9_shared 28 = .ok (.aload_n 0, 1) := by decide +kernel
theorem dX9_shared_29 : decode cX9_shared 29 = .ok (.getfield 26, 3) := by decide +kernel
theorem dX9_shared_32 : decode cX9_shared 32 = .ok (.iload_n 1, 1) := by decide +kernel
theorem dX9_shared_33 : decode cX9_shared 33 = .ok (.iload_n 2, 1) := by decide +kernel
theorem dX9_shared_34 : decode cX9_shared 34 = .ok (.iload_n 3, 1) := by decide +kernel
theorem dX9_shared_35 : decode cX9_shared 35 = .ok (.invokevirtual 316, 3) := by decide +kernel
theorem dX9_shared_38 : decode cX9_shared 38 = .ok (.lreturn, 1) := by decide +kernel
theorem dX9_joined_0 : decode cX9_joined 0 = .ok (.aload_n 0, 1) := by decide +kernel
theorem dX9_joined_1 : decode cX9_joined 1 = .ok (.iload_n 1, 1) := by decide +kernel
theorem dX9_joined_2 : decode cX9_joined 2 = .ok (.iload_n 2, 1) := by decide +kernel
theorem dX9_joined_3 : decode cX9_joined 3 = .ok (.invokevirtual 251, 3) := by decide +kernel
theorem dX9_joined_6 : decode cX9_joined 6 = .ok (.ifCond .eq 26, 3) := by decide +kernel
theorem dX9_joined_9 : decode cX9_joined 9 = .ok (.aload_n 0, 1) := by decide +kernel
theorem dX9_joined_10 : decode cX9_joined 10 = .ok (.getfield 26, 3) := by decide +kernel
theorem dX9_joined_13 : decode cX9_joined 13 = .ok (.iload_n 3, 1) := by decide +kernel
theorem dX9_joined_14 : decode cX9_joined 14 = .ok (.invokevirtual 114, 3) := by decide +kernel
theorem dX9_joined_17 : decode cX9_joined 17 = .ok (.ifCond .eq 15, 3) := by decide +kernel
theorem dX9_joined_20 : decode cX9_joined 20 = .ok (.iload 4, 2) := by decide +kernel
theorem dX9_joined_22 : decode cX9_joined 22 = .ok (.ifCond .lt 10, 3) := by decide +kernel
theorem dX9_joined_25 : decode cX9_joined 25 = .ok (.iload 4, 2) := by decide +kernel
theorem dX9_joined_27 : decode cX9_joined 27 = .ok (.bipush 50, 2) := by decide +kernel
theorem dX9_joined_29 : decode cX9_joined 29 = .ok (.if_icmp .le 7, 3) := by decide +kernel
theorem dX9_joined_32 : decode cX9_joined 32 = .ok (.ldc2_w 254, 3) := by decide +kernel
theorem dX9_joined_35 : decode cX9_joined 35 = .ok (.lreturn, 1) := by decide +kernel
theorem dX9_joined_36 : decode cX9_joined 36 = .ok (.aload_n 0, 1) := by decide +kernel
theorem dX9_joined_37 : decode cX9_joined 37 = .ok (.iload_n 1, 1) := by decide +kernel
