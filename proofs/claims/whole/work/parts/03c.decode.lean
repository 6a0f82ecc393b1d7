theorem dX8_eitherWay_34 : decode cX8_eitherWay 34 = .ok (.ixor, 1) := by decide +kernel
theorem dX8_eitherWay_35 : decode cX8_eitherWay 35 = .ok (.ireturn, 1) := by decide +kernel
theorem dX9_init_0 : decode cX9_init 0 = .ok (.aload_n 0, 1) := by decide +kernel
theorem dX9_init_1 : decode cX9_init 1 = .ok (.invokespecial 1, 3) := by decide +kernel
theorem dX9_init_4 : decode cX9_init 4 = .ok (.aload_n 0, 1) := by decide +kernel
theorem dX9_init_5 : decode cX9_init 5 = .ok (.new 7, 3) := by decide +kernel
theorem dX9_init_8 : decode cX9_init 8 = .ok (.dup, 1) := by decide +kernel
theorem dX9_init_9 : decode cX9_init 9 = .ok (.invokespecial 9, 3) := by decide +kernel
theorem dX9_init_12 : decode cX9_init 12 = .ok (.putfield 10, 3) := by decide +kernel
theorem dX9_init_15 : decode cX9_init 15 = .ok (.aload_n 0, 1) := by decide +kernel
theorem dX9_init_16 : decode cX9_init 16 = .ok (.new 7, 3) := by decide +kernel
theorem dX9_init_19 : decode cX9_init 19 = .ok (.dup, 1) := by decide +kernel
theorem dX9_init_20 : decode cX9_init 20 = .ok (.invokespecial 9, 3) := by decide +kernel
theorem dX9_init_23 : decode cX9_init 23 = .ok (.putfield 16, 3) := by decide +kernel
theorem dX9_init_26 : decode cX9_init 26 = .ok (.aload_n 0, 1) := by decide +kernel
theorem dX9_init_27 : decode cX9_init 27 = .ok (.new 19, 3) := by decide +kernel
theorem dX9_init_30 : decode cX9_init 30 = .ok (.dup, 1) := by decide +kernel
theorem dX9_init_31 : decode cX9_init 31 = .ok (.invokespecial 21, 3) := by decide +kernel
theorem dX9_init_34 : decode cX9_init 34 = .ok (.putfield 22, 3) := by decide +kernel
theorem dX9_init_37 : decode cX9_init 37 = .ok (.aload_n 0, 1) := by decide +kernel
theorem dX9_init_38 : decode cX9_init 38 = .ok (.new 26, 3) := by decide +kernel
theorem dX9_init_41 : decode cX9_init 41 = .ok (.dup, 1) := by decide +kernel
theorem dX9_init_42 : decode cX9_init 42 = .ok (.invokespecial 28, 3) := by decide +kernel
theorem dX9_init_45 : decode cX9_init 45 = .ok (.putfield 29, 3) := by decide +kernel
theorem dX9_init_48 : decode cX9_init 48 = .ok (.aload_n 0, 1) := by decide +kernel
theorem dX9_init_49 : decode cX9_init 49 = .ok (.new 33, 3) := by decide +kernel
theorem dX9_init_52 : decode cX9_init 52 = .ok (.dup, 1) := by decide +kernel
theorem dX9_init_53 : decode cX9_init 53 = .ok (.invokespecial 35, 3) := by decide +kernel
theorem dX9_init_56 : decode cX9_init 56 = .ok (.putfield 36, 3) := by decide +kernel
theorem dX9_init_59 : decode cX9_init 59 = .ok (.aload_n 0, 1) := by decide +kernel
theorem dX9_init_60 : decode cX9_init 60 = .ok (.bipush 7, 2) := by decide +kernel
theorem dX9_init_62 : decode cX9_init 62 = .ok (.newarray .int, 2) := by decide +kernel
theorem dX9_init_64 : decode cX9_init 64 = .ok (.putfield 40, 3) := by decide +kernel
theorem dX9_init_67 : decode cX9_init 67 = .ok (.aload_n 0, 1) := by decide +kernel
theorem dX9_init_68 : decode cX9_init 68 = .ok (.new 44, 3) := by decide +kernel
theorem dX9_init_71 : decode cX9_init 71 = .ok (.dup, 1) := by decide +kernel
theorem dX9_init_72 : decode cX9_init 72 = .ok (.invokespecial 46, 3) := by decide +kernel
theorem dX9_init_75 : decode cX9_init 75 = .ok (.putfield 47, 3) := by decide +kernel
theorem dX9_init_78 : decode cX9_init 78 = .ok (.aload_n 0, 1) := by decide +kernel
theorem dX9_init_79 : decode cX9_init 79 = .ok (.new 51, 3) := by decide +kernel
theorem dX9_init_82 : decode cX9_init 82 = .ok (.dup, 1) := by decide +kernel
theorem dX9_init_83 : decode cX9_init 83 = .ok (.invokespecial 53, 3) := by decide +kernel
theorem dX9_init_86 : decode cX9_init 86 = .ok (.putfield 54, 3) := by decide +kernel
theorem dX9_init_89 : decode cX9_init 89 = .ok (.aload_n 0, 1) := by decide +kernel
theorem dX9_init_90 : decode cX9_init 90 = .ok (.new 58, 3) := by decide +kernel
theorem dX9_init_93 : decode cX9_init 93 = .ok (.dup, 1) := by decide +kernel
theorem dX9_init_94 : decode cX9_init 94 = .ok (.invokespecial 60, 3) := by decide +kernel
theorem dX9_init_97 : decode cX9_init 97 = .ok (.putfield 61, 3) := by decide +kernel
theorem dX9_init_100 : decode cX9_init 100 = .ok (.aload_n 0, 1) := by decide +kernel
theorem dX9_init_101 : decode cX9_init 101 = .ok (.new 65, 3) := by decide +kernel
theorem dX9_init_104 : decode cX9_init 104 = .ok (.dup, 1) := by decide +kernel
theorem dX9_init_105 : decode cX9_init 105 = .ok (.invokespecial 67, 3) := by decide +kernel
theorem dX9_init_108 : decode cX9_init 108 = .ok (.putfield 68, 3) := by decide +kernel
theorem dX9_init_111 : decode cX9_init 111 = .ok (.aload_n 0, 1) := by decide +kernel
theorem dX9_init_112 : decode cX9_init 112 = .ok (.new 72, 3) := by decide +kernel
theorem dX9_init_115 : decode cX9_init 115 = .ok (.dup, 1) := by decide +kernel
theorem dX9_init_116 : decode cX9_init 116 = .ok (.invokespecial 74, 3) := by decide +kernel
theorem dX9_init_119 : decode cX9_init 119 = .ok (.putfield 75, 3) := by decide +kernel
theorem dX9_init_122 : decode cX9_init 122 = .ok (.return_, 1) := by decide +kernel
theorem dX9_feed_0 : decode cX9_feed 0 = .ok (.iload_n 1, 1) := by decide +kernel
theorem dX9_feed_1 : decode cX9_feed 1 = .ok (.ifCond .ge 10, 3) := by decide +kernel
theorem dX9_feed_4 : decode cX9_feed 4 = .ok (.aload_n 0, 1) := by decide +kernel
theorem dX9_feed_5 : decode cX9_feed 5 = .ok (.bipush (-4), 2) := by decide +kernel
theorem dX9_feed_7 : decode cX9_feed 7 = .ok (.invokevirtual 79, 3) := by decide +kernel
theorem dX9_feed_10 : decode cX9_feed 10 = .ok (.ireturn, 1) := by decide +kernel
theorem dX9_feed_11 : decode cX9_feed 11 = .ok (.iload_n 1, 1) := by decide +kernel
theorem dX9_feed_12 : decode cX9_feed 12 = .ok (.sipush 255, 3) := by decide +kernel
theorem dX9_feed_15 : decode cX9_feed 15 = .ok (.if_icmp .gt 13, 3) := by decide +kernel
theorem dX9_feed_18 : decode cX9_feed 18 = .ok (.aload_n 0, 1) := by decide +kernel
theorem dX9_feed_19 : decode cX9_feed 19 = .ok (.getfield 29, 3) := by decide +kernel
theorem dX9_feed_22 : decode cX9_feed 22 = .ok (.invokevirtual 83, 3) := by decide +kernel
theorem dX9_feed_25 : decode cX9_feed 25 = .ok (.ifCond .eq 10, 3) := by decide +kernel
theorem dX9_feed_28 : decode cX9_feed 28 = .ok (.aload_n 0, 1) := by decide +kernel
theorem dX9_feed_29 : decode cX9_feed 29 = .ok (.bipush (-6), 2) := by decide +kernel
theorem dX9_feed_31 : decode cX9_feed 31 = .ok (.invokevirtual 79, 3) := by decide +kernel
theorem dX9_feed_34 : decode cX9_feed 34 = .ok (.ireturn, 1) := by decide +kernel
theorem dX9_feed_35 : decode cX9_feed 35 = .ok (.aload_n 0, 1) := by decide +kernel
theorem dX9_feed_36 : decode cX9_feed 36 = .ok (.getfield 29, 3) := by decide +kernel
theorem dX9_feed_39 : decode cX9_feed 39 = .ok (.iload_n 1, 1) := by decide +kernel
theorem dX9_feed_40 : decode cX9_feed 40 = .ok (.invokevirtual 87, 3) := by decide +kernel
theorem dX9_feed_43 : decode cX9_feed 43 = .ok (.ireturn, 1) := by decide +kernel
theorem dX9_mill_0 : decode cX9_mill 0 = .ok (.aload_n 0, 1) := by decide +kernel
theorem dX9_mill_1 : decode cX9_mill 1 = .ok (.getfield 29, 3) := by decide +kernel
theorem dX9_mill_4 : decode cX9_mill 4 = .ok (.invokevirtual 90, 3) := by decide +kernel
theorem dX9_mill_7 : decode cX9_mill 7 = .ok (.istore_n 1, 1) := by decide +kernel
theorem dX9_mill_8 : decode cX9_mill 8 = .ok (.iload_n 1, 1) := by decide +kernel
theorem dX9_mill_9 : decode cX9_mill 9 = .ok (.iconst (-1), 1) := by decide +kernel
theorem dX9_mill_10 : decode cX9_mill 10 = .ok (.if_icmp .ne 17, 3) := by decide +kernel
theorem dX9_mill_13 : decode cX9_mill 13 = .ok (.aload_n 0, 1) := by decide +kernel
theorem dX9_mill_14 : decode cX9_mill 14 = .ok (.getfield 29, 3) := by decide +kernel
theorem dX9_mill_17 : decode cX9_mill 17 = .ok (.aload_n 0, 1) := by decide +kernel
theorem dX9_mill_18 : decode cX9_mill 18 = .ok (.getfield 10, 3) := by decide +kernel
theorem dX9_mill_21 : decode cX9_mill 21 = .ok (.invokevirtual 94, 3) := by decide +kernel
theorem dX9_mill_24 : decode cX9_mill 24 = .ok (.goto 4, 3) := by decide +kernel
theorem dX9_mill_27 : decode cX9_mill 27 = .ok (.iconst (-1), 1) := by decide +kernel
theorem dX9_mill_28 : decode cX9_mill 28 = .ok (.istore_n 2, 1) := by decide +kernel
theorem dX9_mill_29 : decode cX9_mill 29 = .ok (.aload_n 0, 1) := by decide +kernel
theorem dX9_mill_30 : decode cX9_mill 30 = .ok (.getfield 29, 3) := by decide +kernel
theorem dX9_mill_33 : decode cX9_mill 33 = .ok (.invokevirtual 98, 3) := by decide +kernel
theorem dX9_mill_36 : decode cX9_mill 36 = .ok (.iload_n 1, 1) := by decide +kernel
theorem dX9_mill_37 : decode cX9_mill 37 = .ok (.iconst (-1), 1) := by decide +kernel
theorem dX9_mill_38 : decode cX9_mill 38 = .ok (.if_icmp .eq 9, 3) := by decide +kernel
theorem dX9_mill_41 : decode cX9_mill 41 = .ok (.sipush (-1000), 3) := by decide +kernel
theorem dX9_mill_44 : decode cX9_mill 44 = .ok (.iload_n 1, 1) := by decide +kernel
theorem dX9_mill_45 : decode cX9_mill 45 = .ok (.isub, 1) := by decide +kernel
theorem dX9_mill_46 : decode cX9_mill 46 = .ok (.ireturn, 1) := by decide +kernel
theorem dX9_mill_47 : decode cX9_mill 47 = .ok (.iload_n 2, 1) := by decide +kernel
theorem dX9_mill_48 : decode cX9_mill 48 = .ok (.iconst (-1), 1) := by decide +kernel
theorem dX9_mill_49 : decode cX9_mill 49 = .ok (.if_icmp .eq 9, 3) := by decide +kernel
theorem dX9_mill_52 : decode cX9_mill 52 = .ok (.sipush (-2000), 3) := by decide +kernel
theorem dX9_mill_55 : decode cX9_mill 55 = .ok (.iload_n 2, 1) := by decide +kernel
theorem dX9_mill_56 : decode cX9_mill 56 = .ok (.isub, 1) := by decide +kernel
theorem dX9_mill_57 : decode cX9_mill 57 = .ok (.ireturn, 1) := by decide +kernel
theorem dX9_mill_58 : decode cX9_mill 58 = .ok (.aload_n 0, 1) := by decide +kernel
theorem dX9_mill_59 : decode cX9_mill 59 = .ok (.getfield 29, 3) := by decide +kernel
theorem dX9_mill_62 : decode cX9_mill 62 = .ok (.aload_n 0, 1) := by decide +kernel
theorem dX9_mill_63 : decode cX9_mill 63 = .ok (.getfield 10, 3) := by decide +kernel
theorem dX9_mill_66 : decode cX9_mill 66 = .ok (.invokevirtual 101, 3) := by decide +kernel
theorem dX9_mill_69 : decode cX9_mill 69 = .ok (.aload_n 0, 1) := by decide +kernel
theorem dX9_mill_70 : decode cX9_mill 70 = .ok (.getfield 22, 3) := by decide +kernel
theorem dX9_mill_73 : decode cX9_mill 73 = .ok (.invokevirtual 105, 3) := by decide +kernel
theorem dX9_mill_76 : decode cX9_mill 76 = .ok (.aload_n 0, 1) := by decide +kernel
theorem dX9_mill_77 : decode cX9_mill 77 = .ok (.getfield 29, 3) := by decide +kernel
theorem dX9_mill_80 : decode cX9_mill 80 = .ok (.invokevirtual 108, 3) := by decide +kernel
theorem dX9_mill_83 : decode cX9_mill 83 = .ok (.ireturn, 1) := by decide +kernel
theorem dX9_lawOf_0 : decode cX9_lawOf 0 = .ok (.aload_n 0, 1) := by decide +kernel
theorem dX9_lawOf_1 : decode cX9_lawOf 1 = .ok (.getfield 10, 3) := by decide +kernel
theorem dX9_lawOf_4 : decode cX9_lawOf 4 = .ok (.iload_n 1, 1) := by decide +kernel
theorem dX9_lawOf_5 : decode cX9_lawOf 5 = .ok (.invokevirtual 111, 3) := by decide +kernel
theorem dX9_lawOf_8 : decode cX9_lawOf 8 = .ok (.ifCond .ne 9, 3) := by decide +kernel
theorem dX9_lawOf_11 : decode cX9_lawOf 11 = .ok (.aload_n 0, 1) := by decide +kernel
theorem dX9_lawOf_12 : decode cX9_lawOf 12 = .ok (.iconst (-1), 1) := by decide +kernel
theorem dX9_lawOf_13 : decode cX9_lawOf 13 = .ok (.invokevirtual 79, 3) := by decide +kernel
theorem dX9_lawOf_16 : decode cX9_lawOf 16 = .ok (.ireturn, 1) := by decide +kernel
theorem dX9_lawOf_17 : decode cX9_lawOf 17 = .ok (.iload_n 2, 1) := by decide +kernel
theorem dX9_lawOf_18 : decode cX9_lawOf 18 = .ok (.ifCond .lt 8, 3) := by decide +kernel
theorem dX9_lawOf_21 : decode cX9_lawOf 21 = .ok (.iload_n 2, 1) := by decide +kernel
theorem dX9_lawOf_22 : decode cX9_lawOf 22 = .ok (.iconst 3, 1) := by decide +kernel
theorem dX9_lawOf_23 : decode cX9_lawOf 23 = .ok (.if_icmp .le 10, 3) := by decide +kernel
theorem dX9_lawOf_26 : decode cX9_lawOf 26 = .ok (.aload_n 0, 1) := by decide +kernel
theorem dX9_lawOf_27 : decode cX9_lawOf 27 = .ok (.bipush (-2), 2) := by decide +kernel
theorem dX9_lawOf_29 : decode cX9_lawOf 29 = .ok (.invokevirtual 79, 3) := by decide +kernel
theorem dX9_lawOf_32 : decode cX9_lawOf 32 = .ok (.ireturn, 1) := by decide +kernel
theorem dX9_lawOf_33 : decode cX9_lawOf 33 = .ok (.aload_n 0, 1) := by decide +kernel
theorem dX9_lawOf_34 : decode cX9_lawOf 34 = .ok (.getfield 10, 3) := by decide +kernel
theorem dX9_lawOf_37 : decode cX9_lawOf 37 = .ok (.iload_n 1, 1) := by decide +kernel
theorem dX9_lawOf_38 : decode cX9_lawOf 38 = .ok (.iload_n 2, 1) := by decide +kernel
theorem dX9_lawOf_39 : decode cX9_lawOf 39 = .ok (.invokevirtual 115, 3) := by decide +kernel
theorem dX9_lawOf_42 : decode cX9_lawOf 42 = .ok (.ireturn, 1) := by decide +kernel
theorem dX9_pockets_0 : decode cX9_pockets 0 = .ok (.aload_n 0, 1) := by decide +kernel
theorem dX9_pockets_1 : decode cX9_pockets 1 = .ok (.getfield 10, 3) := by decide +kernel
theorem dX9_pockets_4 : decode cX9_pockets 4 = .ok (.iload_n 1, 1) := by decide +kernel
theorem dX9_pockets_5 : decode cX9_pockets 5 = .ok (.invokevirtual 119, 3) := by decide +kernel
theorem dX9_pockets_8 : decode cX9_pockets 8 = .ok (.ifCond .ne 9, 3) := by decide +kernel
theorem dX9_pockets_11 : decode cX9_pockets 11 = .ok (.aload_n 0, 1) := by decide +kernel
theorem dX9_pockets_12 : decode cX9_pockets 12 = .ok (.iconst (-1), 1) := by decide +kernel
theorem dX9_pockets_13 : decode cX9_pockets 13 = .ok (.invokevirtual 79, 3) := by decide +kernel
theorem dX9_pockets_16 : decode cX9_pockets 16 = .ok (.ireturn, 1) := by decide +kernel
theorem dX9_pockets_17 : decode cX9_pockets 17 = .ok (.aload_n 0, 1) := by decide +kernel
theorem dX9_pockets_18 : decode cX9_pockets 18 = .ok (.getfield 10, 3) := by decide +kernel
theorem dX9_pockets_21 : decode cX9_pockets 21 = .ok (.iload_n 1, 1) := by decide +kernel
theorem dX9_pockets_22 : decode cX9_pockets 22 = .ok (.invokevirtual 122, 3) := by decide +kernel
theorem dX9_pockets_25 : decode cX9_pockets 25 = .ok (.ireturn, 1) := by decide +kernel
theorem dX9_law_0 : decode cX9_law 0 = .ok (.iload_n 1, 1) := by decide +kernel
theorem dX9_law_1 : decode cX9_law 1 = .ok (.ifCond .lt 8, 3) := by decide +kernel
theorem dX9_law_4 : decode cX9_law 4 = .ok (.iload_n 1, 1) := by decide +kernel
theorem dX9_law_5 : decode cX9_law 5 = .ok (.iconst 5, 1) := by decide +kernel
theorem dX9_law_6 : decode cX9_law 6 = .ok (.if_icmp .le 10, 3) := by decide +kernel
theorem dX9_law_9 : decode cX9_law 9 = .ok (.aload_n 0, 1) := by decide +kernel
theorem dX9_law_10 : decode cX9_law 10 = .ok (.bipush (-2), 2) := by decide +kernel
theorem dX9_law_12 : decode cX9_law 12 = .ok (.invokevirtual 79, 3) := by decide +kernel
theorem dX9_law_15 : decode cX9_law 15 = .ok (.ireturn, 1) := by decide +kernel
theorem dX9_law_16 : decode cX9_law 16 = .ok (.iload_n 2, 1) := by decide +kernel
theorem dX9_law_17 : decode cX9_law 17 = .ok (.ifCond .lt 7, 3) := by decide +kernel
theorem dX9_law_20 : decode cX9_law 20 = .ok (.iload_n 3, 1) := by decide +kernel
theorem dX9_law_21 : decode cX9_law 21 = .ok (.ifCond .ge 10, 3) := by decide +kernel
theorem dX9_law_24 : decode cX9_law 24 = .ok (.aload_n 0, 1) := by decide +kernel
theorem dX9_law_25 : decode cX9_law 25 = .ok (.bipush (-4), 2) := by decide +kernel
theorem dX9_law_27 : decode cX9_law 27 = .ok (.invokevirtual 79, 3) := by decide +kernel
theorem dX9_law_30 : decode cX9_law 30 = .ok (.ireturn, 1) := by decide +kernel
theorem dX9_law_31 : decode cX9_law 31 = .ok (.iload_n 3, 1) := by decide +kernel
theorem dX9_law_32 : decode cX9_law 32 = .ok (.bipush 10, 2) := by decide +kernel
theorem dX9_law_34 : decode cX9_law 34 = .ok (.idiv, 1) := by decide +kernel
theorem dX9_law_35 : decode cX9_law 35 = .ok (.istore 4, 2) := by decide +kernel
theorem dX9_law_37 : decode cX9_law 37 = .ok (.iload_n 3, 1) := by decide +kernel
theorem dX9_law_38 : decode cX9_law 38 = .ok (.bipush 10, 2) := by decide +kernel
theorem dX9_law_40 : decode cX9_law 40 = .ok (.irem, 1) := by decide +kernel
theorem dX9_law_41 : decode cX9_law 41 = .ok (.istore 5, 2) := by decide +kernel
theorem dX9_law_43 : decode cX9_law 43 = .ok (.iload_n 2, 1) := by decide +kernel
theorem dX9_law_44 : decode cX9_law 44 = .ok (.bipush 9, 2) := by decide +kernel
theorem dX9_law_46 : decode cX9_law 46 = .ok (.if_icmp .gt 19, 3) := by decide +kernel
theorem dX9_law_49 : decode cX9_law 49 = .ok (.iload 4, 2) := by decide +kernel
theorem dX9_law_51 : decode cX9_law 51 = .ok (.invokestatic 125, 3) := by decide +kernel
theorem dX9_law_54 : decode cX9_law 54 = .ok (.ifCond .eq 11, 3) := by decide +kernel
theorem dX9_law_57 : decode cX9_law 57 = .ok (.iload 5, 2) := by decide +kernel
theorem dX9_law_59 : decode cX9_law 59 = .ok (.invokestatic 125, 3) := by decide +kernel
theorem dX9_law_62 : decode cX9_law 62 = .ok (.ifCond .ne 10, 3) := by decide +kernel
theorem dX9_law_65 : decode cX9_law 65 = .ok (.aload_n 0, 1) := by decide +kernel
theorem dX9_law_66 : decode cX9_law 66 = .ok (.bipush (-6), 2) := by decide +kernel
theorem dX9_law_68 : decode cX9_law 68 = .ok (.invokevirtual 79, 3) := by decide +kernel
theorem dX9_law_71 : decode cX9_law 71 = .ok (.ireturn, 1) := by decide +kernel
theorem dX9_law_72 : decode cX9_law 72 = .ok (.aload_n 0, 1) := by decide +kernel
theorem dX9_law_73 : decode cX9_law 73 = .ok (.getfield 10, 3) := by decide +kernel
theorem dX9_law_76 : decode cX9_law 76 = .ok (.invokevirtual 128, 3) := by decide +kernel
theorem dX9_law_79 : decode cX9_law 79 = .ok (.ifCond .ne 10, 3) := by decide +kernel
theorem dX9_law_82 : decode cX9_law 82 = .ok (.aload_n 0, 1) := by decide +kernel
theorem dX9_law_83 : decode cX9_law 83 = .ok (.bipush (-6), 2) := by decide +kernel
theorem dX9_law_85 : decode cX9_law 85 = .ok (.invokevirtual 79, 3) := by decide +kernel
theorem dX9_law_88 : decode cX9_law 88 = .ok (.ireturn, 1) := by decide +kernel
theorem dX9_law_89 : decode cX9_law 89 = .ok (.aload_n 0, 1) := by decide +kernel
theorem dX9_law_90 : decode cX9_law 90 = .ok (.getfield 22, 3) := by decide +kernel
theorem dX9_law_93 : decode cX9_law 93 = .ok (.invokevirtual 105, 3) := by decide +kernel
theorem dX9_law_96 : decode cX9_law 96 = .ok (.aload_n 0, 1) := by decide +kernel
theorem dX9_law_97 : decode cX9_law 97 = .ok (.getfield 10, 3) := by decide +kernel
theorem dX9_law_100 : decode cX9_law 100 = .ok (.iload_n 1, 1) := by decide +kernel
theorem dX9_law_101 : decode cX9_law 101 = .ok (.iload_n 2, 1) := by decide +kernel
theorem dX9_law_102 : decode cX9_law 102 = .ok (.iload 4, 2) := by decide +kernel
theorem dX9_law_104 : decode cX9_law 104 = .ok (.iload 5, 2) := by decide +kernel
theorem dX9_law_106 : decode cX9_law 106 = .ok (.invokevirtual 131, 3) := by decide +kernel
theorem dX9_law_109 : decode cX9_law 109 = .ok (.ireturn, 1) := by decide +kernel
theorem dX9_person_0 : decode cX9_person 0 = .ok (.iload_n 1, 1) := by decide +kernel
theorem dX9_person_1 : decode cX9_person 1 = .ok (.ifCond .ge 10, 3) := by decide +kernel
theorem dX9_person_4 : decode cX9_person 4 = .ok (.aload_n 0, 1) := by decide +kernel
theorem dX9_person_5 : decode cX9_person 5 = .ok (.bipush (-4), 2) := by decide +kernel
theorem dX9_person_7 : decode cX9_person 7 = .ok (.invokevirtual 79, 3) := by decide +kernel
theorem dX9_person_10 : decode cX9_person 10 = .ok (.ireturn, 1) := by decide +kernel
theorem dX9_person_11 : decode cX9_person 11 = .ok (.iload_n 1, 1) := by decide +kernel
theorem dX9_person_12 : decode cX9_person 12 = .ok (.sipush 255, 3) := by decide +kernel
theorem dX9_person_15 : decode cX9_person 15 = .ok (.if_icmp .gt 13, 3) := by decide +kernel
theorem dX9_person_18 : decode cX9_person 18 = .ok (.aload_n 0, 1) := by decide +kernel
theorem dX9_person_19 : decode cX9_person 19 = .ok (.getfield 10, 3) := by decide +kernel
theorem dX9_person_22 : decode cX9_person 22 = .ok (.invokevirtual 135, 3) := by decide +kernel
theorem dX9_person_25 : decode cX9_person 25 = .ok (.ifCond .ne 10, 3) := by decide +kernel
theorem dX9_person_28 : decode cX9_person 28 = .ok (.aload_n 0, 1) := by decide +kernel
theorem dX9_person_29 : decode cX9_person 29 = .ok (.bipush (-6), 2) := by decide +kernel
theorem dX9_person_31 : decode cX9_person 31 = .ok (.invokevirtual 79, 3) := by decide +kernel
theorem dX9_person_34 : decode cX9_person 34 = .ok (.ireturn, 1) := by decide +kernel
theorem dX9_person_35 : decode cX9_person 35 = .ok (.aload_n 0, 1) := by decide +kernel
theorem dX9_person_36 : decode cX9_person 36 = .ok (.getfield 22, 3) := by decide +kernel
theorem dX9_person_39 : decode cX9_person 39 = .ok (.invokevirtual 105, 3) := by decide +kernel
theorem dX9_person_42 : decode cX9_person 42 = .ok (.aload_n 0, 1) := by decide +kernel
theorem dX9_person_43 : decode cX9_person 43 = .ok (.getfield 10, 3) := by decide +kernel
theorem dX9_person_46 : decode cX9_person 46 = .ok (.iload_n 1, 1) := by decide +kernel
theorem dX9_person_47 : decode cX9_person 47 = .ok (.invokevirtual 138, 3) := by decide +kernel
theorem dX9_person_50 : decode cX9_person 50 = .ok (.ireturn, 1) := by decide +kernel
theorem dX9_takes_0 : decode cX9_takes 0 = .ok (.aload_n 0, 1) := by decide +kernel
theorem dX9_takes_1 : decode cX9_takes 1 = .ok (.getfield 10, 3) := by decide +kernel
theorem dX9_takes_4 : decode cX9_takes 4 = .ok (.iload_n 1, 1) := by decide +kernel
theorem dX9_takes_5 : decode cX9_takes 5 = .ok (.invokevirtual 119, 3) := by decide +kernel
theorem dX9_takes_8 : decode cX9_takes 8 = .ok (.ifCond .eq 10, 3) := by decide +kernel
theorem dX9_takes_11 : decode cX9_takes 11 = .ok (.iload_n 2, 1) := by decide +kernel
theorem dX9_takes_12 : decode cX9_takes 12 = .ok (.invokestatic 125, 3) := by decide +kernel
theorem dX9_takes_15 : decode cX9_takes 15 = .ok (.ifCond .ne 9, 3) := by decide +kernel
theorem dX9_takes_18 : decode cX9_takes 18 = .ok (.aload_n 0, 1) := by decide +kernel
theorem dX9_takes_19 : decode cX9_takes 19 = .ok (.iconst (-1), 1) := by decide +kernel
theorem dX9_takes_20 : decode cX9_takes 20 = .ok (.invokevirtual 79, 3) := by decide +kernel
theorem dX9_takes_23 : decode cX9_takes 23 = .ok (.ireturn, 1) := by decide +kernel
theorem dX9_takes_24 : decode cX9_takes 24 = .ok (.aload_n 0, 1) := by decide +kernel
theorem dX9_takes_25 : decode cX9_takes 25 = .ok (.getfield 10, 3) := by decide +kernel
theorem dX9_takes_28 : decode cX9_takes 28 = .ok (.iload_n 1, 1) := by decide +kernel
theorem dX9_takes_29 : decode cX9_takes 29 = .ok (.invokevirtual 122, 3) := by decide +kernel
theorem dX9_takes_32 : decode cX9_takes 32 = .ok (.iload_n 2, 1) := by decide +kernel
theorem dX9_takes_33 : decode cX9_takes 33 = .ok (.invokestatic 141, 3) := by decide +kernel
theorem dX9_takes_36 : decode cX9_takes 36 = .ok (.ifCond .ne 10, 3) := by decide +kernel
theorem dX9_takes_39 : decode cX9_takes 39 = .ok (.aload_n 0, 1) := by decide +kernel
theorem dX9_takes_40 : decode cX9_takes 40 = .ok (.bipush (-3), 2) := by decide +kernel
theorem dX9_takes_42 : decode cX9_takes 42 = .ok (.invokevirtual 79, 3) := by decide +kernel
theorem dX9_takes_45 : decode cX9_takes 45 = .ok (.ireturn, 1) := by decide +kernel
theorem dX9_takes_46 : decode cX9_takes 46 = .ok (.aload_n 0, 1) := by decide +kernel
theorem dX9_takes_47 : decode cX9_takes 47 = .ok (.getfield 22, 3) := by decide +kernel
theorem dX9_takes_50 : decode cX9_takes 50 = .ok (.aload_n 0, 1) := by decide +kernel
theorem dX9_takes_51 : decode cX9_takes 51 = .ok (.getfield 10, 3) := by decide +kernel
theorem dX9_takes_54 : decode cX9_takes 54 = .ok (.invokevirtual 145, 3) := by decide +kernel
theorem dX9_takes_57 : decode cX9_takes 57 = .ok (.aload_n 0, 1) := by decide +kernel
theorem dX9_takes_58 : decode cX9_takes 58 = .ok (.getfield 10, 3) := by decide +kernel
theorem dX9_takes_61 : decode cX9_takes 61 = .ok (.iload_n 1, 1) := by decide +kernel
theorem dX9_takes_62 : decode cX9_takes 62 = .ok (.iload_n 2, 1) := by decide +kernel
theorem dX9_takes_63 : decode cX9_takes 63 = .ok (.invokevirtual 148, 3) := by decide +kernel
theorem dX9_takes_66 : decode cX9_takes 66 = .ok (.ireturn, 1) := by decide +kernel
theorem dX9_brings_0 : decode cX9_brings 0 = .ok (.aload_n 0, 1) := by decide +kernel
theorem dX9_brings_1 : decode cX9_brings 1 = .ok (.getfield 10, 3) := by decide +kernel
theorem dX9_brings_4 : decode cX9_brings 4 = .ok (.iload_n 1, 1) := by decide +kernel
theorem dX9_brings_5 : decode cX9_brings 5 = .ok (.invokevirtual 119, 3) := by decide +kernel
theorem dX9_brings_8 : decode cX9_brings 8 = .ok (.ifCond .eq 10, 3) := by decide +kernel
theorem dX9_brings_11 : decode cX9_brings 11 = .ok (.iload_n 2, 1) := by decide +kernel
theorem dX9_brings_12 : decode cX9_brings 12 = .ok (.invokestatic 125, 3) := by decide +kernel
theorem dX9_brings_15 : decode cX9_brings 15 = .ok (.ifCond .ne 9, 3) := by decide +kernel
theorem dX9_brings_18 : decode cX9_brings 18 = .ok (.aload_n 0, 1) := by decide +kernel
theorem dX9_brings_19 : decode cX9_brings 19 = .ok (.iconst (-1), 1) := by decide +kernel
theorem dX9_brings_20 : decode cX9_brings 20 = .ok (.invokevirtual 79, 3) := by decide +kernel
theorem dX9_brings_23 : decode cX9_brings 23 = .ok (.ireturn, 1) := by decide +kernel
theorem dX9_brings_24 : decode cX9_brings 24 = .ok (.aload_n 0, 1) := by decide +kernel
theorem dX9_brings_25 : decode cX9_brings 25 = .ok (.getfield 22, 3) := by decide +kernel
theorem dX9_brings_28 : decode cX9_brings 28 = .ok (.aload_n 0, 1) := by decide +kernel
theorem dX9_brings_29 : decode cX9_brings 29 = .ok (.getfield 10, 3) := by decide +kernel
theorem dX9_brings_32 : decode cX9_brings 32 = .ok (.invokevirtual 145, 3) := by decide +kernel
theorem dX9_brings_35 : decode cX9_brings 35 = .ok (.aload_n 0, 1) := by decide +kernel
theorem dX9_brings_36 : decode cX9_brings 36 = .ok (.getfield 10, 3) := by decide +kernel
theorem dX9_brings_39 : decode cX9_brings 39 = .ok (.iload_n 1, 1) := by decide +kernel
theorem dX9_brings_40 : decode cX9_brings 40 = .ok (.iload_n 2, 1) := by decide +kernel
theorem dX9_brings_41 : decode cX9_brings 41 = .ok (.invokevirtual 151, 3) := by decide +kernel
theorem dX9_brings_44 : decode cX9_brings 44 = .ok (.ireturn, 1) := by decide +kernel
theorem dX9_turn_0 : decode cX9_turn 0 = .ok (.aload_n 0, 1) := by decide +kernel
theorem dX9_turn_1 : decode cX9_turn 1 = .ok (.getfield 10, 3) := by decide +kernel
theorem dX9_turn_4 : decode cX9_turn 4 = .ok (.iload_n 1, 1) := by decide +kernel
theorem dX9_turn_5 : decode cX9_turn 5 = .ok (.invokevirtual 111, 3) := by decide +kernel
theorem dX9_turn_8 : decode cX9_turn 8 = .ok (.ifCond .ne 9, 3) := by decide +kernel
theorem dX9_turn_11 : decode cX9_turn 11 = .ok (.aload_n 0, 1) := by decide +kernel
theorem dX9_turn_12 : decode cX9_turn 12 = .ok (.iconst (-1), 1) := by decide +kernel
theorem dX9_turn_13 : decode cX9_turn 13 = .ok (.invokevirtual 79, 3) := by decide +kernel
theorem dX9_turn_16 : decode cX9_turn 16 = .ok (.ireturn, 1) := by decide +kernel
theorem dX9_turn_17 : decode cX9_turn 17 = .ok (.iload_n 2, 1) := by decide +kernel
theorem dX9_turn_18 : decode cX9_turn 18 = .ok (.ifCond .lt 8, 3) := by decide +kernel
theorem dX9_turn_21 : decode cX9_turn 21 = .ok (.iload_n 2, 1) := by decide +kernel
theorem dX9_turn_22 : decode cX9_turn 22 = .ok (.iconst 5, 1) := by decide +kernel
theorem dX9_turn_23 : decode cX9_turn 23 = .ok (.if_icmp .le 10, 3) := by decide +kernel
theorem dX9_turn_26 : decode cX9_turn 26 = .ok (.aload_n 0, 1) := by decide +kernel
theorem dX9_turn_27 : decode cX9_turn 27 = .ok (.bipush (-2), 2) := by decide +kernel
theorem dX9_turn_29 : decode cX9_turn 29 = .ok (.invokevirtual 79, 3) := by decide +kernel
theorem dX9_turn_32 : decode cX9_turn 32 = .ok (.ireturn, 1) := by decide +kernel
theorem dX9_turn_33 : decode cX9_turn 33 = .ok (.iload_n 3, 1) := by decide +kernel
theorem dX9_turn_34 : decode cX9_turn 34 = .ok (.ifCond .ge 10, 3) := by decide +kernel
theorem dX9_turn_37 : decode cX9_turn 37 = .ok (.aload_n 0, 1) := by decide +kernel
theorem dX9_turn_38 : decode cX9_turn 38 = .ok (.bipush (-4), 2) := by decide +kernel
theorem dX9_turn_40 : decode cX9_turn 40 = .ok (.invokevirtual 79, 3) := by decide +kernel
theorem dX9_turn_43 : decode cX9_turn 43 = .ok (.ireturn, 1) := by decide +kernel
theorem dX9_turn_44 : decode cX9_turn 44 = .ok (.iload_n 3, 1) := by decide +kernel
theorem dX9_turn_45 : decode cX9_turn 45 = .ok (.bipush 9, 2) := by decide +kernel
theorem dX9_turn_47 : decode cX9_turn 47 = .ok (.if_icmp .le 10, 3) := by decide +kernel
theorem dX9_turn_50 : decode cX9_turn 50 = .ok (.aload_n 0, 1) := by decide +kernel
theorem dX9_turn_51 : decode cX9_turn 51 = .ok (.bipush (-6), 2) := by decide +kernel
theorem dX9_turn_53 : decode cX9_turn 53 = .ok (.invokevirtual 79, 3) := by decide +kernel
theorem dX9_turn_56 : decode cX9_turn 56 = .ok (.ireturn, 1) := by decide +kernel
theorem dX9_turn_57 : decode cX9_turn 57 = .ok (.bipush 10, 2) := by decide +kernel
theorem dX9_turn_59 : decode cX9_turn 59 = .ok (.aload_n 0, 1) := by decide +kernel
theorem dX9_turn_60 : decode cX9_turn 60 = .ok (.getfield 10, 3) := by decide +kernel
theorem dX9_turn_63 : decode cX9_turn 63 = .ok (.iload_n 1, 1) := by decide +kernel
theorem dX9_turn_64 : decode cX9_turn 64 = .ok (.iconst 0, 1) := by decide +kernel
theorem dX9_turn_65 : decode cX9_turn 65 = .ok (.invokevirtual 115, 3) := by decide +kernel
theorem dX9_turn_68 : decode cX9_turn 68 = .ok (.imul, 1) := by decide +kernel
theorem dX9_turn_69 : decode cX9_turn 69 = .ok (.aload_n 0, 1) := by decide +kernel
theorem dX9_turn_70 : decode cX9_turn 70 = .ok (.getfield 10, 3) := by decide +kernel
theorem dX9_turn_73 : decode cX9_turn 73 = .ok (.iload_n 1, 1) := by decide +kernel
theorem dX9_turn_74 : decode cX9_turn 74 = .ok (.iconst 1, 1) := by decide +kernel
theorem dX9_turn_75 : decode cX9_turn 75 = .ok (.invokevirtual 115, 3) := by decide +kernel
theorem dX9_turn_78 : decode cX9_turn 78 = .ok (.iadd, 1) := by decide +kernel
theorem dX9_turn_79 : decode cX9_turn 79 = .ok (.istore 4, 2) := by decide +kernel
theorem dX9_turn_81 : decode cX9_turn 81 = .ok (.aload_n 0, 1) := by decide +kernel
theorem dX9_turn_82 : decode cX9_turn 82 = .ok (.getfield 22, 3) := by decide +kernel
theorem dX9_turn_85 : decode cX9_turn 85 = .ok (.aload_n 0, 1) := by decide +kernel
theorem dX9_turn_86 : decode cX9_turn 86 = .ok (.getfield 10, 3) := by decide +kernel
theorem dX9_turn_89 : decode cX9_turn 89 = .ok (.invokevirtual 145, 3) := by decide +kernel
theorem dX9_turn_92 : decode cX9_turn 92 = .ok (.aload_n 0, 1) := by decide +kernel
theorem dX9_turn_93 : decode cX9_turn 93 = .ok (.getfield 10, 3) := by decide +kernel
theorem dX9_turn_96 : decode cX9_turn 96 = .ok (.iload_n 1, 1) := by decide +kernel
theorem dX9_turn_97 : decode cX9_turn 97 = .ok (.iconst 0, 1) := by decide +kernel
theorem dX9_turn_98 : decode cX9_turn 98 = .ok (.iload_n 2, 1) := by decide +kernel
theorem dX9_turn_99 : decode cX9_turn 99 = .ok (.invokevirtual 154, 3) := by decide +kernel
theorem dX9_turn_102 : decode cX9_turn 102 = .ok (.aload_n 0, 1) := by decide +kernel
theorem dX9_turn_103 : decode cX9_turn 103 = .ok (.getfield 10, 3) := by decide +kernel
theorem dX9_turn_106 : decode cX9_turn 106 = .ok (.iload_n 1, 1) := by decide +kernel
theorem dX9_turn_107 : decode cX9_turn 107 = .ok (.iconst 1, 1) := by decide +kernel
theorem dX9_turn_108 : decode cX9_turn 108 = .ok (.iload_n 3, 1) := by decide +kernel
theorem dX9_turn_109 : decode cX9_turn 109 = .ok (.invokevirtual 154, 3) := by decide +kernel
theorem dX9_turn_112 : decode cX9_turn 112 = .ok (.iload 4, 2) := by decide +kernel
theorem dX9_turn_114 : decode cX9_turn 114 = .ok (.ireturn, 1) := by decide +kernel
theorem dX9_clears_0 : decode cX9_clears 0 = .ok (.aload_n 0, 1) := by decide +kernel
theorem dX9_clears_1 : decode cX9_clears 1 = .ok (.getfield 22, 3) := by decide +kernel
theorem dX9_clears_4 : decode cX9_clears 4 = .ok (.invokevirtual 105, 3) := by decide +kernel
theorem dX9_clears_7 : decode cX9_clears 7 = .ok (.aload_n 0, 1) := by decide +kernel
theorem dX9_clears_8 : decode cX9_clears 8 = .ok (.getfield 10, 3) := by decide +kernel
theorem dX9_clears_11 : decode cX9_clears 11 = .ok (.invokevirtual 158, 3) := by decide +kernel
theorem dX9_clears_14 : decode cX9_clears 14 = .ok (.ireturn, 1) := by decide +kernel
theorem dX9_day_0 : decode cX9_day 0 = .ok (.aload_n 0, 1) := by decide +kernel
theorem dX9_day_1 : decode cX9_day 1 = .ok (.getfield 10, 3) := by decide +kernel
theorem dX9_day_4 : decode cX9_day 4 = .ok (.invokevirtual 161, 3) := by decide +kernel
theorem dX9_day_7 : decode cX9_day 7 = .ok (.sipush 999, 3) := by decide +kernel
theorem dX9_day_10 : decode cX9_day 10 = .ok (.if_icmp .lt 10, 3) := by decide +kernel
theorem dX9_day_13 : decode cX9_day 13 = .ok (.aload_n 0, 1) := by decide +kernel
theorem dX9_day_14 : decode cX9_day 14 = .ok (.bipush (-6), 2) := by decide +kernel
theorem dX9_day_16 : decode cX9_day 16 = .ok (.invokevirtual 79, 3) := by decide +kernel
theorem dX9_day_19 : decode cX9_day 19 = .ok (.ireturn, 1) := by decide +kernel
theorem dX9_day_20 : decode cX9_day 20 = .ok (.aload_n 0, 1) := by decide +kernel
theorem dX9_day_21 : decode cX9_day 21 = .ok (.getfield 22, 3) := by decide +kernel
theorem dX9_day_24 : decode cX9_day 24 = .ok (.aload_n 0, 1) := by decide +kernel
theorem dX9_day_25 : decode cX9_day 25 = .ok (.getfield 10, 3) := by decide +kernel
theorem dX9_day_28 : decode cX9_day 28 = .ok (.invokevirtual 145, 3) := by decide +kernel
theorem dX9_day_31 : decode cX9_day 31 = .ok (.aload_n 0, 1) := by decide +kernel
theorem dX9_day_32 : decode cX9_day 32 = .ok (.getfield 10, 3) := by decide +kernel
theorem dX9_day_35 : decode cX9_day 35 = .ok (.aload_n 0, 1) := by decide +kernel
theorem dX9_day_36 : decode cX9_day 36 = .ok (.getfield 47, 3) := by decide +kernel
theorem dX9_day_39 : decode cX9_day 39 = .ok (.invokevirtual 164, 3) := by decide +kernel
theorem dX9_day_42 : decode cX9_day 42 = .ok (.ireturn, 1) := by decide +kernel
theorem dX9_back_0 : decode cX9_back 0 = .ok (.aload_n 0, 1) := by decide +kernel
theorem dX9_back_1 : decode cX9_back 1 = .ok (.getfield 22, 3) := by decide +kernel
theorem dX9_back_4 : decode cX9_back 4 = .ok (.invokevirtual 168, 3) := by decide +kernel
theorem dX9_back_7 : decode cX9_back 7 = .ok (.ifCond .ne 10, 3) := by decide +kernel
theorem dX9_back_10 : decode cX9_back 10 = .ok (.aload_n 0, 1) := by decide +kernel
theorem dX9_back_11 : decode cX9_back 11 = .ok (.bipush (-3), 2) := by decide +kernel
theorem dX9_back_13 : decode cX9_back 13 = .ok (.invokevirtual 79, 3) := by decide +kernel
theorem dX9_back_16 : decode cX9_back 16 = .ok (.ireturn, 1) := by decide +kernel
theorem dX9_back_17 : decode cX9_back 17 = .ok (.aload_n 0, 1) := by decide +kernel
theorem dX9_back_18 : decode cX9_back 18 = .ok (.getfield 22, 3) := by decide +kernel
theorem dX9_back_21 : decode cX9_back 21 = .ok (.aload_n 0, 1) := by decide +kernel
theorem dX9_back_22 : decode cX9_back 22 = .ok (.getfield 10, 3) := by decide +kernel
theorem dX9_back_25 : decode cX9_back 25 = .ok (.invokevirtual 171, 3) := by decide +kernel
theorem dX9_back_28 : decode cX9_back 28 = .ok (.ireturn, 1) := by decide +kernel
theorem dX9_at_0 : decode cX9_at 0 = .ok (.aload_n 0, 1) := by decide +kernel
theorem dX9_at_1 : decode cX9_at 1 = .ok (.getfield 10, 3) := by decide +kernel
theorem dX9_at_4 : decode cX9_at 4 = .ok (.iload_n 1, 1) := by decide +kernel
theorem dX9_at_5 : decode cX9_at 5 = .ok (.invokevirtual 119, 3) := by decide +kernel
theorem dX9_at_8 : decode cX9_at 8 = .ok (.ifCond .eq 13, 3) := by decide +kernel
theorem dX9_at_11 : decode cX9_at 11 = .ok (.iload_n 2, 1) := by decide +kernel
theorem dX9_at_12 : decode cX9_at 12 = .ok (.ifCond .lt 9, 3) := by decide +kernel
theorem dX9_at_15 : decode cX9_at 15 = .ok (.iload_n 2, 1) := by decide +kernel
theorem dX9_at_16 : decode cX9_at 16 = .ok (.bipush 12, 2) := by decide +kernel
theorem dX9_at_18 : decode cX9_at 18 = .ok (.if_icmp .lt 9, 3) := by decide +kernel
theorem dX9_at_21 : decode cX9_at 21 = .ok (.aload_n 0, 1) := by decide +kernel
theorem dX9_at_22 : decode cX9_at 22 = .ok (.iconst (-1), 1) := by decide +kernel
theorem dX9_at_23 : decode cX9_at 23 = .ok (.invokevirtual 79, 3) := by decide +kernel
theorem dX9_at_26 : decode cX9_at 26 = .ok (.ireturn, 1) := by decide +kernel
theorem dX9_at_27 : decode cX9_at 27 = .ok (.iload_n 3, 1) := by decide +kernel
theorem dX9_at_28 : decode cX9_at 28 = .ok (.invokestatic 174, 3) := by decide +kernel
theorem dX9_at_31 : decode cX9_at 31 = .ok (.ifCond .eq 10, 3) := by decide +kernel
theorem dX9_at_34 : decode cX9_at 34 = .ok (.aload_n 0, 1) := by decide +kernel
theorem dX9_at_35 : decode cX9_at 35 = .ok (.bipush (-2), 2) := by decide +kernel
theorem dX9_at_37 : decode cX9_at 37 = .ok (.invokevirtual 79, 3) := by decide +kernel
theorem dX9_at_40 : decode cX9_at 40 = .ok (.ireturn, 1) := by decide +kernel
theorem dX9_at_41 : decode cX9_at 41 = .ok (.aload_n 0, 1) := by decide +kernel
theorem dX9_at_42 : decode cX9_at 42 = .ok (.iload_n 1, 1) := by decide +kernel
theorem dX9_at_43 : decode cX9_at 43 = .ok (.invokevirtual 177, 3) := by decide +kernel
theorem dX9_at_46 : decode cX9_at 46 = .ok (.iload_n 3, 1) := by decide +kernel
theorem dX9_at_47 : decode cX9_at 47 = .ok (.ifCond .ne 14, 3) := by decide +kernel
theorem dX9_at_50 : decode cX9_at 50 = .ok (.aload_n 0, 1) := by decide +kernel
theorem dX9_at_51 : decode cX9_at 51 = .ok (.getfield 47, 3) := by decide +kernel
theorem dX9_at_54 : decode cX9_at 54 = .ok (.iload_n 2, 1) := by decide +kernel
theorem dX9_at_55 : decode cX9_at 55 = .ok (.invokevirtual 181, 3) := by decide +kernel
theorem dX9_at_58 : decode cX9_at 58 = .ok (.goto 11, 3) := by decide +kernel
theorem dX9_at_61 : decode cX9_at 61 = .ok (.aload_n 0, 1) := by decide +kernel
theorem dX9_at_62 : decode cX9_at 62 = .ok (.getfield 47, 3) := by decide +kernel
theorem dX9_at_65 : decode cX9_at 65 = .ok (.iload_n 2, 1) := by decide +kernel
theorem dX9_at_66 : decode cX9_at 66 = .ok (.invokevirtual 184, 3) := by decide +kernel
theorem dX9_at_69 : decode cX9_at 69 = .ok (.ireturn, 1) := by decide +kernel
theorem dX9_done_0 : decode cX9_done 0 = .ok (.aload_n 0, 1) := by decide +kernel
theorem dX9_done_1 : decode cX9_done 1 = .ok (.getfield 10, 3) := by decide +kernel
theorem dX9_done_4 : decode cX9_done 4 = .ok (.iload_n 1, 1) := by decide +kernel
theorem dX9_done_5 : decode cX9_done 5 = .ok (.invokevirtual 119, 3) := by decide +kernel
theorem dX9_done_8 : decode cX9_done 8 = .ok (.ifCond .ne 9, 3) := by decide +kernel
theorem dX9_done_11 : decode cX9_done 11 = .ok (.aload_n 0, 1) := by decide +kernel
theorem dX9_done_12 : decode cX9_done 12 = .ok (.iconst (-1), 1) := by decide +kernel
theorem dX9_done_13 : decode cX9_done 13 = .ok (.invokevirtual 79, 3) := by decide +kernel
theorem dX9_done_16 : decode cX9_done 16 = .ok (.ireturn, 1) := by decide +kernel
theorem dX9_done_17 : decode cX9_done 17 = .ok (.iload_n 2, 1) := by decide +kernel
theorem dX9_done_18 : decode cX9_done 18 = .ok (.ifCond .lt 8, 3) := by decide +kernel
theorem dX9_done_21 : decode cX9_done 21 = .ok (.iload_n 2, 1) := by decide +kernel
theorem dX9_done_22 : decode cX9_done 22 = .ok (.iconst 3, 1) := by decide +kernel
theorem dX9_done_23 : decode cX9_done 23 = .ok (.if_icmp .le 10, 3) := by decide +kernel
theorem dX9_done_26 : decode cX9_done 26 = .ok (.aload_n 0, 1) := by decide +kernel
theorem dX9_done_27 : decode cX9_done 27 = .ok (.bipush (-2), 2) := by decide +kernel
theorem dX9_done_29 : decode cX9_done 29 = .ok (.invokevirtual 79, 3) := by decide +kernel
theorem dX9_done_32 : decode cX9_done 32 = .ok (.ireturn, 1) := by decide +kernel
theorem dX9_done_33 : decode cX9_done 33 = .ok (.aload_n 0, 1) := by decide +kernel
theorem dX9_done_34 : decode cX9_done 34 = .ok (.getfield 10, 3) := by decide +kernel
theorem dX9_done_37 : decode cX9_done 37 = .ok (.iload_n 1, 1) := by decide +kernel
theorem dX9_done_38 : decode cX9_done 38 = .ok (.invokevirtual 122, 3) := by decide +kernel
theorem dX9_done_41 : decode cX9_done 41 = .ok (.istore_n 3, 1) := by decide +kernel
theorem dX9_done_42 : decode cX9_done 42 = .ok (.aload_n 0, 1) := by decide +kernel
theorem dX9_done_43 : decode cX9_done 43 = .ok (.iload_n 1, 1) := by decide +kernel
theorem dX9_done_44 : decode cX9_done 44 = .ok (.invokevirtual 177, 3) := by decide +kernel
theorem dX9_done_47 : decode cX9_done 47 = .ok (.iload_n 2, 1) := by decide +kernel
theorem dX9_done_48 : decode cX9_done 48 = .ok (.tableswitch 59 0 2 #[28, 36, 47], 28) := by decide +kernel
theorem dX9_done_76 : decode cX9_done 76 = .ok (.aload_n 0, 1) := by decide +kernel
theorem dX9_done_77 : decode cX9_done 77 = .ok (.getfield 47, 3) := by decide +kernel
theorem dX9_done_80 : decode cX9_done 80 = .ok (.invokevirtual 187, 3) := by decide +kernel
theorem dX9_done_83 : decode cX9_done 83 = .ok (.ireturn, 1) := by decide +kernel
theorem dX9_done_84 : decode cX9_done 84 = .ok (.aload_n 0, 1) := by decide +kernel
theorem dX9_done_85 : decode cX9_done 85 = .ok (.getfield 47, 3) := by decide +kernel
theorem dX9_done_88 : decode cX9_done 88 = .ok (.invokevirtual 187, 3) := by decide +kernel
theorem dX9_done_91 : decode cX9_done 91 = .ok (.invokestatic 190, 3) := by decide +kernel
theorem dX9_done_94 : decode cX9_done 94 = .ok (.ireturn, 1) := by decide +kernel
theorem dX9_done_95 : decode cX9_done 95 = .ok (.iload_n 3, 1) := by decide +kernel
theorem dX9_done_96 : decode cX9_done 96 = .ok (.aload_n 0, 1) := by decide +kernel
theorem dX9_done_97 : decode cX9_done 97 = .ok (.getfield 47, 3) := by decide +kernel
theorem dX9_done_100 : decode cX9_done 100 = .ok (.invokevirtual 195, 3) := by decide +kernel
theorem dX9_done_103 : decode cX9_done 103 = .ok (.iconst (-1), 1) := by decide +kernel
theorem dX9_done_104 : decode cX9_done 104 = .ok (.ixor, 1) := by decide +kernel
theorem dX9_done_105 : decode cX9_done 105 = .ok (.iand, 1) := by decide +kernel
theorem dX9_done_106 : decode cX9_done 106 = .ok (.ireturn, 1) := by decide +kernel
theorem dX9_done_107 : decode cX9_done 107 = .ok (.aload_n 0, 1) := by decide +kernel
theorem dX9_done_108 : decode cX9_done 108 = .ok (.getfield 47, 3) := by decide +kernel
theorem dX9_done_111 : decode cX9_done 111 = .ok (.invokevirtual 195, 3) := by decide +kernel
theorem dX9_done_114 : decode cX9_done 114 = .ok (.iload_n 3, 1) := by decide +kernel
theorem dX9_done_115 : decode cX9_done 115 = .ok (.iconst (-1), 1) := by decide +kernel
theorem dX9_done_116 : decode cX9_done 116 = .ok (.ixor, 1) := by decide +kernel
theorem dX9_done_117 : decode cX9_done 117 = .ok (.iand, 1) := by decide +kernel
theorem dX9_done_118 : decode cX9_done 118 = .ok (.ireturn, 1) := by decide +kernel
theorem dX9_when_0 : decode cX9_when 0 = .ok (.aload_n 0, 1) := by decide +kernel
theorem dX9_when_1 : decode cX9_when 1 = .ok (.getfield 10, 3) := by decide +kernel
theorem dX9_when_4 : decode cX9_when 4 = .ok (.iload_n 1, 1) := by decide +kernel
theorem dX9_when_5 : decode cX9_when 5 = .ok (.invokevirtual 119, 3) := by decide +kernel
theorem dX9_when_8 : decode cX9_when 8 = .ok (.ifCond .eq 14, 3) := by decide +kernel
theorem dX9_when_11 : decode cX9_when 11 = .ok (.aload_n 0, 1) := by decide +kernel
theorem dX9_when_12 : decode cX9_when 12 = .ok (.getfield 10, 3) := by decide +kernel
theorem dX9_when_15 : decode cX9_when 15 = .ok (.iload_n 2, 1) := by decide +kernel
theorem dX9_when_16 : decode cX9_when 16 = .ok (.invokevirtual 111, 3) := by decide +kernel
theorem dX9_when_19 : decode cX9_when 19 = .ok (.ifCond .ne 9, 3) := by decide +kernel
theorem dX9_when_22 : decode cX9_when 22 = .ok (.aload_n 0, 1) := by decide +kernel
theorem dX9_when_23 : decode cX9_when 23 = .ok (.iconst (-1), 1) := by decide +kernel
theorem dX9_when_24 : decode cX9_when 24 = .ok (.invokevirtual 79, 3) := by decide +kernel
theorem dX9_when_27 : decode cX9_when 27 = .ok (.ireturn, 1) := by decide +kernel
theorem dX9_when_28 : decode cX9_when 28 = .ok (.aload_n 0, 1) := by decide +kernel
theorem dX9_when_29 : decode cX9_when 29 = .ok (.iload_n 1, 1) := by decide +kernel
theorem dX9_when_30 : decode cX9_when 30 = .ok (.invokevirtual 177, 3) := by decide +kernel
theorem dX9_when_33 : decode cX9_when 33 = .ok (.aload_n 0, 1) := by decide +kernel
theorem dX9_when_34 : decode cX9_when 34 = .ok (.getfield 47, 3) := by decide +kernel
theorem dX9_when_37 : decode cX9_when 37 = .ok (.iload_n 2, 1) := by decide +kernel
theorem dX9_when_38 : decode cX9_when 38 = .ok (.invokevirtual 198, 3) := by decide +kernel
theorem dX9_when_41 : decode cX9_when 41 = .ok (.ireturn, 1) := by decide +kernel
theorem dX9_instead_0 : decode cX9_instead 0 = .ok (.aload_n 0, 1) := by decide +kernel
theorem dX9_instead_1 : decode cX9_instead 1 = .ok (.getfield 10, 3) := by decide +kernel
theorem dX9_instead_4 : decode cX9_instead 4 = .ok (.iload_n 1, 1) := by decide +kernel
theorem dX9_instead_5 : decode cX9_instead 5 = .ok (.invokevirtual 119, 3) := by decide +kernel
theorem dX9_instead_8 : decode cX9_instead 8 = .ok (.ifCond .ne 9, 3) := by decide +kernel
theorem dX9_instead_11 : decode cX9_instead 11 = .ok (.aload_n 0, 1) := by decide +kernel
theorem dX9_instead_12 : decode cX9_instead 12 = .ok (.iconst (-1), 1) := by decide +kernel
theorem dX9_instead_13 : decode cX9_instead 13 = .ok (.invokevirtual 79, 3) := by decide +kernel
theorem dX9_instead_16 : decode cX9_instead 16 = .ok (.ireturn, 1) := by decide +kernel
theorem dX9_instead_17 : decode cX9_instead 17 = .ok (.iload_n 2, 1) := by decide +kernel
theorem dX9_instead_18 : decode cX9_instead 18 = .ok (.ifCond .ge 10, 3) := by decide +kernel
theorem dX9_instead_21 : decode cX9_instead 21 = .ok (.aload_n 0, 1) := by decide +kernel
theorem dX9_instead_22 : decode cX9_instead 22 = .ok (.bipush (-4), 2) := by decide +kernel
theorem dX9_instead_24 : decode cX9_instead 24 = .ok (.invokevirtual 79, 3) := by decide +kernel
theorem dX9_instead_27 : decode cX9_instead 27 = .ok (.ireturn, 1) := by decide +kernel
theorem dX9_instead_28 : decode cX9_instead 28 = .ok (.iload_n 2, 1) := by decide +kernel
theorem dX9_instead_29 : decode cX9_instead 29 = .ok (.sipush 255, 3) := by decide +kernel
theorem dX9_instead_32 : decode cX9_instead 32 = .ok (.if_icmp .le 10, 3) := by decide +kernel
theorem dX9_instead_35 : decode cX9_instead 35 = .ok (.aload_n 0, 1) := by decide +kernel
theorem dX9_instead_36 : decode cX9_instead 36 = .ok (.bipush (-6), 2) := by decide +kernel
theorem dX9_instead_38 : decode cX9_instead 38 = .ok (.invokevirtual 79, 3) := by decide +kernel
theorem dX9_instead_41 : decode cX9_instead 41 = .ok (.ireturn, 1) := by decide +kernel
theorem dX9_instead_42 : decode cX9_instead 42 = .ok (.iload_n 3, 1) := by decide +kernel
theorem dX9_instead_43 : decode cX9_instead 43 = .ok (.invokestatic 174, 3) := by decide +kernel
theorem dX9_instead_46 : decode cX9_instead 46 = .ok (.ifCond .eq 10, 3) := by decide +kernel
theorem dX9_instead_49 : decode cX9_instead 49 = .ok (.aload_n 0, 1) := by decide +kernel
theorem dX9_instead_50 : decode cX9_instead 50 = .ok (.bipush (-2), 2) := by decide +kernel
theorem dX9_instead_52 : decode cX9_instead 52 = .ok (.invokevirtual 79, 3) := by decide +kernel
theorem dX9_instead_55 : decode cX9_instead 55 = .ok (.ireturn, 1) := by decide +kernel
theorem dX9_instead_56 : decode cX9_instead 56 = .ok (.aload_n 0, 1) := by decide +kernel
theorem dX9_instead_57 : decode cX9_instead 57 = .ok (.getfield 10, 3) := by decide +kernel
theorem dX9_instead_60 : decode cX9_instead 60 = .ok (.iload_n 1, 1) := by decide +kernel
theorem dX9_instead_61 : decode cX9_instead 61 = .ok (.invokevirtual 122, 3) := by decide +kernel
theorem dX9_instead_64 : decode cX9_instead 64 = .ok (.istore 4, 2) := by decide +kernel
theorem dX9_instead_66 : decode cX9_instead 66 = .ok (.aload_n 0, 1) := by decide +kernel
theorem dX9_instead_67 : decode cX9_instead 67 = .ok (.getfield 47, 3) := by decide +kernel
theorem dX9_instead_70 : decode cX9_instead 70 = .ok (.aload_n 0, 1) := by decide +kernel
theorem dX9_instead_71 : decode cX9_instead 71 = .ok (.getfield 10, 3) := by decide +kernel
theorem dX9_instead_74 : decode cX9_instead 74 = .ok (.iload 4, 2) := by decide +kernel
theorem dX9_instead_76 : decode cX9_instead 76 = .ok (.iload_n 2, 1) := by decide +kernel
theorem dX9_instead_77 : decode cX9_instead 77 = .ok (.iconst (-1), 1) := by decide +kernel
theorem dX9_instead_78 : decode cX9_instead 78 = .ok (.ixor, 1) := by decide +kernel
theorem dX9_instead_79 : decode cX9_instead 79 = .ok (.iand, 1) := by decide +kernel
theorem dX9_instead_80 : decode cX9_instead 80 = .ok (.iconst 0, 1) := by decide +kernel
theorem dX9_instead_81 : decode cX9_instead 81 = .ok (.invokevirtual 201, 3) := by decide +kernel
theorem dX9_instead_84 : decode cX9_instead 84 = .ok (.istore 5, 2) := by decide +kernel
theorem dX9_instead_86 : decode cX9_instead 86 = .ok (.iload_n 3, 1) := by decide +kernel
theorem dX9_instead_87 : decode cX9_instead 87 = .ok (.ifCond .ne 8, 3) := by decide +kernel
theorem dX9_instead_90 : decode cX9_instead 90 = .ok (.iload 5, 2) := by decide +kernel
theorem dX9_instead_92 : decode cX9_instead 92 = .ok (.goto 22, 3) := by decide +kernel
theorem dX9_instead_95 : decode cX9_instead 95 = .ok (.iload 5, 2) := by decide +kernel
theorem dX9_instead_97 : decode cX9_instead 97 = .ok (.aload_n 0, 1) := by decide +kernel
theorem dX9_instead_98 : decode cX9_instead 98 = .ok (.getfield 47, 3) := by decide +kernel
theorem dX9_instead_101 : decode cX9_instead 101 = .ok (.aload_n 0, 1) := by decide +kernel
theorem dX9_instead_102 : decode cX9_instead 102 = .ok (.getfield 10, 3) := by decide +kernel
theorem dX9_instead_105 : decode cX9_instead 105 = .ok (.iload 4, 2) := by decide +kernel
theorem dX9_instead_107 : decode cX9_instead 107 = .ok (.iconst 0, 1) := by decide +kernel
theorem dX9_instead_108 : decode cX9_instead 108 = .ok (.invokevirtual 201, 3) := by decide +kernel
theorem dX9_instead_111 : decode cX9_instead 111 = .ok (.iconst (-1), 1) := by decide +kernel
theorem dX9_instead_112 : decode cX9_instead 112 = .ok (.ixor, 1) := by decide +kernel
theorem dX9_instead_113 : decode cX9_instead 113 = .ok (.iand, 1) := by decide +kernel
theorem dX9_instead_114 : decode cX9_instead 114 = .ok (.ireturn, 1) := by decide +kernel
theorem dX9_stopped_0 : decode cX9_stopped 0 = .ok (.aload_n 0, 1) := by decide +kernel
theorem dX9_stopped_1 : decode cX9_stopped 1 = .ok (.getfield 10, 3) := by decide +kernel
theorem dX9_stopped_4 : decode cX9_stopped 4 = .ok (.iload_n 1, 1) := by decide +kernel
theorem dX9_stopped_5 : decode cX9_stopped 5 = .ok (.invokevirtual 119, 3) := by decide +kernel
theorem dX9_stopped_8 : decode cX9_stopped 8 = .ok (.ifCond .eq 14, 3) := by decide +kernel
theorem dX9_stopped_11 : decode cX9_stopped 11 = .ok (.aload_n 0, 1) := by decide +kernel
theorem dX9_stopped_12 : decode cX9_stopped 12 = .ok (.getfield 10, 3) := by decide +kernel
theorem dX9_stopped_15 : decode cX9_stopped 15 = .ok (.iload_n 2, 1) := by decide +kernel
theorem dX9_stopped_16 : decode cX9_stopped 16 = .ok (.invokevirtual 111, 3) := by decide +kernel
theorem dX9_stopped_19 : decode cX9_stopped 19 = .ok (.ifCond .ne 9, 3) := by decide +kernel
theorem dX9_stopped_22 : decode cX9_stopped 22 = .ok (.aload_n 0, 1) := by decide +kernel
theorem dX9_stopped_23 : decode cX9_stopped 23 = .ok (.iconst (-1), 1) := by decide +kernel
theorem dX9_stopped_24 : decode cX9_stopped 24 = .ok (.invokevirtual 79, 3) := by decide +kernel
theorem dX9_stopped_27 : decode cX9_stopped 27 = .ok (.ireturn, 1) := by decide +kernel
theorem dX9_stopped_28 : decode cX9_stopped 28 = .ok (.aload_n 0, 1) := by decide +kernel
theorem dX9_stopped_29 : decode cX9_stopped 29 = .ok (.getfield 61, 3) := by decide +kernel
theorem dX9_stopped_32 : decode cX9_stopped 32 = .ok (.aload_n 0, 1) := by decide +kernel
theorem dX9_stopped_33 : decode cX9_stopped 33 = .ok (.getfield 10, 3) := by decide +kernel
theorem dX9_stopped_36 : decode cX9_stopped 36 = .ok (.aload_n 0, 1) := by decide +kernel
theorem dX9_stopped_37 : decode cX9_stopped 37 = .ok (.getfield 10, 3) := by decide +kernel
theorem dX9_stopped_40 : decode cX9_stopped 40 = .ok (.iload_n 1, 1) := by decide +kernel
theorem dX9_stopped_41 : decode cX9_stopped 41 = .ok (.invokevirtual 122, 3) := by decide +kernel
theorem dX9_stopped_44 : decode cX9_stopped 44 = .ok (.iconst 1, 1) := by decide +kernel
theorem dX9_stopped_45 : decode cX9_stopped 45 = .ok (.iload_n 2, 1) := by decide +kernel
theorem dX9_stopped_46 : decode cX9_stopped 46 = .ok (.ishl, 1) := by decide +kernel
theorem dX9_stopped_47 : decode cX9_stopped 47 = .ok (.invokevirtual 205, 3) := by decide +kernel
theorem dX9_stopped_50 : decode cX9_stopped 50 = .ok (.ireturn, 1) := by decide +kernel
theorem dX9_allStopped_0 : decode cX9_allStopped 0 = .ok (.aload_n 0, 1) := by decide +kernel
theorem dX9_allStopped_1 : decode cX9_allStopped 1 = .ok (.getfield 10, 3) := by decide +kernel
theorem dX9_allStopped_4 : decode cX9_allStopped 4 = .ok (.iload_n 1, 1) := by decide +kernel
theorem dX9_allStopped_5 : decode cX9_allStopped 5 = .ok (.invokevirtual 119, 3) := by decide +kernel
theorem dX9_allStopped_8 : decode cX9_allStopped 8 = .ok (.ifCond .ne 9, 3) := by decide +kernel
theorem dX9_allStopped_11 : decode cX9_allStopped 11 = .ok (.aload_n 0, 1) := by decide +kernel
theorem dX9_allStopped_12 : decode cX9_allStopped 12 = .ok (.iconst (-1), 1) := by decide +kernel
theorem dX9_allStopped_13 : decode cX9_allStopped 13 = .ok (.invokevirtual 79, 3) := by decide +kernel
theorem dX9_allStopped_16 : decode cX9_allStopped 16 = .ok (.ireturn, 1) := by decide +kernel
theorem dX9_allStopped_17 : decode cX9_allStopped 17 = .ok (.iload_n 2, 1) := by decide +kernel
theorem dX9_allStopped_18 : decode cX9_allStopped 18 = .ok (.ifCond .ge 10, 3) := by decide +kernel
theorem dX9_allStopped_21 : decode cX9_allStopped 21 = .ok (.aload_n 0, 1) := by decide +kernel
theorem dX9_allStopped_22 : decode cX9_allStopped 22 = .ok (.bipush (-4), 2) := by decide +kernel
theorem dX9_allStopped_24 : decode cX9_allStopped 24 = .ok (.invokevirtual 79, 3) := by decide +kernel
theorem dX9_allStopped_27 : decode cX9_allStopped 27 = .ok (.ireturn, 1) := by decide +kernel
theorem dX9_allStopped_28 : decode cX9_allStopped 28 = .ok (.iload_n 2, 1) := by decide +kernel
theorem dX9_allStopped_29 : decode cX9_allStopped 29 = .ok (.aload_n 0, 1) := by decide +kernel
theorem dX9_allStopped_30 : decode cX9_allStopped 30 = .ok (.getfield 10, 3) := by decide +kernel
theorem dX9_allStopped_33 : decode cX9_allStopped 33 = .ok (.invokevirtual 208, 3) := by decide +kernel
theorem dX9_allStopped_36 : decode cX9_allStopped 36 = .ok (.if_icmp .le 10, 3) := by decide +kernel
theorem dX9_allStopped_39 : decode cX9_allStopped 39 = .ok (.aload_n 0, 1) := by decide +kernel
theorem dX9_allStopped_40 : decode cX9_allStopped 40 = .ok (.bipush (-6), 2) := by decide +kernel
theorem dX9_allStopped_42 : decode cX9_allStopped 42 = .ok (.invokevirtual 79, 3) := by decide +kernel
theorem dX9_allStopped_45 : decode cX9_allStopped 45 = .ok (.ireturn, 1) := by decide +kernel
theorem dX9_allStopped_46 : decode cX9_allStopped 46 = .ok (.aload_n 0, 1) := by decide +kernel
theorem dX9_allStopped_47 : decode cX9_allStopped 47 = .ok (.getfield 61, 3) := by decide +kernel
theorem dX9_allStopped_50 : decode cX9_allStopped 50 = .ok (.aload_n 0, 1) := by decide +kernel
theorem dX9_allStopped_51 : decode cX9_allStopped 51 = .ok (.getfield 10, 3) := by decide +kernel
theorem dX9_allStopped_54 : decode cX9_allStopped 54 = .ok (.aload_n 0, 1) := by decide +kernel
theorem dX9_allStopped_55 : decode cX9_allStopped 55 = .ok (.getfield 10, 3) := by decide +kernel
theorem dX9_allStopped_58 : decode cX9_allStopped 58 = .ok (.iload_n 1, 1) := by decide +kernel
theorem dX9_allStopped_59 : decode cX9_allStopped 59 = .ok (.invokevirtual 122, 3) := by decide +kernel
theorem dX9_allStopped_62 : decode cX9_allStopped 62 = .ok (.iload_n 2, 1) := by decide +kernel
theorem dX9_allStopped_63 : decode cX9_allStopped 63 = .ok (.invokevirtual 205, 3) := by decide +kernel
theorem dX9_allStopped_66 : decode cX9_allStopped 66 = .ok (.ireturn, 1) := by decide +kernel
theorem dX9_agrees_0 : decode cX9_agrees 0 = .ok (.aload_n 0, 1) := by decide +kernel
theorem dX9_agrees_1 : decode cX9_agrees 1 = .ok (.getfield 10, 3) := by decide +kernel
theorem dX9_agrees_4 : decode cX9_agrees 4 = .ok (.iload_n 1, 1) := by decide +kernel
theorem dX9_agrees_5 : decode cX9_agrees 5 = .ok (.invokevirtual 119, 3) := by decide +kernel
theorem dX9_agrees_8 : decode cX9_agrees 8 = .ok (.ifCond .ne 9, 3) := by decide +kernel
theorem dX9_agrees_11 : decode cX9_agrees 11 = .ok (.aload_n 0, 1) := by decide +kernel
theorem dX9_agrees_12 : decode cX9_agrees 12 = .ok (.iconst (-1), 1) := by decide +kernel
theorem dX9_agrees_13 : decode cX9_agrees 13 = .ok (.invokevirtual 79, 3) := by decide +kernel
theorem dX9_agrees_16 : decode cX9_agrees 16 = .ok (.ireturn, 1) := by decide +kernel
theorem dX9_agrees_17 : decode cX9_agrees 17 = .ok (.iload_n 2, 1) := by decide +kernel
theorem dX9_agrees_18 : decode cX9_agrees 18 = .ok (.invokestatic 174, 3) := by decide +kernel
theorem dX9_agrees_21 : decode cX9_agrees 21 = .ok (.ifCond .eq 10, 3) := by decide +kernel
theorem dX9_agrees_24 : decode cX9_agrees 24 = .ok (.aload_n 0, 1) := by decide +kernel
theorem dX9_agrees_25 : decode cX9_agrees 25 = .ok (.bipush (-2), 2) := by decide +kernel
theorem dX9_agrees_27 : decode cX9_agrees 27 = .ok (.invokevirtual 79, 3) := by decide +kernel
theorem dX9_agrees_30 : decode cX9_agrees 30 = .ok (.ireturn, 1) := by decide +kernel
theorem dX9_agrees_31 : decode cX9_agrees 31 = .ok (.aload_n 0, 1) := by decide +kernel
theorem dX9_agrees_32 : decode cX9_agrees 32 = .ok (.getfield 61, 3) := by decide +kernel
theorem dX9_agrees_35 : decode cX9_agrees 35 = .ok (.aload_n 0, 1) := by decide +kernel
theorem dX9_agrees_36 : decode cX9_agrees 36 = .ok (.getfield 10, 3) := by decide +kernel
theorem dX9_agrees_39 : decode cX9_agrees 39 = .ok (.aload_n 0, 1) := by decide +kernel
theorem dX9_agrees_40 : decode cX9_agrees 40 = .ok (.getfield 10, 3) := by decide +kernel
theorem dX9_agrees_43 : decode cX9_agrees 43 = .ok (.iload_n 1, 1) := by decide +kernel
theorem dX9_agrees_44 : decode cX9_agrees 44 = .ok (.invokevirtual 122, 3) := by decide +kernel
theorem dX9_agrees_47 : decode cX9_agrees 47 = .ok (.iload_n 2, 1) := by decide +kernel
theorem dX9_agrees_48 : decode cX9_agrees 48 = .ok (.invokevirtual 211, 3) := by decide +kernel
theorem dX9_agrees_51 : decode cX9_agrees 51 = .ok (.ireturn, 1) := by decide +kernel
theorem dX9_bring_0 : decode cX9_bring 0 = .ok (.aload_n 0, 1) := by decide +kernel
theorem dX9_bring_1 : decode cX9_bring 1 = .ok (.getfield 10, 3) := by decide +kernel
theorem dX9_bring_4 : decode cX9_bring 4 = .ok (.iload_n 1, 1) := by decide +kernel
theorem dX9_bring_5 : decode cX9_bring 5 = .ok (.invokevirtual 119, 3) := by decide +kernel
theorem dX9_bring_8 : decode cX9_bring 8 = .ok (.ifCond .eq 14, 3) := by decide +kernel
theorem dX9_bring_11 : decode cX9_bring 11 = .ok (.aload_n 0, 1) := by decide +kernel
theorem dX9_bring_12 : decode cX9_bring 12 = .ok (.getfield 10, 3) := by decide +kernel
theorem dX9_bring_15 : decode cX9_bring 15 = .ok (.iload_n 2, 1) := by decide +kernel
theorem dX9_bring_16 : decode cX9_bring 16 = .ok (.invokevirtual 111, 3) := by decide +kernel
theorem dX9_bring_19 : decode cX9_bring 19 = .ok (.ifCond .ne 9, 3) := by decide +kernel
theorem dX9_bring_22 : decode cX9_bring 22 = .ok (.aload_n 0, 1) := by decide +kernel
theorem dX9_bring_23 : decode cX9_bring 23 = .ok (.iconst (-1), 1) := by decide +kernel
theorem dX9_bring_24 : decode cX9_bring 24 = .ok (.invokevirtual 79, 3) := by decide +kernel
theorem dX9_bring_27 : decode cX9_bring 27 = .ok (.ireturn, 1) := by decide +kernel
theorem dX9_bring_28 : decode cX9_bring 28 = .ok (.aload_n 0, 1) := by decide +kernel
theorem dX9_bring_29 : decode cX9_bring 29 = .ok (.getfield 61, 3) := by decide +kernel
theorem dX9_bring_32 : decode cX9_bring 32 = .ok (.aload_n 0, 1) := by decide +kernel
theorem dX9_bring_33 : decode cX9_bring 33 = .ok (.getfield 10, 3) := by decide +kernel
theorem dX9_bring_36 : decode cX9_bring 36 = .ok (.aload_n 0, 1) := by decide +kernel
theorem dX9_bring_37 : decode cX9_bring 37 = .ok (.getfield 10, 3) := by decide +kernel
theorem dX9_bring_40 : decode cX9_bring 40 = .ok (.iload_n 1, 1) := by decide +kernel
theorem dX9_bring_41 : decode cX9_bring 41 = .ok (.invokevirtual 122, 3) := by decide +kernel
theorem dX9_bring_44 : decode cX9_bring 44 = .ok (.iload_n 2, 1) := by decide +kernel
theorem dX9_bring_45 : decode cX9_bring 45 = .ok (.invokevirtual 214, 3) := by decide +kernel
theorem dX9_bring_48 : decode cX9_bring 48 = .ok (.ireturn, 1) := by decide +kernel
theorem dX9_empty_0 : decode cX9_empty 0 = .ok (.iload_n 1, 1) := by decide +kernel
theorem dX9_empty_1 : decode cX9_empty 1 = .ok (.ifCond .lt 8, 3) := by decide +kernel
theorem dX9_empty_4 : decode cX9_empty 4 = .ok (.iload_n 1, 1) := by decide +kernel
theorem dX9_empty_5 : decode cX9_empty 5 = .ok (.iconst 2, 1) := by decide +kernel
theorem dX9_empty_6 : decode cX9_empty 6 = .ok (.if_icmp .le 10, 3) := by decide +kernel
theorem dX9_empty_9 : decode cX9_empty 9 = .ok (.aload_n 0, 1) := by decide +kernel
theorem dX9_empty_10 : decode cX9_empty 10 = .ok (.bipush (-2), 2) := by decide +kernel
theorem dX9_empty_12 : decode cX9_empty 12 = .ok (.invokevirtual 79, 3) := by decide +kernel
theorem dX9_empty_15 : decode cX9_empty 15 = .ok (.ireturn, 1) := by decide +kernel
theorem dX9_empty_16 : decode cX9_empty 16 = .ok (.iload_n 1, 1) := by decide +kernel
theorem dX9_empty_17 : decode cX9_empty 17 = .ok (.ifCond .ne 17, 3) := by decide +kernel
theorem dX9_empty_20 : decode cX9_empty 20 = .ok (.aload_n 0, 1) := by decide +kernel
theorem dX9_empty_21 : decode cX9_empty 21 = .ok (.getfield 47, 3) := by decide +kernel
theorem dX9_empty_24 : decode cX9_empty 24 = .ok (.aload_n 0, 1) := by decide +kernel
theorem dX9_empty_25 : decode cX9_empty 25 = .ok (.getfield 10, 3) := by decide +kernel
theorem dX9_empty_28 : decode cX9_empty 28 = .ok (.iconst 0, 1) := by decide +kernel
theorem dX9_empty_29 : decode cX9_empty 29 = .ok (.iconst 0, 1) := by decide +kernel
theorem dX9_empty_30 : decode cX9_empty 30 = .ok (.invokevirtual 201, 3) := by decide +kernel
theorem dX9_empty_33 : decode cX9_empty 33 = .ok (.ireturn, 1) := by decide +kernel
theorem dX9_empty_34 : decode cX9_empty 34 = .ok (.aload_n 0, 1) := by decide +kernel
theorem dX9_empty_35 : decode cX9_empty 35 = .ok (.getfield 61, 3) := by decide +kernel
theorem dX9_empty_38 : decode cX9_empty 38 = .ok (.aload_n 0, 1) := by decide +kernel
theorem dX9_empty_39 : decode cX9_empty 39 = .ok (.getfield 10, 3) := by decide +kernel
theorem dX9_empty_42 : decode cX9_empty 42 = .ok (.invokevirtual 217, 3) := by decide +kernel
theorem dX9_empty_45 : decode cX9_empty 45 = .ok (.istore_n 2, 1) := by decide +kernel
theorem dX9_empty_46 : decode cX9_empty 46 = .ok (.iload_n 1, 1) := by decide +kernel
theorem dX9_empty_47 : decode cX9_empty 47 = .ok (.iconst 1, 1) := by decide +kernel
theorem dX9_empty_48 : decode cX9_empty 48 = .ok (.if_icmp .ne 7, 3) := by decide +kernel
theorem dX9_empty_51 : decode cX9_empty 51 = .ok (.iload_n 2, 1) := by decide +kernel
theorem dX9_empty_52 : decode cX9_empty 52 = .ok (.goto 15, 3) := by decide +kernel
theorem dX9_empty_55 : decode cX9_empty 55 = .ok (.aload_n 0, 1) := by decide +kernel
theorem dX9_empty_56 : decode cX9_empty 56 = .ok (.getfield 47, 3) := by decide +kernel
theorem dX9_empty_59 : decode cX9_empty 59 = .ok (.aload_n 0, 1) := by decide +kernel
theorem dX9_empty_60 : decode cX9_empty 60 = .ok (.getfield 10, 3) := by decide +kernel
theorem dX9_empty_63 : decode cX9_empty 63 = .ok (.iload_n 2, 1) := by decide +kernel
theorem dX9_empty_64 : decode cX9_empty 64 = .ok (.invokevirtual 220, 3) := by decide +kernel
theorem dX9_empty_67 : decode cX9_empty 67 = .ok (.ireturn, 1) := by decide +kernel
theorem dX9_had_0 : decode cX9_had 0 = .ok (.iload_n 1, 1) := by decide +kernel
theorem dX9_had_1 : decode cX9_had 1 = .ok (.invokestatic 174, 3) := by decide +kernel
theorem dX9_had_4 : decode cX9_had 4 = .ok (.ifCond .eq 10, 3) := by decide +kernel
theorem dX9_had_7 : decode cX9_had 7 = .ok (.aload_n 0, 1) := by decide +kernel
theorem dX9_had_8 : decode cX9_had 8 = .ok (.bipush (-2), 2) := by decide +kernel
theorem dX9_had_10 : decode cX9_had 10 = .ok (.invokevirtual 79, 3) := by decide +kernel
theorem dX9_had_13 : decode cX9_had 13 = .ok (.ireturn, 1) := by decide +kernel
theorem dX9_had_14 : decode cX9_had 14 = .ok (.aload_n 0, 1) := by decide +kernel
theorem dX9_had_15 : decode cX9_had 15 = .ok (.getfield 36, 3) := by decide +kernel
theorem dX9_had_18 : decode cX9_had 18 = .ok (.aload_n 0, 1) := by decide +kernel
theorem dX9_had_19 : decode cX9_had 19 = .ok (.getfield 10, 3) := by decide +kernel
theorem dX9_had_22 : decode cX9_had 22 = .ok (.invokevirtual 224, 3) := by decide +kernel
theorem dX9_had_25 : decode cX9_had 25 = .ok (.ifCond .ne 10, 3) := by decide +kernel
theorem dX9_had_28 : decode cX9_had 28 = .ok (.aload_n 0, 1) := by decide +kernel
theorem dX9_had_29 : decode cX9_had 29 = .ok (.bipush (-3), 2) := by decide +kernel
theorem dX9_had_31 : decode cX9_had 31 = .ok (.invokevirtual 79, 3) := by decide +kernel
theorem dX9_had_34 : decode cX9_had 34 = .ok (.ireturn, 1) := by decide +kernel
theorem dX9_had_35 : decode cX9_had 35 = .ok (.aload_n 0, 1) := by decide +kernel
theorem dX9_had_36 : decode cX9_had 36 = .ok (.getfield 54, 3) := by decide +kernel
theorem dX9_had_39 : decode cX9_had 39 = .ok (.aload_n 0, 1) := by decide +kernel
theorem dX9_had_40 : decode cX9_had 40 = .ok (.getfield 10, 3) := by decide +kernel
theorem dX9_had_43 : decode cX9_had 43 = .ok (.aload_n 0, 1) := by decide +kernel
theorem dX9_had_44 : decode cX9_had 44 = .ok (.getfield 36, 3) := by decide +kernel
theorem dX9_had_47 : decode cX9_had 47 = .ok (.invokevirtual 228, 3) := by decide +kernel
theorem dX9_had_50 : decode cX9_had 50 = .ok (.iload_n 1, 1) := by decide +kernel
theorem dX9_had_51 : decode cX9_had 51 = .ok (.ifCond .ne 13, 3) := by decide +kernel
theorem dX9_had_54 : decode cX9_had 54 = .ok (.aload_n 0, 1) := by decide +kernel
theorem dX9_had_55 : decode cX9_had 55 = .ok (.getfield 54, 3) := by decide +kernel
theorem dX9_had_58 : decode cX9_had 58 = .ok (.invokevirtual 232, 3) := by decide +kernel
theorem dX9_had_61 : decode cX9_had 61 = .ok (.goto 10, 3) := by decide +kernel
theorem dX9_had_64 : decode cX9_had 64 = .ok (.aload_n 0, 1) := by decide +kernel
theorem dX9_had_65 : decode cX9_had 65 = .ok (.getfield 54, 3) := by decide +kernel
theorem dX9_had_68 : decode cX9_had 68 = .ok (.invokevirtual 235, 3) := by decide +kernel
theorem dX9_had_71 : decode cX9_had 71 = .ok (.ireturn, 1) := by decide +kernel
theorem dX9_inIt_0 : decode cX9_inIt 0 = .ok (.iload_n 1, 1) := by decide +kernel
theorem dX9_inIt_1 : decode cX9_inIt 1 = .ok (.invokestatic 125, 3) := by decide +kernel
theorem dX9_inIt_4 : decode cX9_inIt 4 = .ok (.ifCond .ne 9, 3) := by decide +kernel
theorem dX9_inIt_7 : decode cX9_inIt 7 = .ok (.aload_n 0, 1) := by decide +kernel
theorem dX9_inIt_8 : decode cX9_inIt 8 = .ok (.iconst (-1), 1) := by decide +kernel
theorem dX9_inIt_9 : decode cX9_inIt 9 = .ok (.invokevirtual 238, 3) := by decide +kernel
theorem dX9_inIt_12 : decode cX9_inIt 12 = .ok (.lreturn, 1) := by decide +kernel
theorem dX9_inIt_13 : decode cX9_inIt 13 = .ok (.iload_n 2, 1) := by decide +kernel
theorem dX9_inIt_14 : decode cX9_inIt 14 = .ok (.invokestatic 174, 3) := by decide +kernel
theorem dX9_inIt_17 : decode cX9_inIt 17 = .ok (.ifCond .eq 10, 3) := by decide +kernel
theorem dX9_inIt_20 : decode cX9_inIt 20 = .ok (.aload_n 0, 1) := by decide +kernel
theorem dX9_inIt_21 : decode cX9_inIt 21 = .ok (.bipush (-2), 2) := by decide +kernel
theorem dX9_inIt_23 : decode cX9_inIt 23 = .ok (.invokevirtual 238, 3) := by decide +kernel
theorem dX9_inIt_26 : decode cX9_inIt 26 = .ok (.lreturn, 1) := by decide +kernel
theorem dX9_inIt_27 : decode cX9_inIt 27 = .ok (.aload_n 0, 1) := by decide +kernel
theorem dX9_inIt_28 : decode cX9_inIt 28 = .ok (.getfield 36, 3) := by decide +kernel
theorem dX9_inIt_31 : decode cX9_inIt 31 = .ok (.aload_n 0, 1) := by decide +kernel
theorem dX9_inIt_32 : decode cX9_inIt 32 = .ok (.getfield 10, 3) := by decide +kernel
theorem dX9_inIt_35 : decode cX9_inIt 35 = .ok (.invokevirtual 224, 3) := by decide +kernel
theorem dX9_inIt_38 : decode cX9_inIt 38 = .ok (.ifCond .ne 10, 3) := by decide +kernel
theorem dX9_inIt_41 : decode cX9_inIt 41 = .ok (.aload_n 0, 1) := by decide +kernel
theorem dX9_inIt_42 : decode cX9_inIt 42 = .ok (.bipush (-3), 2) := by decide +kernel
theorem dX9_inIt_44 : decode cX9_inIt 44 = .ok (.invokevirtual 238, 3) := by decide +kernel
theorem dX9_inIt_47 : decode cX9_inIt 47 = .ok (.lreturn, 1) := by decide +kernel
theorem dX9_inIt_48 : decode cX9_inIt 48 = .ok (.aload_n 0, 1) := by decide +kernel
theorem dX9_inIt_49 : decode cX9_inIt 49 = .ok (.getfield 54, 3) := by decide +kernel
theorem dX9_inIt_52 : decode cX9_inIt 52 = .ok (.aload_n 0, 1) := by decide +kernel
theorem dX9_inIt_53 : decode cX9_inIt 53 = .ok (.getfield 10, 3) := by decide +kernel
theorem dX9_inIt_56 : decode cX9_inIt 56 = .ok (.aload_n 0, 1) := by decide +kernel
theorem dX9_inIt_57 : decode cX9_inIt 57 = .ok (.getfield 36, 3) := by decide +kernel
theorem dX9_inIt_60 : decode cX9_inIt 60 = .ok (.invokevirtual 228, 3) := by decide +kernel
theorem dX9_inIt_63 : decode cX9_inIt 63 = .ok (.aload_n 0, 1) := by decide +kernel
theorem dX9_inIt_64 : decode cX9_inIt 64 = .ok (.getfield 54, 3) := by decide +kernel
theorem dX9_inIt_67 : decode cX9_inIt 67 = .ok (.iload_n 1, 1) := by decide +kernel
theorem dX9_inIt_68 : decode cX9_inIt 68 = .ok (.invokevirtual 242, 3) := by decide +kernel
theorem dX9_inIt_71 : decode cX9_inIt 71 = .ok (.i2l, 1) := by decide +kernel
theorem dX9_inIt_72 : decode cX9_inIt 72 = .ok (.aload_n 0, 1) := by decide +kernel
theorem dX9_inIt_73 : decode cX9_inIt 73 = .ok (.getfield 54, 3) := by decide +kernel
theorem dX9_inIt_76 : decode cX9_inIt 76 = .ok (.invokevirtual 232, 3) := by decide +kernel
theorem dX9_inIt_79 : decode cX9_inIt 79 = .ok (.i2l, 1) := by decide +kernel
theorem dX9_inIt_80 : decode cX9_inIt 80 = .ok (.iload_n 2, 1) := by decide +kernel
theorem dX9_inIt_81 : decode cX9_inIt 81 = .ok (.invokestatic 245, 3) := by decide +kernel
theorem dX9_inIt_84 : decode cX9_inIt 84 = .ok (.lreturn, 1) := by decide +kernel
theorem dX9_feel_0 : decode cX9_feel 0 = .ok (.iload_n 1, 1) := by decide +kernel
theorem dX9_feel_1 : decode cX9_feel 1 = .ok (.invokestatic 174, 3) := by decide +kernel
theorem dX9_feel_4 : decode cX9_feel 4 = .ok (.ifCond .eq 10, 3) := by decide +kernel
theorem dX9_feel_7 : decode cX9_feel 7 = .ok (.aload_n 0, 1) := by decide +kernel
theorem dX9_feel_8 : decode cX9_feel 8 = .ok (.bipush (-2), 2) := by decide +kernel
theorem dX9_feel_10 : decode cX9_feel 10 = .ok (.invokevirtual 79, 3) := by decide +kernel
theorem dX9_feel_13 : decode cX9_feel 13 = .ok (.ireturn, 1) := by decide +kernel
theorem dX9_feel_14 : decode cX9_feel 14 = .ok (.aload_n 0, 1) := by decide +kernel
theorem dX9_feel_15 : decode cX9_feel 15 = .ok (.getfield 36, 3) := by decide +kernel
theorem dX9_feel_18 : decode cX9_feel 18 = .ok (.aload_n 0, 1) := by decide +kernel
theorem dX9_feel_19 : decode cX9_feel 19 = .ok (.getfield 10, 3) := by decide +kernel
theorem dX9_feel_22 : decode cX9_feel 22 = .ok (.invokevirtual 224, 3) := by decide +kernel
theorem dX9_feel_25 : decode cX9_feel 25 = .ok (.ifCond .ne 10, 3) := by decide +kernel
theorem dX9_feel_28 : decode cX9_feel 28 = .ok (.aload_n 0, 1) := by decide +kernel
theorem dX9_feel_29 : decode cX9_feel 29 = .ok (.bipush (-3), 2) := by decide +kernel
theorem dX9_feel_31 : decode cX9_feel 31 = .ok (.invokevirtual 79, 3) := by decide +kernel
theorem dX9_feel_34 : decode cX9_feel 34 = .ok (.ireturn, 1) := by decide +kernel
theorem dX9_feel_35 : decode cX9_feel 35 = .ok (.aload_n 0, 1) := by decide +kernel
theorem dX9_feel_36 : decode cX9_feel 36 = .ok (.getfield 54, 3) := by decide +kernel
theorem dX9_feel_39 : decode cX9_feel 39 = .ok (.aload_n 0, 1) := by decide +kernel
theorem dX9_feel_40 : decode cX9_feel 40 = .ok (.getfield 10, 3) := by decide +kernel
theorem dX9_feel_43 : decode cX9_feel 43 = .ok (.aload_n 0, 1) := by decide +kernel
theorem dX9_feel_44 : decode cX9_feel 44 = .ok (.getfield 36, 3) := by decide +kernel
theorem dX9_feel_47 : decode cX9_feel 47 = .ok (.invokevirtual 228, 3) := by decide +kernel
theorem dX9_feel_50 : decode cX9_feel 50 = .ok (.aload_n 0, 1) := by decide +kernel
theorem dX9_feel_51 : decode cX9_feel 51 = .ok (.getfield 54, 3) := by decide +kernel
theorem dX9_feel_54 : decode cX9_feel 54 = .ok (.invokevirtual 249, 3) := by decide +kernel
theorem dX9_feel_57 : decode cX9_feel 57 = .ok (.istore_n 2, 1) := by decide +kernel
theorem dX9_feel_58 : decode cX9_feel 58 = .ok (.iload_n 2, 1) := by decide +kernel
theorem dX9_feel_59 : decode cX9_feel 59 = .ok (.bipush (-9), 2) := by decide +kernel
theorem dX9_feel_61 : decode cX9_feel 61 = .ok (.if_icmp .ne 6, 3) := by decide +kernel
theorem dX9_feel_64 : decode cX9_feel 64 = .ok (.bipush (-9), 2) := by decide +kernel
theorem dX9_feel_66 : decode cX9_feel 66 = .ok (.ireturn, 1) := by decide +kernel
theorem dX9_feel_67 : decode cX9_feel 67 = .ok (.iload_n 1, 1) := by decide +kernel
theorem dX9_feel_68 : decode cX9_feel 68 = .ok (.ifCond .ne 7, 3) := by decide +kernel
theorem dX9_feel_71 : decode cX9_feel 71 = .ok (.iload_n 2, 1) := by decide +kernel
theorem dX9_feel_72 : decode cX9_feel 72 = .ok (.goto 11, 3) := by decide +kernel
theorem dX9_feel_75 : decode cX9_feel 75 = .ok (.aload_n 0, 1) := by decide +kernel
theorem dX9_feel_76 : decode cX9_feel 76 = .ok (.getfield 54, 3) := by decide +kernel
theorem dX9_feel_79 : decode cX9_feel 79 = .ok (.iload_n 2, 1) := by decide +kernel
theorem dX9_feel_80 : decode cX9_feel 80 = .ok (.invokevirtual 252, 3) := by decide +kernel
theorem dX9_feel_83 : decode cX9_feel 83 = .ok (.ireturn, 1) := by decide +kernel
theorem dX9_which_0 : decode cX9_which 0 = .ok (.aload_n 0, 1) := by decide +kernel
theorem dX9_which_1 : decode cX9_which 1 = .ok (.getfield 10, 3) := by decide +kernel
theorem dX9_which_4 : decode cX9_which 4 = .ok (.iload_n 1, 1) := by decide +kernel
theorem dX9_which_5 : decode cX9_which 5 = .ok (.invokevirtual 119, 3) := by decide +kernel
theorem dX9_which_8 : decode cX9_which 8 = .ok (.ifCond .eq 14, 3) := by decide +kernel
theorem dX9_which_11 : decode cX9_which 11 = .ok (.aload_n 0, 1) := by decide +kernel
theorem dX9_which_12 : decode cX9_which 12 = .ok (.getfield 10, 3) := by decide +kernel
theorem dX9_which_15 : decode cX9_which 15 = .ok (.iload_n 2, 1) := by decide +kernel
theorem dX9_which_16 : decode cX9_which 16 = .ok (.invokevirtual 111, 3) := by decide +kernel
theorem dX9_which_19 : decode cX9_which 19 = .ok (.ifCond .ne 9, 3) := by decide +kernel
theorem dX9_which_22 : decode cX9_which 22 = .ok (.aload_n 0, 1) := by decide +kernel
theorem dX9_which_23 : decode cX9_which 23 = .ok (.iconst (-1), 1) := by decide +kernel
theorem dX9_which_24 : decode cX9_which 24 = .ok (.invokevirtual 79, 3) := by decide +kernel
theorem dX9_which_27 : decode cX9_which 27 = .ok (.ireturn, 1) := by decide +kernel
theorem dX9_which_28 : decode cX9_which 28 = .ok (.iload_n 3, 1) := by decide +kernel
theorem dX9_which_29 : decode cX9_which 29 = .ok (.ifCond .lt 8, 3) := by decide +kernel
theorem dX9_which_32 : decode cX9_which 32 = .ok (.iload_n 3, 1) := by decide +kernel
theorem dX9_which_33 : decode cX9_which 33 = .ok (.iconst 2, 1) := by decide +kernel
theorem dX9_which_34 : decode cX9_which 34 = .ok (.if_icmp .le 10, 3) := by decide +kernel
theorem dX9_which_37 : decode cX9_which 37 = .ok (.aload_n 0, 1) := by decide +kernel
theorem dX9_which_38 : decode cX9_which 38 = .ok (.bipush (-2), 2) := by decide +kernel
theorem dX9_which_40 : decode cX9_which 40 = .ok (.invokevirtual 79, 3) := by decide +kernel
theorem dX9_which_43 : decode cX9_which 43 = .ok (.ireturn, 1) := by decide +kernel
theorem dX9_which_44 : decode cX9_which 44 = .ok (.aload_n 0, 1) := by decide +kernel
theorem dX9_which_45 : decode cX9_which 45 = .ok (.getfield 36, 3) := by decide +kernel
theorem dX9_which_48 : decode cX9_which 48 = .ok (.aload_n 0, 1) := by decide +kernel
theorem dX9_which_49 : decode cX9_which 49 = .ok (.getfield 10, 3) := by decide +kernel
theorem dX9_which_52 : decode cX9_which 52 = .ok (.invokevirtual 224, 3) := by decide +kernel
theorem dX9_which_55 : decode cX9_which 55 = .ok (.ifCond .ne 10, 3) := by decide +kernel
theorem dX9_which_58 : decode cX9_which 58 = .ok (.aload_n 0, 1) := by decide +kernel
theorem dX9_which_59 : decode cX9_which 59 = .ok (.bipush (-3), 2) := by decide +kernel
theorem dX9_which_61 : decode cX9_which 61 = .ok (.invokevirtual 79, 3) := by decide +kernel
theorem dX9_which_64 : decode cX9_which 64 = .ok (.ireturn, 1) := by decide +kernel
theorem dX9_which_65 : decode cX9_which 65 = .ok (.aload_n 0, 1) := by decide +kernel
theorem dX9_which_66 : decode cX9_which 66 = .ok (.getfield 68, 3) := by decide +kernel
theorem dX9_which_69 : decode cX9_which 69 = .ok (.aload_n 0, 1) := by decide +kernel
theorem dX9_which_70 : decode cX9_which 70 = .ok (.getfield 10, 3) := by decide +kernel
theorem dX9_which_73 : decode cX9_which 73 = .ok (.aload_n 0, 1) := by decide +kernel
theorem dX9_which_74 : decode cX9_which 74 = .ok (.getfield 10, 3) := by decide +kernel
theorem dX9_which_77 : decode cX9_which 77 = .ok (.iload_n 1, 1) := by decide +kernel
theorem dX9_which_78 : decode cX9_which 78 = .ok (.invokevirtual 122, 3) := by decide +kernel
theorem dX9_which_81 : decode cX9_which 81 = .ok (.iload_n 2, 1) := by decide +kernel
theorem dX9_which_82 : decode cX9_which 82 = .ok (.iload_n 3, 1) := by decide +kernel
theorem dX9_which_83 : decode cX9_which 83 = .ok (.aload_n 0, 1) := by decide +kernel
theorem dX9_which_84 : decode cX9_which 84 = .ok (.getfield 36, 3) := by decide +kernel
theorem dX9_which_87 : decode cX9_which 87 = .ok (.invokevirtual 255, 3) := by decide +kernel
theorem dX9_which_90 : decode cX9_which 90 = .ok (.ireturn, 1) := by decide +kernel
theorem dX9_tray_0 : decode cX9_tray 0 = .ok (.iload_n 1, 1) := by decide +kernel
theorem dX9_tray_1 : decode cX9_tray 1 = .ok (.invokestatic 174, 3) := by decide +kernel
theorem dX9_tray_4 : decode cX9_tray 4 = .ok (.ifCond .eq 10, 3) := by decide +kernel
theorem dX9_tray_7 : decode cX9_tray 7 = .ok (.aload_n 0, 1) := by decide +kernel
theorem dX9_tray_8 : decode cX9_tray 8 = .ok (.bipush (-2), 2) := by decide +kernel
theorem dX9_tray_10 : decode cX9_tray 10 = .ok (.invokevirtual 79, 3) := by decide +kernel
theorem dX9_tray_13 : decode cX9_tray 13 = .ok (.ireturn, 1) := by decide +kernel
theorem dX9_tray_14 : decode cX9_tray 14 = .ok (.iload_n 1, 1) := by decide +kernel
theorem dX9_tray_15 : decode cX9_tray 15 = .ok (.ifCond .ne 13, 3) := by decide +kernel
theorem dX9_tray_18 : decode cX9_tray 18 = .ok (.aload_n 0, 1) := by decide +kernel
theorem dX9_tray_19 : decode cX9_tray 19 = .ok (.getfield 10, 3) := by decide +kernel
theorem dX9_tray_22 : decode cX9_tray 22 = .ok (.invokevirtual 259, 3) := by decide +kernel
theorem dX9_tray_25 : decode cX9_tray 25 = .ok (.goto 14, 3) := by decide +kernel
theorem dX9_tray_28 : decode cX9_tray 28 = .ok (.aload_n 0, 1) := by decide +kernel
theorem dX9_tray_29 : decode cX9_tray 29 = .ok (.getfield 75, 3) := by decide +kernel
theorem dX9_tray_32 : decode cX9_tray 32 = .ok (.aload_n 0, 1) := by decide +kernel
theorem dX9_tray_33 : decode cX9_tray 33 = .ok (.getfield 10, 3) := by decide +kernel
theorem dX9_tray_36 : decode cX9_tray 36 = .ok (.invokevirtual 262, 3) := by decide +kernel
theorem dX9_tray_39 : decode cX9_tray 39 = .ok (.ireturn, 1) := by decide +kernel
theorem dX9_onTray_0 : decode cX9_onTray 0 = .ok (.aload_n 0, 1) := by decide +kernel
theorem dX9_onTray_1 : decode cX9_onTray 1 = .ok (.getfield 10, 3) := by decide +kernel
theorem dX9_onTray_4 : decode cX9_onTray 4 = .ok (.iload_n 1, 1) := by decide +kernel
theorem dX9_onTray_5 : decode cX9_onTray 5 = .ok (.invokevirtual 119, 3) := by decide +kernel
theorem dX9_onTray_8 : decode cX9_onTray 8 = .ok (.ifCond .ne 9, 3) := by decide +kernel
theorem dX9_onTray_11 : decode cX9_onTray 11 = .ok (.aload_n 0, 1) := by decide +kernel
theorem dX9_onTray_12 : decode cX9_onTray 12 = .ok (.iconst (-1), 1) := by decide +kernel
theorem dX9_onTray_13 : decode cX9_onTray 13 = .ok (.invokevirtual 79, 3) := by decide +kernel
theorem dX9_onTray_16 : decode cX9_onTray 16 = .ok (.ireturn, 1) := by decide +kernel
theorem dX9_onTray_17 : decode cX9_onTray 17 = .ok (.aload_n 0, 1) := by decide +kernel
theorem dX9_onTray_18 : decode cX9_onTray 18 = .ok (.getfield 75, 3) := by decide +kernel
theorem dX9_onTray_21 : decode cX9_onTray 21 = .ok (.aload_n 0, 1) := by decide +kernel
theorem dX9_onTray_22 : decode cX9_onTray 22 = .ok (.getfield 10, 3) := by decide +kernel
theorem dX9_onTray_25 : decode cX9_onTray 25 = .ok (.aload_n 0, 1) := by decide +kernel
theorem dX9_onTray_26 : decode cX9_onTray 26 = .ok (.getfield 10, 3) := by decide +kernel
theorem dX9_onTray_29 : decode cX9_onTray 29 = .ok (.iload_n 1, 1) := by decide +kernel
theorem dX9_onTray_30 : decode cX9_onTray 30 = .ok (.invokevirtual 122, 3) := by decide +kernel
theorem dX9_onTray_33 : decode cX9_onTray 33 = .ok (.invokevirtual 265, 3) := by decide +kernel
theorem dX9_onTray_36 : decode cX9_onTray 36 = .ok (.ireturn, 1) := by decide +kernel
theorem dX9_guard_0 : decode cX9_guard 0 = .ok (.aload_n 0, 1) := by decide +kernel
theorem dX9_guard_1 : decode cX9_guard 1 = .ok (.getfield 10, 3) := by decide +kernel
theorem dX9_guard_4 : decode cX9_guard 4 = .ok (.iload_n 1, 1) := by decide +kernel
theorem dX9_guard_5 : decode cX9_guard 5 = .ok (.invokevirtual 119, 3) := by decide +kernel
theorem dX9_guard_8 : decode cX9_guard 8 = .ok (.ifCond .ne 9, 3) := by decide +kernel
theorem dX9_guard_11 : decode cX9_guard 11 = .ok (.aload_n 0, 1) := by decide +kernel
theorem dX9_guard_12 : decode cX9_guard 12 = .ok (.iconst (-1), 1) := by decide +kernel
theorem dX9_guard_13 : decode cX9_guard 13 = .ok (.invokevirtual 79, 3) := by decide +kernel
theorem dX9_guard_16 : decode cX9_guard 16 = .ok (.ireturn, 1) := by decide +kernel
theorem dX9_guard_17 : decode cX9_guard 17 = .ok (.iload_n 2, 1) := by decide +kernel
theorem dX9_guard_18 : decode cX9_guard 18 = .ok (.invokestatic 174, 3) := by decide +kernel
theorem dX9_guard_21 : decode cX9_guard 21 = .ok (.ifCond .eq 10, 3) := by decide +kernel
theorem dX9_guard_24 : decode cX9_guard 24 = .ok (.aload_n 0, 1) := by decide +kernel
theorem dX9_guard_25 : decode cX9_guard 25 = .ok (.bipush (-2), 2) := by decide +kernel
theorem dX9_guard_27 : decode cX9_guard 27 = .ok (.invokevirtual 79, 3) := by decide +kernel
theorem dX9_guard_30 : decode cX9_guard 30 = .ok (.ireturn, 1) := by decide +kernel
theorem dX9_guard_31 : decode cX9_guard 31 = .ok (.aload_n 0, 1) := by decide +kernel
theorem dX9_guard_32 : decode cX9_guard 32 = .ok (.getfield 68, 3) := by decide +kernel
theorem dX9_guard_35 : decode cX9_guard 35 = .ok (.aload_n 0, 1) := by decide +kernel
theorem dX9_guard_36 : decode cX9_guard 36 = .ok (.getfield 10, 3) := by decide +kernel
theorem dX9_guard_39 : decode cX9_guard 39 = .ok (.aload_n 0, 1) := by decide +kernel
theorem dX9_guard_40 : decode cX9_guard 40 = .ok (.getfield 10, 3) := by decide +kernel
theorem dX9_guard_43 : decode cX9_guard 43 = .ok (.iload_n 1, 1) := by decide +kernel
theorem dX9_guard_44 : decode cX9_guard 44 = .ok (.invokevirtual 122, 3) := by decide +kernel
theorem dX9_guard_47 : decode cX9_guard 47 = .ok (.iload_n 2, 1) := by decide +kernel
theorem dX9_guard_48 : decode cX9_guard 48 = .ok (.invokevirtual 268, 3) := by decide +kernel
theorem dX9_guard_51 : decode cX9_guard 51 = .ok (.ireturn, 1) := by decide +kernel
theorem dX9_rounds_0 : decode cX9_rounds 0 = .ok (.aload_n 0, 1) := by decide +kernel
theorem dX9_rounds_1 : decode cX9_rounds 1 = .ok (.getfield 75, 3) := by decide +kernel
theorem dX9_rounds_4 : decode cX9_rounds 4 = .ok (.aload_n 0, 1) := by decide +kernel
theorem dX9_rounds_5 : decode cX9_rounds 5 = .ok (.getfield 10, 3) := by decide +kernel
theorem dX9_rounds_8 : decode cX9_rounds 8 = .ok (.invokevirtual 271, 3) := by decide +kernel
theorem dX9_rounds_11 : decode cX9_rounds 11 = .ok (.ireturn, 1) := by decide +kernel
theorem dX9_chance_0 : decode cX9_chance 0 = .ok (.aload_n 0, 1) := by decide +kernel
theorem dX9_chance_1 : decode cX9_chance 1 = .ok (.getfield 10, 3) := by decide +kernel
theorem dX9_chance_4 : decode cX9_chance 4 = .ok (.iload_n 1, 1) := by decide +kernel
theorem dX9_chance_5 : decode cX9_chance 5 = .ok (.invokevirtual 119, 3) := by decide +kernel
theorem dX9_chance_8 : decode cX9_chance 8 = .ok (.ifCond .eq 14, 3) := by decide +kernel
theorem dX9_chance_11 : decode cX9_chance 11 = .ok (.aload_n 0, 1) := by decide +kernel
theorem dX9_chance_12 : decode cX9_chance 12 = .ok (.getfield 10, 3) := by decide +kernel
theorem dX9_chance_15 : decode cX9_chance 15 = .ok (.iload_n 2, 1) := by decide +kernel
theorem dX9_chance_16 : decode cX9_chance 16 = .ok (.invokevirtual 111, 3) := by decide +kernel
theorem dX9_chance_19 : decode cX9_chance 19 = .ok (.ifCond .ne 9, 3) := by decide +kernel
theorem dX9_chance_22 : decode cX9_chance 22 = .ok (.aload_n 0, 1) := by decide +kernel
theorem dX9_chance_23 : decode cX9_chance 23 = .ok (.iconst (-1), 1) := by decide +kernel
theorem dX9_chance_24 : decode cX9_chance 24 = .ok (.invokevirtual 238, 3) := by decide +kernel
theorem dX9_chance_27 : decode cX9_chance 27 = .ok (.lreturn, 1) := by decide +kernel
theorem dX9_chance_28 : decode cX9_chance 28 = .ok (.iload_n 3, 1) := by decide +kernel
theorem dX9_chance_29 : decode cX9_chance 29 = .ok (.iconst 2, 1) := by decide +kernel
theorem dX9_chance_30 : decode cX9_chance 30 = .ok (.if_icmp .ge 10, 3) := by decide +kernel
theorem dX9_chance_33 : decode cX9_chance 33 = .ok (.aload_n 0, 1) := by decide +kernel
theorem dX9_chance_34 : decode cX9_chance 34 = .ok (.bipush (-4), 2) := by decide +kernel
theorem dX9_chance_36 : decode cX9_chance 36 = .ok (.invokevirtual 238, 3) := by decide +kernel
theorem dX9_chance_39 : decode cX9_chance 39 = .ok (.lreturn, 1) := by decide +kernel
theorem dX9_chance_40 : decode cX9_chance 40 = .ok (.iload_n 3, 1) := by decide +kernel
theorem dX9_chance_41 : decode cX9_chance 41 = .ok (.bipush 20, 2) := by decide +kernel
theorem dX9_chance_43 : decode cX9_chance 43 = .ok (.if_icmp .le 10, 3) := by decide +kernel
theorem dX9_chance_46 : decode cX9_chance 46 = .ok (.aload_n 0, 1) := by decide +kernel
theorem dX9_chance_47 : decode cX9_chance 47 = .ok (.bipush (-6), 2) := by decide +kernel
theorem dX9_chance_49 : decode cX9_chance 49 = .ok (.invokevirtual 238, 3) := by decide +kernel
theorem dX9_chance_52 : decode cX9_chance 52 = .ok (.lreturn, 1) := by decide +kernel
theorem dX9_chance_53 : decode cX9_chance 53 = .ok (.iload 4, 2) := by decide +kernel
theorem dX9_chance_55 : decode cX9_chance 55 = .ok (.invokestatic 174, 3) := by decide +kernel
theorem dX9_chance_58 : decode cX9_chance 58 = .ok (.ifCond .eq 10, 3) := by decide +kernel
theorem dX9_chance_61 : decode cX9_chance 61 = .ok (.aload_n 0, 1) := by decide +kernel
theorem dX9_chance_62 : decode cX9_chance 62 = .ok (.bipush (-2), 2) := by decide +kernel
theorem dX9_chance_64 : decode cX9_chance 64 = .ok (.invokevirtual 238, 3) := by decide +kernel
theorem dX9_chance_67 : decode cX9_chance 67 = .ok (.lreturn, 1) := by decide +kernel
theorem dX9_chance_68 : decode cX9_chance 68 = .ok (.aload_n 0, 1) := by decide +kernel
theorem dX9_chance_69 : decode cX9_chance 69 = .ok (.getfield 10, 3) := by decide +kernel
theorem dX9_chance_72 : decode cX9_chance 72 = .ok (.iload_n 1, 1) := by decide +kernel
theorem dX9_chance_73 : decode cX9_chance 73 = .ok (.invokevirtual 122, 3) := by decide +kernel
theorem dX9_chance_76 : decode cX9_chance 76 = .ok (.istore 5, 2) := by decide +kernel
theorem dX9_chance_78 : decode cX9_chance 78 = .ok (.aload_n 0, 1) := by decide +kernel
theorem dX9_chance_79 : decode cX9_chance 79 = .ok (.getfield 61, 3) := by decide +kernel
theorem dX9_chance_82 : decode cX9_chance 82 = .ok (.aload_n 0, 1) := by decide +kernel
theorem dX9_chance_83 : decode cX9_chance 83 = .ok (.getfield 10, 3) := by decide +kernel
theorem dX9_chance_86 : decode cX9_chance 86 = .ok (.iload 5, 2) := by decide +kernel
theorem dX9_chance_88 : decode cX9_chance 88 = .ok (.iload_n 2, 1) := by decide +kernel
theorem dX9_chance_89 : decode cX9_chance 89 = .ok (.iload_n 3, 1) := by decide +kernel
theorem dX9_chance_90 : decode cX9_chance 90 = .ok (.invokevirtual 274, 3) := by decide +kernel
theorem dX9_chance_93 : decode cX9_chance 93 = .ok (.iload_n 3, 1) := by decide +kernel
theorem dX9_chance_94 : decode cX9_chance 94 = .ok (.i2l, 1) := by decide +kernel
theorem dX9_chance_95 : decode cX9_chance 95 = .ok (.iload 5, 2) := by decide +kernel
theorem dX9_chance_97 : decode cX9_chance 97 = .ok (.invokestatic 190, 3) := by decide +kernel
theorem dX9_chance_100 : decode cX9_chance 100 = .ok (.invokestatic 278, 3) := by decide +kernel
theorem dX9_chance_103 : decode cX9_chance 103 = .ok (.iload 4, 2) := by decide +kernel
theorem dX9_chance_105 : decode cX9_chance 105 = .ok (.invokestatic 245, 3) := by decide +kernel
theorem dX9_chance_108 : decode cX9_chance 108 = .ok (.lreturn, 1) := by decide +kernel
theorem dX9_idle_0 : decode cX9_idle 0 = .ok (.aload_n 0, 1) := by decide +kernel
theorem dX9_idle_1 : decode cX9_idle 1 = .ok (.getfield 10, 3) := by decide +kernel
theorem dX9_idle_4 : decode cX9_idle 4 = .ok (.iload_n 1, 1) := by decide +kernel
theorem dX9_idle_5 : decode cX9_idle 5 = .ok (.invokevirtual 119, 3) := by decide +kernel
theorem dX9_idle_8 : decode cX9_idle 8 = .ok (.ifCond .ne 9, 3) := by decide +kernel
theorem dX9_idle_11 : decode cX9_idle 11 = .ok (.aload_n 0, 1) := by decide +kernel
theorem dX9_idle_12 : decode cX9_idle 12 = .ok (.iconst (-1), 1) := by decide +kernel
theorem dX9_idle_13 : decode cX9_idle 13 = .ok (.invokevirtual 79, 3) := by decide +kernel
theorem dX9_idle_16 : decode cX9_idle 16 = .ok (.ireturn, 1) := by decide +kernel
theorem dX9_idle_17 : decode cX9_idle 17 = .ok (.iload_n 2, 1) := by decide +kernel
theorem dX9_idle_18 : decode cX9_idle 18 = .ok (.invokestatic 174, 3) := by decide +kernel
theorem dX9_idle_21 : decode cX9_idle 21 = .ok (.ifCond .eq 10, 3) := by decide +kernel
theorem dX9_idle_24 : decode cX9_idle 24 = .ok (.aload_n 0, 1) := by decide +kernel
theorem dX9_idle_25 : decode cX9_idle 25 = .ok (.bipush (-2), 2) := by decide +kernel
theorem dX9_idle_27 : decode cX9_idle 27 = .ok (.invokevirtual 79, 3) := by decide +kernel
theorem dX9_idle_30 : decode cX9_idle 30 = .ok (.ireturn, 1) := by decide +kernel
theorem dX9_idle_31 : decode cX9_idle 31 = .ok (.aload_n 0, 1) := by decide +kernel
theorem dX9_idle_32 : decode cX9_idle 32 = .ok (.iload_n 1, 1) := by decide +kernel
theorem dX9_idle_33 : decode cX9_idle 33 = .ok (.invokevirtual 177, 3) := by decide +kernel
theorem dX9_idle_36 : decode cX9_idle 36 = .ok (.iload_n 2, 1) := by decide +kernel
theorem dX9_idle_37 : decode cX9_idle 37 = .ok (.ifCond .ne 19, 3) := by decide +kernel
theorem dX9_idle_40 : decode cX9_idle 40 = .ok (.bipush 12, 2) := by decide +kernel
theorem dX9_idle_42 : decode cX9_idle 42 = .ok (.aload_n 0, 1) := by decide +kernel
theorem dX9_idle_43 : decode cX9_idle 43 = .ok (.getfield 47, 3) := by decide +kernel
theorem dX9_idle_46 : decode cX9_idle 46 = .ok (.invokevirtual 187, 3) := by decide +kernel
theorem dX9_idle_49 : decode cX9_idle 49 = .ok (.invokestatic 190, 3) := by decide +kernel
theorem dX9_idle_52 : decode cX9_idle 52 = .ok (.isub, 1) := by decide +kernel
theorem dX9_idle_53 : decode cX9_idle 53 = .ok (.goto 10, 3) := by decide +kernel
theorem dX9_idle_56 : decode cX9_idle 56 = .ok (.aload_n 0, 1) := by decide +kernel
theorem dX9_idle_57 : decode cX9_idle 57 = .ok (.getfield 47, 3) := by decide +kernel
theorem dX9_idle_60 : decode cX9_idle 60 = .ok (.invokevirtual 282, 3) := by decide +kernel
theorem dX9_idle_63 : decode cX9_idle 63 = .ok (.ireturn, 1) := by decide +kernel
theorem dX9_never_0 : decode cX9_never 0 = .ok (.iload_n 1, 1) := by decide +kernel
theorem dX9_never_1 : decode cX9_never 1 = .ok (.invokestatic 174, 3) := by decide +kernel
theorem dX9_never_4 : decode cX9_never 4 = .ok (.ifCond .eq 10, 3) := by decide +kernel
theorem dX9_never_7 : decode cX9_never 7 = .ok (.aload_n 0, 1) := by decide +kernel
theorem dX9_never_8 : decode cX9_never 8 = .ok (.bipush (-2), 2) := by decide +kernel
theorem dX9_never_10 : decode cX9_never 10 = .ok (.invokevirtual 79, 3) := by decide +kernel
theorem dX9_never_13 : decode cX9_never 13 = .ok (.ireturn, 1) := by decide +kernel
theorem dX9_never_14 : decode cX9_never 14 = .ok (.iload_n 1, 1) := by decide +kernel
theorem dX9_never_15 : decode cX9_never 15 = .ok (.ifCond .ne 27, 3) := by decide +kernel
theorem dX9_never_18 : decode cX9_never 18 = .ok (.aload_n 0, 1) := by decide +kernel
theorem dX9_never_19 : decode cX9_never 19 = .ok (.getfield 10, 3) := by decide +kernel
theorem dX9_never_22 : decode cX9_never 22 = .ok (.invokevirtual 208, 3) := by decide +kernel
theorem dX9_never_25 : decode cX9_never 25 = .ok (.aload_n 0, 1) := by decide +kernel
theorem dX9_never_26 : decode cX9_never 26 = .ok (.getfield 75, 3) := by decide +kernel
theorem dX9_never_29 : decode cX9_never 29 = .ok (.aload_n 0, 1) := by decide +kernel
theorem dX9_never_30 : decode cX9_never 30 = .ok (.getfield 10, 3) := by decide +kernel
theorem dX9_never_33 : decode cX9_never 33 = .ok (.invokevirtual 285, 3) := by decide +kernel
theorem dX9_never_36 : decode cX9_never 36 = .ok (.iconst (-1), 1) := by decide +kernel
theorem dX9_never_37 : decode cX9_never 37 = .ok (.ixor, 1) := by decide +kernel
theorem dX9_never_38 : decode cX9_never 38 = .ok (.iand, 1) := by decide +kernel
theorem dX9_never_39 : decode cX9_never 39 = .ok (.goto 14, 3) := by decide +kernel
theorem dX9_never_42 : decode cX9_never 42 = .ok (.aload_n 0, 1) := by decide +kernel
theorem dX9_never_43 : decode cX9_never 43 = .ok (.getfield 75, 3) := by decide +kernel
theorem dX9_never_46 : decode cX9_never 46 = .ok (.aload_n 0, 1) := by decide +kernel
theorem dX9_never_47 : decode cX9_never 47 = .ok (.getfield 10, 3) := by decide +kernel
theorem dX9_never_50 : decode cX9_never 50 = .ok (.invokevirtual 288, 3) := by decide +kernel
theorem dX9_never_53 : decode cX9_never 53 = .ok (.ireturn, 1) := by decide +kernel
theorem dX9_alike_0 : decode cX9_alike 0 = .ok (.iload_n 1, 1) := by decide +kernel
theorem dX9_alike_1 : decode cX9_alike 1 = .ok (.invokestatic 174, 3) := by decide +kernel
theorem dX9_alike_4 : decode cX9_alike 4 = .ok (.ifCond .eq 10, 3) := by decide +kernel
theorem dX9_alike_7 : decode cX9_alike 7 = .ok (.aload_n 0, 1) := by decide +kernel
theorem dX9_alike_8 : decode cX9_alike 8 = .ok (.bipush (-2), 2) := by decide +kernel
theorem dX9_alike_10 : decode cX9_alike 10 = .ok (.invokevirtual 79, 3) := by decide +kernel
theorem dX9_alike_13 : decode cX9_alike 13 = .ok (.ireturn, 1) := by decide +kernel
theorem dX9_alike_14 : decode cX9_alike 14 = .ok (.aload_n 0, 1) := by decide +kernel
theorem dX9_alike_15 : decode cX9_alike 15 = .ok (.getfield 75, 3) := by decide +kernel
theorem dX9_alike_18 : decode cX9_alike 18 = .ok (.aload_n 0, 1) := by decide +kernel
theorem dX9_alike_19 : decode cX9_alike 19 = .ok (.getfield 10, 3) := by decide +kernel
theorem dX9_alike_22 : decode cX9_alike 22 = .ok (.iload_n 1, 1) := by decide +kernel
theorem dX9_alike_23 : decode cX9_alike 23 = .ok (.invokevirtual 291, 3) := by decide +kernel
theorem dX9_alike_26 : decode cX9_alike 26 = .ok (.ireturn, 1) := by decide +kernel
theorem dX9_dropped_0 : decode cX9_dropped 0 = .ok (.aload_n 0, 1) := by decide +kernel
theorem dX9_dropped_1 : decode cX9_dropped 1 = .ok (.getfield 10, 3) := by decide +kernel
theorem dX9_dropped_4 : decode cX9_dropped 4 = .ok (.iload_n 1, 1) := by decide +kernel
theorem dX9_dropped_5 : decode cX9_dropped 5 = .ok (.invokevirtual 119, 3) := by decide +kernel
theorem dX9_dropped_8 : decode cX9_dropped 8 = .ok (.ifCond .ne 9, 3) := by decide +kernel
theorem dX9_dropped_11 : decode cX9_dropped 11 = .ok (.aload_n 0, 1) := by decide +kernel
theorem dX9_dropped_12 : decode cX9_dropped 12 = .ok (.iconst (-1), 1) := by decide +kernel
theorem dX9_dropped_13 : decode cX9_dropped 13 = .ok (.invokevirtual 79, 3) := by decide +kernel
theorem dX9_dropped_16 : decode cX9_dropped 16 = .ok (.ireturn, 1) := by decide +kernel
theorem dX9_dropped_17 : decode cX9_dropped 17 = .ok (.aload_n 0, 1) := by decide +kernel
theorem dX9_dropped_18 : decode cX9_dropped 18 = .ok (.getfield 68, 3) := by decide +kernel
theorem dX9_dropped_21 : decode cX9_dropped 21 = .ok (.aload_n 0, 1) := by decide +kernel
theorem dX9_dropped_22 : decode cX9_dropped 22 = .ok (.getfield 10, 3) := by decide +kernel
theorem dX9_dropped_25 : decode cX9_dropped 25 = .ok (.aload_n 0, 1) := by decide +kernel
theorem dX9_dropped_26 : decode cX9_dropped 26 = .ok (.getfield 10, 3) := by decide +kernel
theorem dX9_dropped_29 : decode cX9_dropped 29 = .ok (.iload_n 1, 1) := by decide +kernel
theorem dX9_dropped_30 : decode cX9_dropped 30 = .ok (.invokevirtual 122, 3) := by decide +kernel
theorem dX9_dropped_33 : decode cX9_dropped 33 = .ok (.invokevirtual 294, 3) := by decide +kernel
theorem dX9_dropped_36 : decode cX9_dropped 36 = .ok (.ireturn, 1) := by decide +kernel
theorem dX9_key_0 : decode cX9_key 0 = .ok (.iload_n 1, 1) := by decide +kernel
theorem dX9_key_1 : decode cX9_key 1 = .ok (.invokestatic 174, 3) := by decide +kernel
theorem dX9_key_4 : decode cX9_key 4 = .ok (.ifCond .eq 10, 3) := by decide +kernel
theorem dX9_key_7 : decode cX9_key 7 = .ok (.aload_n 0, 1) := by decide +kernel
theorem dX9_key_8 : decode cX9_key 8 = .ok (.bipush (-2), 2) := by decide +kernel
theorem dX9_key_10 : decode cX9_key 10 = .ok (.invokevirtual 79, 3) := by decide +kernel
theorem dX9_key_13 : decode cX9_key 13 = .ok (.ireturn, 1) := by decide +kernel
theorem dX9_key_14 : decode cX9_key 14 = .ok (.aload_n 0, 1) := by decide +kernel
theorem dX9_key_15 : decode cX9_key 15 = .ok (.getfield 75, 3) := by decide +kernel
theorem dX9_key_18 : decode cX9_key 18 = .ok (.aload_n 0, 1) := by decide +kernel
theorem dX9_key_19 : decode cX9_key 19 = .ok (.getfield 10, 3) := by decide +kernel
theorem dX9_key_22 : decode cX9_key 22 = .ok (.iload_n 1, 1) := by decide +kernel
theorem dX9_key_23 : decode cX9_key 23 = .ok (.invokevirtual 297, 3) := by decide +kernel
theorem dX9_key_26 : decode cX9_key 26 = .ok (.ireturn, 1) := by decide +kernel
theorem dX9_latest_0 : decode cX9_latest 0 = .ok (.aload_n 0, 1) := by decide +kernel
theorem dX9_latest_1 : decode cX9_latest 1 = .ok (.getfield 10, 3) := by decide +kernel
theorem dX9_latest_4 : decode cX9_latest 4 = .ok (.iload_n 1, 1) := by decide +kernel
theorem dX9_latest_5 : decode cX9_latest 5 = .ok (.invokevirtual 119, 3) := by decide +kernel
theorem dX9_latest_8 : decode cX9_latest 8 = .ok (.ifCond .eq 14, 3) := by decide +kernel
theorem dX9_latest_11 : decode cX9_latest 11 = .ok (.aload_n 0, 1) := by decide +kernel
theorem dX9_latest_12 : decode cX9_latest 12 = .ok (.getfield 10, 3) := by decide +kernel
theorem dX9_latest_15 : decode cX9_latest 15 = .ok (.iload_n 2, 1) := by decide +kernel
theorem dX9_latest_16 : decode cX9_latest 16 = .ok (.invokevirtual 111, 3) := by decide +kernel
theorem dX9_latest_19 : decode cX9_latest 19 = .ok (.ifCond .ne 9, 3) := by decide +kernel
theorem dX9_latest_22 : decode cX9_latest 22 = .ok (.aload_n 0, 1) := by decide +kernel
theorem dX9_latest_23 : decode cX9_latest 23 = .ok (.iconst (-1), 1) := by decide +kernel
theorem dX9_latest_24 : decode cX9_latest 24 = .ok (.invokevirtual 79, 3) := by decide +kernel
theorem dX9_latest_27 : decode cX9_latest 27 = .ok (.ireturn, 1) := by decide +kernel
theorem dX9_latest_28 : decode cX9_latest 28 = .ok (.aload_n 0, 1) := by decide +kernel
theorem dX9_latest_29 : decode cX9_latest 29 = .ok (.getfield 68, 3) := by decide +kernel
theorem dX9_latest_32 : decode cX9_latest 32 = .ok (.aload_n 0, 1) := by decide +kernel
theorem dX9_latest_33 : decode cX9_latest 33 = .ok (.getfield 10, 3) := by decide +kernel
theorem dX9_latest_36 : decode cX9_latest 36 = .ok (.aload_n 0, 1) := by decide +kernel
theorem dX9_latest_37 : decode cX9_latest 37 = .ok (.getfield 10, 3) := by decide +kernel
theorem dX9_latest_40 : decode cX9_latest 40 = .ok (.iload_n 1, 1) := by decide +kernel
theorem dX9_latest_41 : decode cX9_latest 41 = .ok (.invokevirtual 122, 3) := by decide +kernel
theorem dX9_latest_44 : decode cX9_latest 44 = .ok (.iload_n 2, 1) := by decide +kernel
theorem dX9_latest_45 : decode cX9_latest 45 = .ok (.invokevirtual 300, 3) := by decide +kernel
theorem dX9_latest_48 : decode cX9_latest 48 = .ok (.ireturn, 1) := by decide +kernel
theorem dX9_needed_0 : decode cX9_needed 0 = .ok (.aload_n 0, 1) := by decide +kernel
theorem dX9_needed_1 : decode cX9_needed 1 = .ok (.getfield 10, 3) := by decide +kernel
theorem dX9_needed_4 : decode cX9_needed 4 = .ok (.iload_n 1, 1) := by decide +kernel
theorem dX9_needed_5 : decode cX9_needed 5 = .ok (.invokevirtual 119, 3) := by decide +kernel
theorem dX9_needed_8 : decode cX9_needed 8 = .ok (.ifCond .eq 14, 3) := by decide +kernel
theorem dX9_needed_11 : decode cX9_needed 11 = .ok (.aload_n 0, 1) := by decide +kernel
theorem dX9_needed_12 : decode cX9_needed 12 = .ok (.getfield 10, 3) := by decide +kernel
theorem dX9_needed_15 : decode cX9_needed 15 = .ok (.iload_n 2, 1) := by decide +kernel
theorem dX9_needed_16 : decode cX9_needed 16 = .ok (.invokevirtual 111, 3) := by decide +kernel
theorem dX9_needed_19 : decode cX9_needed 19 = .ok (.ifCond .ne 9, 3) := by decide +kernel
theorem dX9_needed_22 : decode cX9_needed 22 = .ok (.aload_n 0, 1) := by decide +kernel
theorem dX9_needed_23 : decode cX9_needed 23 = .ok (.iconst (-1), 1) := by decide +kernel
theorem dX9_needed_24 : decode cX9_needed 24 = .ok (.invokevirtual 79, 3) := by decide +kernel
theorem dX9_needed_27 : decode cX9_needed 27 = .ok (.ireturn, 1) := by decide +kernel
theorem dX9_needed_28 : decode cX9_needed 28 = .ok (.aload_n 0, 1) := by decide +kernel
theorem dX9_needed_29 : decode cX9_needed 29 = .ok (.getfield 68, 3) := by decide +kernel
theorem dX9_needed_32 : decode cX9_needed 32 = .ok (.aload_n 0, 1) := by decide +kernel
theorem dX9_needed_33 : decode cX9_needed 33 = .ok (.getfield 10, 3) := by decide +kernel
theorem dX9_needed_36 : decode cX9_needed 36 = .ok (.aload_n 0, 1) := by decide +kernel
theorem dX9_needed_37 : decode cX9_needed 37 = .ok (.getfield 10, 3) := by decide +kernel
theorem dX9_needed_40 : decode cX9_needed 40 = .ok (.iload_n 1, 1) := by decide +kernel
theorem dX9_needed_41 : decode cX9_needed 41 = .ok (.invokevirtual 122, 3) := by decide +kernel
theorem dX9_needed_44 : decode cX9_needed 44 = .ok (.iload_n 2, 1) := by decide +kernel
theorem dX9_needed_45 : decode cX9_needed 45 = .ok (.invokevirtual 303, 3) := by decide +kernel
theorem dX9_needed_48 : decode cX9_needed 48 = .ok (.ireturn, 1) := by decide +kernel
theorem dX9_trade_0 : decode cX9_trade 0 = .ok (.aload_n 0, 1) := by decide +kernel
theorem dX9_trade_1 : decode cX9_trade 1 = .ok (.getfield 10, 3) := by decide +kernel
theorem dX9_trade_4 : decode cX9_trade 4 = .ok (.iload_n 1, 1) := by decide +kernel
theorem dX9_trade_5 : decode cX9_trade 5 = .ok (.invokevirtual 119, 3) := by decide +kernel
theorem dX9_trade_8 : decode cX9_trade 8 = .ok (.ifCond .eq 19, 3) := by decide +kernel
theorem dX9_trade_11 : decode cX9_trade 11 = .ok (.aload_n 0, 1) := by decide +kernel
theorem dX9_trade_12 : decode cX9_trade 12 = .ok (.getfield 10, 3) := by decide +kernel
theorem dX9_trade_15 : decode cX9_trade 15 = .ok (.iload_n 2, 1) := by decide +kernel
theorem dX9_trade_16 : decode cX9_trade 16 = .ok (.invokevirtual 119, 3) := by decide +kernel
theorem dX9_trade_19 : decode cX9_trade 19 = .ok (.ifCond .eq 8, 3) := by decide +kernel
theorem dX9_trade_22 : decode cX9_trade 22 = .ok (.iload_n 1, 1) := by decide +kernel
theorem dX9_trade_23 : decode cX9_trade 23 = .ok (.iload_n 2, 1) := by decide +kernel
theorem dX9_trade_24 : decode cX9_trade 24 = .ok (.if_icmp .ne 9, 3) := by decide +kernel
theorem dX9_trade_27 : decode cX9_trade 27 = .ok (.aload_n 0, 1) := by decide +kernel
theorem dX9_trade_28 : decode cX9_trade 28 = .ok (.iconst (-1), 1) := by decide +kernel
theorem dX9_trade_29 : decode cX9_trade 29 = .ok (.invokevirtual 79, 3) := by decide +kernel
theorem dX9_trade_32 : decode cX9_trade 32 = .ok (.ireturn, 1) := by decide +kernel
theorem dX9_trade_33 : decode cX9_trade 33 = .ok (.iload_n 3, 1) := by decide +kernel
theorem dX9_trade_34 : decode cX9_trade 34 = .ok (.invokestatic 174, 3) := by decide +kernel
theorem dX9_trade_37 : decode cX9_trade 37 = .ok (.ifCond .eq 10, 3) := by decide +kernel
theorem dX9_trade_40 : decode cX9_trade 40 = .ok (.aload_n 0, 1) := by decide +kernel
theorem dX9_trade_41 : decode cX9_trade 41 = .ok (.bipush (-2), 2) := by decide +kernel
theorem dX9_trade_43 : decode cX9_trade 43 = .ok (.invokevirtual 79, 3) := by decide +kernel
theorem dX9_trade_46 : decode cX9_trade 46 = .ok (.ireturn, 1) := by decide +kernel
theorem dX9_trade_47 : decode cX9_trade 47 = .ok (.aload_n 0, 1) := by decide +kernel
theorem dX9_trade_48 : decode cX9_trade 48 = .ok (.getfield 75, 3) := by decide +kernel
theorem dX9_trade_51 : decode cX9_trade 51 = .ok (.aload_n 0, 1) := by decide +kernel
theorem dX9_trade_52 : decode cX9_trade 52 = .ok (.getfield 10, 3) := by decide +kernel
theorem dX9_trade_55 : decode cX9_trade 55 = .ok (.aload_n 0, 1) := by decide +kernel
theorem dX9_trade_56 : decode cX9_trade 56 = .ok (.getfield 10, 3) := by decide +kernel
theorem dX9_trade_59 : decode cX9_trade 59 = .ok (.iload_n 1, 1) := by decide +kernel
theorem dX9_trade_60 : decode cX9_trade 60 = .ok (.invokevirtual 122, 3) := by decide +kernel
theorem dX9_trade_63 : decode cX9_trade 63 = .ok (.aload_n 0, 1) := by decide +kernel
theorem dX9_trade_64 : decode cX9_trade 64 = .ok (.getfield 10, 3) := by decide +kernel
theorem dX9_trade_67 : decode cX9_trade 67 = .ok (.iload_n 2, 1) := by decide +kernel
theorem dX9_trade_68 : decode cX9_trade 68 = .ok (.invokevirtual 122, 3) := by decide +kernel
theorem dX9_trade_71 : decode cX9_trade 71 = .ok (.iload_n 3, 1) := by decide +kernel
theorem dX9_trade_72 : decode cX9_trade 72 = .ok (.invokevirtual 306, 3) := by decide +kernel
theorem dX9_trade_75 : decode cX9_trade 75 = .ok (.ireturn, 1) := by decide +kernel
theorem dX9_earliest_0 : decode cX9_earliest 0 = .ok (.aload_n 0, 1) := by decide +kernel
theorem dX9_earliest_1 : decode cX9_earliest 1 = .ok (.getfield 10, 3) := by decide +kernel
theorem dX9_earliest_4 : decode cX9_earliest 4 = .ok (.iload_n 1, 1) := by decide +kernel
theorem dX9_earliest_5 : decode cX9_earliest 5 = .ok (.invokevirtual 111, 3) := by decide +kernel
theorem dX9_earliest_8 : decode cX9_earliest 8 = .ok (.ifCond .ne 9, 3) := by decide +kernel
theorem dX9_earliest_11 : decode cX9_earliest 11 = .ok (.aload_n 0, 1) := by decide +kernel
theorem dX9_earliest_12 : decode cX9_earliest 12 = .ok (.iconst (-1), 1) := by decide +kernel
theorem dX9_earliest_13 : decode cX9_earliest 13 = .ok (.invokevirtual 79, 3) := by decide +kernel
theorem dX9_earliest_16 : decode cX9_earliest 16 = .ok (.ireturn, 1) := by decide +kernel
theorem dX9_earliest_17 : decode cX9_earliest 17 = .ok (.iload_n 2, 1) := by decide +kernel
theorem dX9_earliest_18 : decode cX9_earliest 18 = .ok (.invokestatic 174, 3) := by decide +kernel
theorem dX9_earliest_21 : decode cX9_earliest 21 = .ok (.ifCond .eq 10, 3) := by decide +kernel
theorem dX9_earliest_24 : decode cX9_earliest 24 = .ok (.aload_n 0, 1) := by decide +kernel
theorem dX9_earliest_25 : decode cX9_earliest 25 = .ok (.bipush (-2), 2) := by decide +kernel
theorem dX9_earliest_27 : decode cX9_earliest 27 = .ok (.invokevirtual 79, 3) := by decide +kernel
theorem dX9_earliest_30 : decode cX9_earliest 30 = .ok (.ireturn, 1) := by decide +kernel
theorem dX9_earliest_31 : decode cX9_earliest 31 = .ok (.aload_n 0, 1) := by decide +kernel
theorem dX9_earliest_32 : decode cX9_earliest 32 = .ok (.getfield 61, 3) := by decide +kernel
theorem dX9_earliest_35 : decode cX9_earliest 35 = .ok (.aload_n 0, 1) := by decide +kernel
theorem dX9_earliest_36 : decode cX9_earliest 36 = .ok (.getfield 10, 3) := by decide +kernel
theorem dX9_earliest_39 : decode cX9_earliest 39 = .ok (.iload_n 1, 1) := by decide +kernel
theorem dX9_earliest_40 : decode cX9_earliest 40 = .ok (.iload_n 2, 1) := by decide +kernel
theorem dX9_earliest_41 : decode cX9_earliest 41 = .ok (.invokevirtual 310, 3) := by decide +kernel
theorem dX9_earliest_44 : decode cX9_earliest 44 = .ok (.ireturn, 1) := by decide +kernel
theorem dX9_safe_0 : decode cX9_safe 0 = .ok (.aload_n 0, 1) := by decide +kernel
theorem dX9_safe_1 : decode cX9_safe 1 = .ok (.getfield 10, 3) := by decide +kernel
theorem dX9_safe_4 : decode cX9_safe 4 = .ok (.iload_n 1, 1) := by decide +kernel
theorem dX9_safe_5 : decode cX9_safe 5 = .ok (.invokevirtual 119, 3) := by decide +kernel
theorem dX9_safe_8 : decode cX9_safe 8 = .ok (.ifCond .ne 9, 3) := by decide +kernel
theorem dX9_safe_11 : decode cX9_safe 11 = .ok (.aload_n 0, 1) := by decide +kernel
theorem dX9_safe_12 : decode cX9_safe 12 = .ok (.iconst (-1), 1) := by decide +kernel
theorem dX9_safe_13 : decode cX9_safe 13 = .ok (.invokevirtual 79, 3) := by decide +kernel
theorem dX9_safe_16 : decode cX9_safe 16 = .ok (.ireturn, 1) := by decide +kernel
theorem dX9_safe_17 : decode cX9_safe 17 = .ok (.aload_n 0, 1) := by decide +kernel
theorem dX9_safe_18 : decode cX9_safe 18 = .ok (.getfield 68, 3) := by decide +kernel
theorem dX9_safe_21 : decode cX9_safe 21 = .ok (.aload_n 0, 1) := by decide +kernel
theorem dX9_safe_22 : decode cX9_safe 22 = .ok (.getfield 10, 3) := by decide +kernel
theorem dX9_safe_25 : decode cX9_safe 25 = .ok (.aload_n 0, 1) := by decide +kernel
theorem dX9_safe_26 : decode cX9_safe 26 = .ok (.getfield 10, 3) := by decide +kernel
theorem dX9_safe_29 : decode cX9_safe 29 = .ok (.iload_n 1, 1) := by decide +kernel
theorem dX9_safe_30 : decode cX9_safe 30 = .ok (.invokevirtual 122, 3) := by decide +kernel
theorem dX9_safe_33 : decode cX9_safe 33 = .ok (.invokevirtual 313, 3) := by decide +kernel
theorem dX9_safe_36 : decode cX9_safe 36 = .ok (.ireturn, 1) := by decide +kernel
theorem dX9_adds_0 : decode cX9_adds 0 = .ok (.aload_n 0, 1) := by decide +kernel
theorem dX9_adds_1 : decode cX9_adds 1 = .ok (.getfield 10, 3) := by decide +kernel
theorem dX9_adds_4 : decode cX9_adds 4 = .ok (.iload_n 1, 1) := by decide +kernel
theorem dX9_adds_5 : decode cX9_adds 5 = .ok (.invokevirtual 119, 3) := by decide +kernel
theorem dX9_adds_8 : decode cX9_adds 8 = .ok (.ifCond .eq 10, 3) := by decide +kernel
theorem dX9_adds_11 : decode cX9_adds 11 = .ok (.iload_n 2, 1) := by decide +kernel
theorem dX9_adds_12 : decode cX9_adds 12 = .ok (.invokestatic 125, 3) := by decide +kernel
theorem dX9_adds_15 : decode cX9_adds 15 = .ok (.ifCond .ne 9, 3) := by decide +kernel
theorem dX9_adds_18 : decode cX9_adds 18 = .ok (.aload_n 0, 1) := by decide +kernel
theorem dX9_adds_19 : decode cX9_adds 19 = .ok (.iconst (-1), 1) := by decide +kernel
theorem dX9_adds_20 : decode cX9_adds 20 = .ok (.invokevirtual 238, 3) := by decide +kernel
theorem dX9_adds_23 : decode cX9_adds 23 = .ok (.lreturn, 1) := by decide +kernel
theorem dX9_adds_24 : decode cX9_adds 24 = .ok (.iload_n 3, 1) := by decide +kernel
theorem dX9_adds_25 : decode cX9_adds 25 = .ok (.invokestatic 174, 3) := by decide +kernel
theorem dX9_adds_28 : decode cX9_adds 28 = .ok (.ifCond .eq 10, 3) := by decide +kernel
theorem dX9_adds_31 : decode cX9_adds 31 = .ok (.aload_n 0, 1) := by decide +kernel
theorem dX9_adds_32 : decode cX9_adds 32 = .ok (.bipush (-2), 2) := by decide +kernel
theorem dX9_adds_34 : decode cX9_adds 34 = .ok (.invokevirtual 238, 3) := by decide +kernel
theorem dX9_adds_37 : decode cX9_adds 37 = .ok (.lreturn, 1) := by decide +kernel
theorem dX9_adds_38 : decode cX9_adds 38 = .ok (.aload_n 0, 1) := by decide +kernel
theorem dX9_adds_39 : decode cX9_adds 39 = .ok (.getfield 10, 3) := by decide +kernel
theorem dX9_adds_42 : decode cX9_adds 42 = .ok (.iload_n 1, 1) := by decide +kernel
theorem dX9_adds_43 : decode cX9_adds 43 = .ok (.invokevirtual 122, 3) := by decide +kernel
theorem dX9_adds_46 : decode cX9_adds 46 = .ok (.istore 4, 2) := by decide +kernel
theorem dX9_adds_48 : decode cX9_adds 48 = .ok (.iload 4, 2) := by decide +kernel
theorem dX9_adds_50 : decode cX9_adds 50 = .ok (.iload_n 2, 1) := by decide +kernel
theorem dX9_adds_51 : decode cX9_adds 51 = .ok (.invokestatic 141, 3) := by decide +kernel
theorem dX9_adds_54 : decode cX9_adds 54 = .ok (.ifCond .ne 10, 3) := by decide +kernel
theorem dX9_adds_57 : decode cX9_adds 57 = .ok (.aload_n 0, 1) := by decide +kernel
theorem dX9_adds_58 : decode cX9_adds 58 = .ok (.bipush (-3), 2) := by decide +kernel
theorem dX9_adds_60 : decode cX9_adds 60 = .ok (.invokevirtual 238, 3) := by decide +kernel
theorem dX9_adds_63 : decode cX9_adds 63 = .ok (.lreturn, 1) := by decide +kernel
theorem dX9_adds_64 : decode cX9_adds 64 = .ok (.aload_n 0, 1) := by decide +kernel
theorem dX9_adds_65 : decode cX9_adds 65 = .ok (.getfield 61, 3) := by decide +kernel
theorem dX9_adds_68 : decode cX9_adds 68 = .ok (.aload_n 0, 1) := by decide +kernel
theorem dX9_adds_69 : decode cX9_adds 69 = .ok (.getfield 10, 3) := by decide +kernel
theorem dX9_adds_72 : decode cX9_adds 72 = .ok (.iload 4, 2) := by decide +kernel
theorem dX9_adds_74 : decode cX9_adds 74 = .ok (.iload_n 2, 1) := by decide +kernel
