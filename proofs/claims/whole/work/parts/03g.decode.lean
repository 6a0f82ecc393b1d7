theorem dX10_key_97 : decode cX10_key 97 = .ok (.iload_n 3, 1) := by decide +kernel
theorem dX10_key_98 : decode cX10_key 98 = .ok (.if_icmp .ge 8, 3) := by decide +kernel
theorem dX10_key_101 : decode cX10_key 101 = .ok (.iload 5, 2) := by decide +kernel
theorem dX10_key_103 : decode cX10_key 103 = .ok (.goto 4, 3) := by decide +kernel
theorem dX10_key_106 : decode cX10_key 106 = .ok (.iload_n 3, 1) := by decide +kernel
theorem dX10_key_107 : decode cX10_key 107 = .ok (.istore_n 3, 1) := by decide +kernel
theorem dX10_key_108 : decode cX10_key 108 = .ok (.iinc 4 1, 3) := by decide +kernel
theorem dX10_key_111 : decode cX10_key 111 = .ok (.goto (-80), 3) := by decide +kernel
theorem dX10_key_114 : decode cX10_key 114 = .ok (.iload_n 1, 1) := by decide +kernel
theorem dX10_key_115 : decode cX10_key 115 = .ok (.ifCond .ne 7, 3) := by decide +kernel
theorem dX10_key_118 : decode cX10_key 118 = .ok (.iload_n 2, 1) := by decide +kernel
theorem dX10_key_119 : decode cX10_key 119 = .ok (.goto 4, 3) := by decide +kernel
theorem dX10_key_122 : decode cX10_key 122 = .ok (.iload_n 3, 1) := by decide +kernel
theorem dX10_key_123 : decode cX10_key 123 = .ok (.ireturn, 1) := by decide +kernel
theorem dX10_latest_0 : decode cX10_latest 0 = .ok (.aload_n 0, 1) := by decide +kernel
theorem dX10_latest_1 : decode cX10_latest 1 = .ok (.iconst 0, 1) := by decide +kernel
theorem dX10_latest_2 : decode cX10_latest 2 = .ok (.putfield 78, 3) := by decide +kernel
theorem dX10_latest_5 : decode cX10_latest 5 = .ok (.aload_n 0, 1) := by decide +kernel
theorem dX10_latest_6 : decode cX10_latest 6 = .ok (.iload_n 1, 1) := by decide +kernel
theorem dX10_latest_7 : decode cX10_latest 7 = .ok (.invokevirtual 160, 3) := by decide +kernel
theorem dX10_latest_10 : decode cX10_latest 10 = .ok (.ifCond .eq 11, 3) := by decide +kernel
theorem dX10_latest_13 : decode cX10_latest 13 = .ok (.aload_n 0, 1) := by decide +kernel
theorem dX10_latest_14 : decode cX10_latest 14 = .ok (.iload_n 2, 1) := by decide +kernel
theorem dX10_latest_15 : decode cX10_latest 15 = .ok (.invokevirtual 206, 3) := by decide +kernel
theorem dX10_latest_18 : decode cX10_latest 18 = .ok (.ifCond .ne 9, 3) := by decide +kernel
theorem dX10_latest_21 : decode cX10_latest 21 = .ok (.aload_n 0, 1) := by decide +kernel
theorem dX10_latest_22 : decode cX10_latest 22 = .ok (.iconst (-1), 1) := by decide +kernel
theorem dX10_latest_23 : decode cX10_latest 23 = .ok (.invokevirtual 121, 3) := by decide +kernel
theorem dX10_latest_26 : decode cX10_latest 26 = .ok (.ireturn, 1) := by decide +kernel
theorem dX10_latest_27 : decode cX10_latest 27 = .ok (.aload_n 0, 1) := by decide +kernel
theorem dX10_latest_28 : decode cX10_latest 28 = .ok (.getfield 13, 3) := by decide +kernel
theorem dX10_latest_31 : decode cX10_latest 31 = .ok (.iload_n 2, 1) := by decide +kernel
theorem dX10_latest_32 : decode cX10_latest 32 = .ok (.iaload, 1) := by decide +kernel
theorem dX10_latest_33 : decode cX10_latest 33 = .ok (.istore_n 3, 1) := by decide +kernel
theorem dX10_latest_34 : decode cX10_latest 34 = .ok (.bipush (-9), 2) := by decide +kernel
theorem dX10_latest_36 : decode cX10_latest 36 = .ok (.istore 4, 2) := by decide +kernel
theorem dX10_latest_38 : decode cX10_latest 38 = .ok (.iconst 0, 1) := by decide +kernel
theorem dX10_latest_39 : decode cX10_latest 39 = .ok (.istore 5, 2) := by decide +kernel
theorem dX10_latest_41 : decode cX10_latest 41 = .ok (.iload 5, 2) := by decide +kernel
theorem dX10_latest_43 : decode cX10_latest 43 = .ok (.bipush 9, 2) := by decide +kernel
theorem dX10_latest_45 : decode cX10_latest 45 = .ok (.if_icmp .gt 38, 3) := by decide +kernel
theorem dX10_latest_48 : decode cX10_latest 48 = .ok (.aload_n 0, 1) := by decide +kernel
theorem dX10_latest_49 : decode cX10_latest 49 = .ok (.getfield 13, 3) := by decide +kernel
theorem dX10_latest_52 : decode cX10_latest 52 = .ok (.iload_n 2, 1) := by decide +kernel
theorem dX10_latest_53 : decode cX10_latest 53 = .ok (.iload 5, 2) := by decide +kernel
theorem dX10_latest_55 : decode cX10_latest 55 = .ok (.iastore, 1) := by decide +kernel
theorem dX10_latest_56 : decode cX10_latest 56 = .ok (.aload_n 0, 1) := by decide +kernel
theorem dX10_latest_57 : decode cX10_latest 57 = .ok (.iload_n 1, 1) := by decide +kernel
theorem dX10_latest_58 : decode cX10_latest 58 = .ok (.invokevirtual 115, 3) := by decide +kernel
theorem dX10_latest_61 : decode cX10_latest 61 = .ok (.iload_n 2, 1) := by decide +kernel
theorem dX10_latest_62 : decode cX10_latest 62 = .ok (.invokestatic 93, 3) := by decide +kernel
theorem dX10_latest_65 : decode cX10_latest 65 = .ok (.ifCond .eq 8, 3) := by decide +kernel
theorem dX10_latest_68 : decode cX10_latest 68 = .ok (.iload 5, 2) := by decide +kernel
theorem dX10_latest_70 : decode cX10_latest 70 = .ok (.goto 5, 3) := by decide +kernel
theorem dX10_latest_73 : decode cX10_latest 73 = .ok (.iload 4, 2) := by decide +kernel
theorem dX10_latest_75 : decode cX10_latest 75 = .ok (.istore 4, 2) := by decide +kernel
theorem dX10_latest_77 : decode cX10_latest 77 = .ok (.iinc 5 1, 3) := by decide +kernel
theorem dX10_latest_80 : decode cX10_latest 80 = .ok (.goto (-39), 3) := by decide +kernel
theorem dX10_latest_83 : decode cX10_latest 83 = .ok (.aload_n 0, 1) := by decide +kernel
theorem dX10_latest_84 : decode cX10_latest 84 = .ok (.getfield 13, 3) := by decide +kernel
theorem dX10_latest_87 : decode cX10_latest 87 = .ok (.iload_n 2, 1) := by decide +kernel
theorem dX10_latest_88 : decode cX10_latest 88 = .ok (.iload_n 3, 1) := by decide +kernel
theorem dX10_latest_89 : decode cX10_latest 89 = .ok (.iastore, 1) := by decide +kernel
theorem dX10_latest_90 : decode cX10_latest 90 = .ok (.iload 4, 2) := by decide +kernel
theorem dX10_latest_92 : decode cX10_latest 92 = .ok (.ireturn, 1) := by decide +kernel
theorem dX10_needed_0 : decode cX10_needed 0 = .ok (.aload_n 0, 1) := by decide +kernel
theorem dX10_needed_1 : decode cX10_needed 1 = .ok (.iconst 0, 1) := by decide +kernel
theorem dX10_needed_2 : decode cX10_needed 2 = .ok (.putfield 78, 3) := by decide +kernel
theorem dX10_needed_5 : decode cX10_needed 5 = .ok (.aload_n 0, 1) := by decide +kernel
theorem dX10_needed_6 : decode cX10_needed 6 = .ok (.iload_n 1, 1) := by decide +kernel
theorem dX10_needed_7 : decode cX10_needed 7 = .ok (.invokevirtual 160, 3) := by decide +kernel
theorem dX10_needed_10 : decode cX10_needed 10 = .ok (.ifCond .eq 11, 3) := by decide +kernel
theorem dX10_needed_13 : decode cX10_needed 13 = .ok (.aload_n 0, 1) := by decide +kernel
theorem dX10_needed_14 : decode cX10_needed 14 = .ok (.iload_n 2, 1) := by decide +kernel
theorem dX10_needed_15 : decode cX10_needed 15 = .ok (.invokevirtual 206, 3) := by decide +kernel
theorem dX10_needed_18 : decode cX10_needed 18 = .ok (.ifCond .ne 9, 3) := by decide +kernel
theorem dX10_needed_21 : decode cX10_needed 21 = .ok (.aload_n 0, 1) := by decide +kernel
theorem dX10_needed_22 : decode cX10_needed 22 = .ok (.iconst (-1), 1) := by decide +kernel
theorem dX10_needed_23 : decode cX10_needed 23 = .ok (.invokevirtual 121, 3) := by decide +kernel
theorem dX10_needed_26 : decode cX10_needed 26 = .ok (.ireturn, 1) := by decide +kernel
theorem dX10_needed_27 : decode cX10_needed 27 = .ok (.iconst 0, 1) := by decide +kernel
theorem dX10_needed_28 : decode cX10_needed 28 = .ok (.istore_n 3, 1) := by decide +kernel
theorem dX10_needed_29 : decode cX10_needed 29 = .ok (.aload_n 0, 1) := by decide +kernel
theorem dX10_needed_30 : decode cX10_needed 30 = .ok (.iload_n 1, 1) := by decide +kernel
theorem dX10_needed_31 : decode cX10_needed 31 = .ok (.invokevirtual 115, 3) := by decide +kernel
theorem dX10_needed_34 : decode cX10_needed 34 = .ok (.iload_n 2, 1) := by decide +kernel
theorem dX10_needed_35 : decode cX10_needed 35 = .ok (.invokestatic 93, 3) := by decide +kernel
theorem dX10_needed_38 : decode cX10_needed 38 = .ok (.istore 4, 2) := by decide +kernel
theorem dX10_needed_40 : decode cX10_needed 40 = .ok (.iconst 0, 1) := by decide +kernel
theorem dX10_needed_41 : decode cX10_needed 41 = .ok (.istore 5, 2) := by decide +kernel
theorem dX10_needed_43 : decode cX10_needed 43 = .ok (.iload 5, 2) := by decide +kernel
theorem dX10_needed_45 : decode cX10_needed 45 = .ok (.aload_n 0, 1) := by decide +kernel
theorem dX10_needed_46 : decode cX10_needed 46 = .ok (.getfield 88, 3) := by decide +kernel
theorem dX10_needed_49 : decode cX10_needed 49 = .ok (.if_icmp .ge 49, 3) := by decide +kernel
theorem dX10_needed_52 : decode cX10_needed 52 = .ok (.iload 4, 2) := by decide +kernel
theorem dX10_needed_54 : decode cX10_needed 54 = .ok (.ifCond .eq 44, 3) := by decide +kernel
theorem dX10_needed_57 : decode cX10_needed 57 = .ok (.aload_n 0, 1) := by decide +kernel
theorem dX10_needed_58 : decode cX10_needed 58 = .ok (.iload 5, 2) := by decide +kernel
theorem dX10_needed_60 : decode cX10_needed 60 = .ok (.putfield 28, 3) := by decide +kernel
theorem dX10_needed_63 : decode cX10_needed 63 = .ok (.iload_n 3, 1) := by decide +kernel
theorem dX10_needed_64 : decode cX10_needed 64 = .ok (.iload 5, 2) := by decide +kernel
theorem dX10_needed_66 : decode cX10_needed 66 = .ok (.iload_n 2, 1) := by decide +kernel
theorem dX10_needed_67 : decode cX10_needed 67 = .ok (.if_icmp .eq 22, 3) := by decide +kernel
theorem dX10_needed_70 : decode cX10_needed 70 = .ok (.aload_n 0, 1) := by decide +kernel
theorem dX10_needed_71 : decode cX10_needed 71 = .ok (.iload_n 1, 1) := by decide +kernel
theorem dX10_needed_72 : decode cX10_needed 72 = .ok (.invokevirtual 115, 3) := by decide +kernel
theorem dX10_needed_75 : decode cX10_needed 75 = .ok (.iload_n 2, 1) := by decide +kernel
theorem dX10_needed_76 : decode cX10_needed 76 = .ok (.invokestatic 93, 3) := by decide +kernel
theorem dX10_needed_79 : decode cX10_needed 79 = .ok (.ifCond .ne 10, 3) := by decide +kernel
theorem dX10_needed_82 : decode cX10_needed 82 = .ok (.iconst 1, 1) := by decide +kernel
theorem dX10_needed_83 : decode cX10_needed 83 = .ok (.iload 5, 2) := by decide +kernel
theorem dX10_needed_85 : decode cX10_needed 85 = .ok (.ishl, 1) := by decide +kernel
theorem dX10_needed_86 : decode cX10_needed 86 = .ok (.goto 4, 3) := by decide +kernel
theorem dX10_needed_89 : decode cX10_needed 89 = .ok (.iconst 0, 1) := by decide +kernel
theorem dX10_needed_90 : decode cX10_needed 90 = .ok (.ior, 1) := by decide +kernel
theorem dX10_needed_91 : decode cX10_needed 91 = .ok (.istore_n 3, 1) := by decide +kernel
theorem dX10_needed_92 : decode cX10_needed 92 = .ok (.iinc 5 1, 3) := by decide +kernel
theorem dX10_needed_95 : decode cX10_needed 95 = .ok (.goto (-52), 3) := by decide +kernel
theorem dX10_needed_98 : decode cX10_needed 98 = .ok (.aload_n 0, 1) := by decide +kernel
theorem dX10_needed_99 : decode cX10_needed 99 = .ok (.iconst (-1), 1) := by decide +kernel
theorem dX10_needed_100 : decode cX10_needed 100 = .ok (.putfield 28, 3) := by decide +kernel
theorem dX10_needed_103 : decode cX10_needed 103 = .ok (.iload_n 3, 1) := by decide +kernel
theorem dX10_needed_104 : decode cX10_needed 104 = .ok (.ireturn, 1) := by decide +kernel
theorem dX10_areTwo_0 : decode cX10_areTwo 0 = .ok (.aload_n 0, 1) := by decide +kernel
theorem dX10_areTwo_1 : decode cX10_areTwo 1 = .ok (.iload_n 1, 1) := by decide +kernel
theorem dX10_areTwo_2 : decode cX10_areTwo 2 = .ok (.invokevirtual 160, 3) := by decide +kernel
theorem dX10_areTwo_5 : decode cX10_areTwo 5 = .ok (.ifCond .eq 20, 3) := by decide +kernel
theorem dX10_areTwo_8 : decode cX10_areTwo 8 = .ok (.aload_n 0, 1) := by decide +kernel
theorem dX10_areTwo_9 : decode cX10_areTwo 9 = .ok (.iload_n 2, 1) := by decide +kernel
theorem dX10_areTwo_10 : decode cX10_areTwo 10 = .ok (.invokevirtual 160, 3) := by decide +kernel
theorem dX10_areTwo_13 : decode cX10_areTwo 13 = .ok (.ifCond .eq 12, 3) := by decide +kernel
theorem dX10_areTwo_16 : decode cX10_areTwo 16 = .ok (.iload_n 1, 1) := by decide +kernel
theorem dX10_areTwo_17 : decode cX10_areTwo 17 = .ok (.iload_n 2, 1) := by decide +kernel
theorem dX10_areTwo_18 : decode cX10_areTwo 18 = .ok (.if_icmp .eq 7, 3) := by decide +kernel
theorem dX10_areTwo_21 : decode cX10_areTwo 21 = .ok (.iconst 1, 1) := by decide +kernel
theorem dX10_areTwo_22 : decode cX10_areTwo 22 = .ok (.goto 4, 3) := by decide +kernel
theorem dX10_areTwo_25 : decode cX10_areTwo 25 = .ok (.iconst 0, 1) := by decide +kernel
theorem dX10_areTwo_26 : decode cX10_areTwo 26 = .ok (.ireturn, 1) := by decide +kernel
theorem dX10_trade_0 : decode cX10_trade 0 = .ok (.aload_n 0, 1) := by decide +kernel
theorem dX10_trade_1 : decode cX10_trade 1 = .ok (.iconst 0, 1) := by decide +kernel
theorem dX10_trade_2 : decode cX10_trade 2 = .ok (.putfield 78, 3) := by decide +kernel
theorem dX10_trade_5 : decode cX10_trade 5 = .ok (.aload_n 0, 1) := by decide +kernel
theorem dX10_trade_6 : decode cX10_trade 6 = .ok (.iload_n 1, 1) := by decide +kernel
theorem dX10_trade_7 : decode cX10_trade 7 = .ok (.iload_n 2, 1) := by decide +kernel
theorem dX10_trade_8 : decode cX10_trade 8 = .ok (.invokevirtual 270, 3) := by decide +kernel
theorem dX10_trade_11 : decode cX10_trade 11 = .ok (.ifCond .eq 12, 3) := by decide +kernel
theorem dX10_trade_14 : decode cX10_trade 14 = .ok (.iconst 0, 1) := by decide +kernel
theorem dX10_trade_15 : decode cX10_trade 15 = .ok (.iload_n 3, 1) := by decide +kernel
theorem dX10_trade_16 : decode cX10_trade 16 = .ok (.iconst 1, 1) := by decide +kernel
theorem dX10_trade_17 : decode cX10_trade 17 = .ok (.invokestatic 225, 3) := by decide +kernel
theorem dX10_trade_20 : decode cX10_trade 20 = .ok (.goto 4, 3) := by decide +kernel
theorem dX10_trade_23 : decode cX10_trade 23 = .ok (.iconst (-1), 1) := by decide +kernel
theorem dX10_trade_24 : decode cX10_trade 24 = .ok (.istore 4, 2) := by decide +kernel
theorem dX10_trade_26 : decode cX10_trade 26 = .ok (.iload 4, 2) := by decide +kernel
theorem dX10_trade_28 : decode cX10_trade 28 = .ok (.ifCond .ge 10, 3) := by decide +kernel
theorem dX10_trade_31 : decode cX10_trade 31 = .ok (.aload_n 0, 1) := by decide +kernel
theorem dX10_trade_32 : decode cX10_trade 32 = .ok (.iload 4, 2) := by decide +kernel
theorem dX10_trade_34 : decode cX10_trade 34 = .ok (.invokevirtual 121, 3) := by decide +kernel
theorem dX10_trade_37 : decode cX10_trade 37 = .ok (.ireturn, 1) := by decide +kernel
theorem dX10_trade_38 : decode cX10_trade 38 = .ok (.aload_n 0, 1) := by decide +kernel
theorem dX10_trade_39 : decode cX10_trade 39 = .ok (.aload_n 0, 1) := by decide +kernel
theorem dX10_trade_40 : decode cX10_trade 40 = .ok (.getfield 22, 3) := by decide +kernel
theorem dX10_trade_43 : decode cX10_trade 43 = .ok (.iload_n 1, 1) := by decide +kernel
theorem dX10_trade_44 : decode cX10_trade 44 = .ok (.iaload, 1) := by decide +kernel
theorem dX10_trade_45 : decode cX10_trade 45 = .ok (.invokevirtual 233, 3) := by decide +kernel
theorem dX10_trade_48 : decode cX10_trade 48 = .ok (.aload_n 0, 1) := by decide +kernel
theorem dX10_trade_49 : decode cX10_trade 49 = .ok (.aload_n 0, 1) := by decide +kernel
theorem dX10_trade_50 : decode cX10_trade 50 = .ok (.getfield 22, 3) := by decide +kernel
theorem dX10_trade_53 : decode cX10_trade 53 = .ok (.iload_n 2, 1) := by decide +kernel
theorem dX10_trade_54 : decode cX10_trade 54 = .ok (.iaload, 1) := by decide +kernel
theorem dX10_trade_55 : decode cX10_trade 55 = .ok (.invokevirtual 233, 3) := by decide +kernel
theorem dX10_trade_58 : decode cX10_trade 58 = .ok (.iadd, 1) := by decide +kernel
theorem dX10_trade_59 : decode cX10_trade 59 = .ok (.istore 5, 2) := by decide +kernel
theorem dX10_trade_61 : decode cX10_trade 61 = .ok (.bipush 88, 2) := by decide +kernel
theorem dX10_trade_63 : decode cX10_trade 63 = .ok (.istore 6, 2) := by decide +kernel
theorem dX10_trade_65 : decode cX10_trade 65 = .ok (.iconst 0, 1) := by decide +kernel
theorem dX10_trade_66 : decode cX10_trade 66 = .ok (.istore 7, 2) := by decide +kernel
theorem dX10_trade_68 : decode cX10_trade 68 = .ok (.iload 7, 2) := by decide +kernel
theorem dX10_trade_70 : decode cX10_trade 70 = .ok (.bipush 8, 2) := by decide +kernel
theorem dX10_trade_72 : decode cX10_trade 72 = .ok (.if_icmp .ge 138, 3) := by decide +kernel
theorem dX10_trade_75 : decode cX10_trade 75 = .ok (.iconst 0, 1) := by decide +kernel
theorem dX10_trade_76 : decode cX10_trade 76 = .ok (.istore 8, 2) := by decide +kernel
theorem dX10_trade_78 : decode cX10_trade 78 = .ok (.iload 8, 2) := by decide +kernel
theorem dX10_trade_80 : decode cX10_trade 80 = .ok (.bipush 8, 2) := by decide +kernel
theorem dX10_trade_82 : decode cX10_trade 82 = .ok (.if_icmp .ge 122, 3) := by decide +kernel
theorem dX10_trade_85 : decode cX10_trade 85 = .ok (.aload_n 0, 1) := by decide +kernel
theorem dX10_trade_86 : decode cX10_trade 86 = .ok (.getfield 22, 3) := by decide +kernel
theorem dX10_trade_89 : decode cX10_trade 89 = .ok (.iload_n 1, 1) := by decide +kernel
theorem dX10_trade_90 : decode cX10_trade 90 = .ok (.iaload, 1) := by decide +kernel
theorem dX10_trade_91 : decode cX10_trade 91 = .ok (.iload 7, 2) := by decide +kernel
theorem dX10_trade_93 : decode cX10_trade 93 = .ok (.invokestatic 93, 3) := by decide +kernel
theorem dX10_trade_96 : decode cX10_trade 96 = .ok (.ifCond .eq 102, 3) := by decide +kernel
theorem dX10_trade_99 : decode cX10_trade 99 = .ok (.aload_n 0, 1) := by decide +kernel
theorem dX10_trade_100 : decode cX10_trade 100 = .ok (.getfield 22, 3) := by decide +kernel
theorem dX10_trade_103 : decode cX10_trade 103 = .ok (.iload_n 2, 1) := by decide +kernel
theorem dX10_trade_104 : decode cX10_trade 104 = .ok (.iaload, 1) := by decide +kernel
theorem dX10_trade_105 : decode cX10_trade 105 = .ok (.iload 8, 2) := by decide +kernel
theorem dX10_trade_107 : decode cX10_trade 107 = .ok (.invokestatic 93, 3) := by decide +kernel
theorem dX10_trade_110 : decode cX10_trade 110 = .ok (.ifCond .eq 88, 3) := by decide +kernel
theorem dX10_trade_113 : decode cX10_trade 113 = .ok (.aload_n 0, 1) := by decide +kernel
theorem dX10_trade_114 : decode cX10_trade 114 = .ok (.aload_n 0, 1) := by decide +kernel
theorem dX10_trade_115 : decode cX10_trade 115 = .ok (.getfield 22, 3) := by decide +kernel
theorem dX10_trade_118 : decode cX10_trade 118 = .ok (.iload_n 1, 1) := by decide +kernel
theorem dX10_trade_119 : decode cX10_trade 119 = .ok (.iaload, 1) := by decide +kernel
theorem dX10_trade_120 : decode cX10_trade 120 = .ok (.iconst 1, 1) := by decide +kernel
theorem dX10_trade_121 : decode cX10_trade 121 = .ok (.iload 7, 2) := by decide +kernel
theorem dX10_trade_123 : decode cX10_trade 123 = .ok (.ishl, 1) := by decide +kernel
theorem dX10_trade_124 : decode cX10_trade 124 = .ok (.iconst (-1), 1) := by decide +kernel
theorem dX10_trade_125 : decode cX10_trade 125 = .ok (.ixor, 1) := by decide +kernel
theorem dX10_trade_126 : decode cX10_trade 126 = .ok (.iand, 1) := by decide +kernel
theorem dX10_trade_127 : decode cX10_trade 127 = .ok (.iconst 1, 1) := by decide +kernel
theorem dX10_trade_128 : decode cX10_trade 128 = .ok (.iload 8, 2) := by decide +kernel
theorem dX10_trade_130 : decode cX10_trade 130 = .ok (.ishl, 1) := by decide +kernel
theorem dX10_trade_131 : decode cX10_trade 131 = .ok (.ior, 1) := by decide +kernel
theorem dX10_trade_132 : decode cX10_trade 132 = .ok (.invokevirtual 233, 3) := by decide +kernel
theorem dX10_trade_135 : decode cX10_trade 135 = .ok (.aload_n 0, 1) := by decide +kernel
theorem dX10_trade_136 : decode cX10_trade 136 = .ok (.aload_n 0, 1) := by decide +kernel
theorem dX10_trade_137 : decode cX10_trade 137 = .ok (.getfield 22, 3) := by decide +kernel
theorem dX10_trade_140 : decode cX10_trade 140 = .ok (.iload_n 2, 1) := by decide +kernel
theorem dX10_trade_141 : decode cX10_trade 141 = .ok (.iaload, 1) := by decide +kernel
theorem dX10_trade_142 : decode cX10_trade 142 = .ok (.iconst 1, 1) := by decide +kernel
theorem dX10_trade_143 : decode cX10_trade 143 = .ok (.iload 8, 2) := by decide +kernel
theorem dX10_trade_145 : decode cX10_trade 145 = .ok (.ishl, 1) := by decide +kernel
theorem dX10_trade_146 : decode cX10_trade 146 = .ok (.iconst (-1), 1) := by decide +kernel
theorem dX10_trade_147 : decode cX10_trade 147 = .ok (.ixor, 1) := by decide +kernel
theorem dX10_trade_148 : decode cX10_trade 148 = .ok (.iand, 1) := by decide +kernel
theorem dX10_trade_149 : decode cX10_trade 149 = .ok (.iconst 1, 1) := by decide +kernel
theorem dX10_trade_150 : decode cX10_trade 150 = .ok (.iload 7, 2) := by decide +kernel
theorem dX10_trade_152 : decode cX10_trade 152 = .ok (.ishl, 1) := by decide +kernel
theorem dX10_trade_153 : decode cX10_trade 153 = .ok (.ior, 1) := by decide +kernel
theorem dX10_trade_154 : decode cX10_trade 154 = .ok (.invokevirtual 233, 3) := by decide +kernel
theorem dX10_trade_157 : decode cX10_trade 157 = .ok (.iadd, 1) := by decide +kernel
theorem dX10_trade_158 : decode cX10_trade 158 = .ok (.istore 9, 2) := by decide +kernel
theorem dX10_trade_160 : decode cX10_trade 160 = .ok (.iload 9, 2) := by decide +kernel
theorem dX10_trade_162 : decode cX10_trade 162 = .ok (.iload 5, 2) := by decide +kernel
theorem dX10_trade_164 : decode cX10_trade 164 = .ok (.if_icmp .le 14, 3) := by decide +kernel
theorem dX10_trade_167 : decode cX10_trade 167 = .ok (.bipush 10, 2) := by decide +kernel
theorem dX10_trade_169 : decode cX10_trade 169 = .ok (.iload 7, 2) := by decide +kernel
theorem dX10_trade_171 : decode cX10_trade 171 = .ok (.imul, 1) := by decide +kernel
theorem dX10_trade_172 : decode cX10_trade 172 = .ok (.iload 8, 2) := by decide +kernel
theorem dX10_trade_174 : decode cX10_trade 174 = .ok (.iadd, 1) := by decide +kernel
theorem dX10_trade_175 : decode cX10_trade 175 = .ok (.goto 5, 3) := by decide +kernel
theorem dX10_trade_178 : decode cX10_trade 178 = .ok (.iload 6, 2) := by decide +kernel
theorem dX10_trade_180 : decode cX10_trade 180 = .ok (.istore 6, 2) := by decide +kernel
theorem dX10_trade_182 : decode cX10_trade 182 = .ok (.iload 9, 2) := by decide +kernel
theorem dX10_trade_184 : decode cX10_trade 184 = .ok (.iload 5, 2) := by decide +kernel
theorem dX10_trade_186 : decode cX10_trade 186 = .ok (.if_icmp .le 8, 3) := by decide +kernel
theorem dX10_trade_189 : decode cX10_trade 189 = .ok (.iload 9, 2) := by decide +kernel
theorem dX10_trade_191 : decode cX10_trade 191 = .ok (.goto 5, 3) := by decide +kernel
theorem dX10_trade_194 : decode cX10_trade 194 = .ok (.iload 5, 2) := by decide +kernel
theorem dX10_trade_196 : decode cX10_trade 196 = .ok (.istore 5, 2) := by decide +kernel
theorem dX10_trade_198 : decode cX10_trade 198 = .ok (.iinc 8 1, 3) := by decide +kernel
theorem dX10_trade_201 : decode cX10_trade 201 = .ok (.goto (-123), 3) := by decide +kernel
theorem dX10_trade_204 : decode cX10_trade 204 = .ok (.iinc 7 1, 3) := by decide +kernel
theorem dX10_trade_207 : decode cX10_trade 207 = .ok (.goto (-139), 3) := by decide +kernel
theorem dX10_trade_210 : decode cX10_trade 210 = .ok (.iload_n 3, 1) := by decide +kernel
theorem dX10_trade_211 : decode cX10_trade 211 = .ok (.ifCond .ne 8, 3) := by decide +kernel
theorem dX10_trade_214 : decode cX10_trade 214 = .ok (.iload 5, 2) := by decide +kernel
theorem dX10_trade_216 : decode cX10_trade 216 = .ok (.goto 5, 3) := by decide +kernel
theorem dX10_trade_219 : decode cX10_trade 219 = .ok (.iload 6, 2) := by decide +kernel
theorem dX10_trade_221 : decode cX10_trade 221 = .ok (.ireturn, 1) := by decide +kernel
theorem dX10_earliest_0 : decode cX10_earliest 0 = .ok (.aload_n 0, 1) := by decide +kernel
theorem dX10_earliest_1 : decode cX10_earliest 1 = .ok (.iconst 0, 1) := by decide +kernel
theorem dX10_earliest_2 : decode cX10_earliest 2 = .ok (.putfield 78, 3) := by decide +kernel
theorem dX10_earliest_5 : decode cX10_earliest 5 = .ok (.aload_n 0, 1) := by decide +kernel
theorem dX10_earliest_6 : decode cX10_earliest 6 = .ok (.iload_n 1, 1) := by decide +kernel
theorem dX10_earliest_7 : decode cX10_earliest 7 = .ok (.invokevirtual 206, 3) := by decide +kernel
theorem dX10_earliest_10 : decode cX10_earliest 10 = .ok (.ifCond .eq 12, 3) := by decide +kernel
theorem dX10_earliest_13 : decode cX10_earliest 13 = .ok (.iconst 0, 1) := by decide +kernel
theorem dX10_earliest_14 : decode cX10_earliest 14 = .ok (.iload_n 2, 1) := by decide +kernel
theorem dX10_earliest_15 : decode cX10_earliest 15 = .ok (.iconst 1, 1) := by decide +kernel
theorem dX10_earliest_16 : decode cX10_earliest 16 = .ok (.invokestatic 225, 3) := by decide +kernel
theorem dX10_earliest_19 : decode cX10_earliest 19 = .ok (.goto 4, 3) := by decide +kernel
theorem dX10_earliest_22 : decode cX10_earliest 22 = .ok (.iconst (-1), 1) := by decide +kernel
theorem dX10_earliest_23 : decode cX10_earliest 23 = .ok (.istore_n 3, 1) := by decide +kernel
theorem dX10_earliest_24 : decode cX10_earliest 24 = .ok (.iload_n 3, 1) := by decide +kernel
theorem dX10_earliest_25 : decode cX10_earliest 25 = .ok (.ifCond .ge 9, 3) := by decide +kernel
theorem dX10_earliest_28 : decode cX10_earliest 28 = .ok (.aload_n 0, 1) := by decide +kernel
theorem dX10_earliest_29 : decode cX10_earliest 29 = .ok (.iload_n 3, 1) := by decide +kernel
theorem dX10_earliest_30 : decode cX10_earliest 30 = .ok (.invokevirtual 121, 3) := by decide +kernel
theorem dX10_earliest_33 : decode cX10_earliest 33 = .ok (.ireturn, 1) := by decide +kernel
theorem dX10_earliest_34 : decode cX10_earliest 34 = .ok (.bipush (-9), 2) := by decide +kernel
theorem dX10_earliest_36 : decode cX10_earliest 36 = .ok (.istore 4, 2) := by decide +kernel
theorem dX10_earliest_38 : decode cX10_earliest 38 = .ok (.bipush (-9), 2) := by decide +kernel
theorem dX10_earliest_40 : decode cX10_earliest 40 = .ok (.istore 5, 2) := by decide +kernel
theorem dX10_earliest_42 : decode cX10_earliest 42 = .ok (.iconst 0, 1) := by decide +kernel
theorem dX10_earliest_43 : decode cX10_earliest 43 = .ok (.istore 6, 2) := by decide +kernel
theorem dX10_earliest_45 : decode cX10_earliest 45 = .ok (.iload 6, 2) := by decide +kernel
theorem dX10_earliest_47 : decode cX10_earliest 47 = .ok (.sipush 256, 3) := by decide +kernel
theorem dX10_earliest_50 : decode cX10_earliest 50 = .ok (.if_icmp .ge 90, 3) := by decide +kernel
theorem dX10_earliest_53 : decode cX10_earliest 53 = .ok (.aload_n 0, 1) := by decide +kernel
theorem dX10_earliest_54 : decode cX10_earliest 54 = .ok (.iload 6, 2) := by decide +kernel
theorem dX10_earliest_56 : decode cX10_earliest 56 = .ok (.invokevirtual 108, 3) := by decide +kernel
theorem dX10_earliest_59 : decode cX10_earliest 59 = .ok (.pop, 1) := by decide +kernel
theorem dX10_earliest_60 : decode cX10_earliest 60 = .ok (.iconst 0, 1) := by decide +kernel
theorem dX10_earliest_61 : decode cX10_earliest 61 = .ok (.istore 7, 2) := by decide +kernel
theorem dX10_earliest_63 : decode cX10_earliest 63 = .ok (.iload 7, 2) := by decide +kernel
theorem dX10_earliest_65 : decode cX10_earliest 65 = .ok (.bipush 12, 2) := by decide +kernel
theorem dX10_earliest_67 : decode cX10_earliest 67 = .ok (.if_icmp .ge 67, 3) := by decide +kernel
theorem dX10_earliest_70 : decode cX10_earliest 70 = .ok (.aload_n 0, 1) := by decide +kernel
theorem dX10_earliest_71 : decode cX10_earliest 71 = .ok (.getfield 32, 3) := by decide +kernel
theorem dX10_earliest_74 : decode cX10_earliest 74 = .ok (.iload 7, 2) := by decide +kernel
theorem dX10_earliest_76 : decode cX10_earliest 76 = .ok (.iaload, 1) := by decide +kernel
theorem dX10_earliest_77 : decode cX10_earliest 77 = .ok (.iload_n 1, 1) := by decide +kernel
theorem dX10_earliest_78 : decode cX10_earliest 78 = .ok (.if_icmp .ne 19, 3) := by decide +kernel
theorem dX10_earliest_81 : decode cX10_earliest 81 = .ok (.iload 4, 2) := by decide +kernel
theorem dX10_earliest_83 : decode cX10_earliest 83 = .ok (.ifCond .lt 10, 3) := by decide +kernel
theorem dX10_earliest_86 : decode cX10_earliest 86 = .ok (.iload 7, 2) := by decide +kernel
theorem dX10_earliest_88 : decode cX10_earliest 88 = .ok (.iload 4, 2) := by decide +kernel
theorem dX10_earliest_90 : decode cX10_earliest 90 = .ok (.if_icmp .ge 7, 3) := by decide +kernel
theorem dX10_earliest_93 : decode cX10_earliest 93 = .ok (.iconst 1, 1) := by decide +kernel
theorem dX10_earliest_94 : decode cX10_earliest 94 = .ok (.goto 4, 3) := by decide +kernel
theorem dX10_earliest_97 : decode cX10_earliest 97 = .ok (.iconst 0, 1) := by decide +kernel
theorem dX10_earliest_98 : decode cX10_earliest 98 = .ok (.istore 8, 2) := by decide +kernel
theorem dX10_earliest_100 : decode cX10_earliest 100 = .ok (.iload 8, 2) := by decide +kernel
theorem dX10_earliest_102 : decode cX10_earliest 102 = .ok (.ifCond .eq 8, 3) := by decide +kernel
theorem dX10_earliest_105 : decode cX10_earliest 105 = .ok (.iload 6, 2) := by decide +kernel
theorem dX10_earliest_107 : decode cX10_earliest 107 = .ok (.goto 5, 3) := by decide +kernel
theorem dX10_earliest_110 : decode cX10_earliest 110 = .ok (.iload 5, 2) := by decide +kernel
theorem dX10_earliest_112 : decode cX10_earliest 112 = .ok (.istore 5, 2) := by decide +kernel
theorem dX10_earliest_114 : decode cX10_earliest 114 = .ok (.iload 8, 2) := by decide +kernel
theorem dX10_earliest_116 : decode cX10_earliest 116 = .ok (.ifCond .eq 8, 3) := by decide +kernel
theorem dX10_earliest_119 : decode cX10_earliest 119 = .ok (.iload 7, 2) := by decide +kernel
theorem dX10_earliest_121 : decode cX10_earliest 121 = .ok (.goto 5, 3) := by decide +kernel
theorem dX10_earliest_124 : decode cX10_earliest 124 = .ok (.iload 4, 2) := by decide +kernel
theorem dX10_earliest_126 : decode cX10_earliest 126 = .ok (.istore 4, 2) := by decide +kernel
theorem dX10_earliest_128 : decode cX10_earliest 128 = .ok (.iinc 7 1, 3) := by decide +kernel
theorem dX10_earliest_131 : decode cX10_earliest 131 = .ok (.goto (-68), 3) := by decide +kernel
theorem dX10_earliest_134 : decode cX10_earliest 134 = .ok (.iinc 6 1, 3) := by decide +kernel
theorem dX10_earliest_137 : decode cX10_earliest 137 = .ok (.goto (-92), 3) := by decide +kernel
theorem dX10_earliest_140 : decode cX10_earliest 140 = .ok (.iload_n 2, 1) := by decide +kernel
theorem dX10_earliest_141 : decode cX10_earliest 141 = .ok (.ifCond .ne 8, 3) := by decide +kernel
theorem dX10_earliest_144 : decode cX10_earliest 144 = .ok (.iload 4, 2) := by decide +kernel
theorem dX10_earliest_146 : decode cX10_earliest 146 = .ok (.goto 5, 3) := by decide +kernel
theorem dX10_earliest_149 : decode cX10_earliest 149 = .ok (.iload 5, 2) := by decide +kernel
theorem dX10_earliest_151 : decode cX10_earliest 151 = .ok (.ireturn, 1) := by decide +kernel
theorem dX10_safe_0 : decode cX10_safe 0 = .ok (.aload_n 0, 1) := by decide +kernel
theorem dX10_safe_1 : decode cX10_safe 1 = .ok (.iconst 0, 1) := by decide +kernel
theorem dX10_safe_2 : decode cX10_safe 2 = .ok (.putfield 78, 3) := by decide +kernel
theorem dX10_safe_5 : decode cX10_safe 5 = .ok (.aload_n 0, 1) := by decide +kernel
theorem dX10_safe_6 : decode cX10_safe 6 = .ok (.iload_n 1, 1) := by decide +kernel
theorem dX10_safe_7 : decode cX10_safe 7 = .ok (.invokevirtual 160, 3) := by decide +kernel
theorem dX10_safe_10 : decode cX10_safe 10 = .ok (.ifCond .ne 9, 3) := by decide +kernel
theorem dX10_safe_13 : decode cX10_safe 13 = .ok (.aload_n 0, 1) := by decide +kernel
theorem dX10_safe_14 : decode cX10_safe 14 = .ok (.iconst (-1), 1) := by decide +kernel
theorem dX10_safe_15 : decode cX10_safe 15 = .ok (.invokevirtual 121, 3) := by decide +kernel
theorem dX10_safe_18 : decode cX10_safe 18 = .ok (.ireturn, 1) := by decide +kernel
theorem dX10_safe_19 : decode cX10_safe 19 = .ok (.aload_n 0, 1) := by decide +kernel
theorem dX10_safe_20 : decode cX10_safe 20 = .ok (.iload_n 1, 1) := by decide +kernel
theorem dX10_safe_21 : decode cX10_safe 21 = .ok (.invokevirtual 115, 3) := by decide +kernel
theorem dX10_safe_24 : decode cX10_safe 24 = .ok (.pop, 1) := by decide +kernel
theorem dX10_safe_25 : decode cX10_safe 25 = .ok (.iconst 0, 1) := by decide +kernel
theorem dX10_safe_26 : decode cX10_safe 26 = .ok (.istore_n 2, 1) := by decide +kernel
theorem dX10_safe_27 : decode cX10_safe 27 = .ok (.iload_n 2, 1) := by decide +kernel
theorem dX10_safe_28 : decode cX10_safe 28 = .ok (.bipush 12, 2) := by decide +kernel
theorem dX10_safe_30 : decode cX10_safe 30 = .ok (.if_icmp .ge 21, 3) := by decide +kernel
theorem dX10_safe_33 : decode cX10_safe 33 = .ok (.aload_n 0, 1) := by decide +kernel
theorem dX10_safe_34 : decode cX10_safe 34 = .ok (.getfield 75, 3) := by decide +kernel
theorem dX10_safe_37 : decode cX10_safe 37 = .ok (.iload_n 2, 1) := by decide +kernel
theorem dX10_safe_38 : decode cX10_safe 38 = .ok (.aload_n 0, 1) := by decide +kernel
theorem dX10_safe_39 : decode cX10_safe 39 = .ok (.getfield 32, 3) := by decide +kernel
theorem dX10_safe_42 : decode cX10_safe 42 = .ok (.iload_n 2, 1) := by decide +kernel
theorem dX10_safe_43 : decode cX10_safe 43 = .ok (.iaload, 1) := by decide +kernel
theorem dX10_safe_44 : decode cX10_safe 44 = .ok (.iastore, 1) := by decide +kernel
theorem dX10_safe_45 : decode cX10_safe 45 = .ok (.iinc 2 1, 3) := by decide +kernel
theorem dX10_safe_48 : decode cX10_safe 48 = .ok (.goto (-21), 3) := by decide +kernel
theorem dX10_safe_51 : decode cX10_safe 51 = .ok (.iconst 0, 1) := by decide +kernel
theorem dX10_safe_52 : decode cX10_safe 52 = .ok (.istore_n 2, 1) := by decide +kernel
theorem dX10_safe_53 : decode cX10_safe 53 = .ok (.iconst 0, 1) := by decide +kernel
theorem dX10_safe_54 : decode cX10_safe 54 = .ok (.istore_n 3, 1) := by decide +kernel
theorem dX10_safe_55 : decode cX10_safe 55 = .ok (.iload_n 3, 1) := by decide +kernel
theorem dX10_safe_56 : decode cX10_safe 56 = .ok (.bipush 8, 2) := by decide +kernel
theorem dX10_safe_58 : decode cX10_safe 58 = .ok (.if_icmp .ge 102, 3) := by decide +kernel
theorem dX10_safe_61 : decode cX10_safe 61 = .ok (.aload_n 0, 1) := by decide +kernel
theorem dX10_safe_62 : decode cX10_safe 62 = .ok (.getfield 22, 3) := by decide +kernel
theorem dX10_safe_65 : decode cX10_safe 65 = .ok (.iload_n 1, 1) := by decide +kernel
theorem dX10_safe_66 : decode cX10_safe 66 = .ok (.iaload, 1) := by decide +kernel
theorem dX10_safe_67 : decode cX10_safe 67 = .ok (.iload_n 3, 1) := by decide +kernel
theorem dX10_safe_68 : decode cX10_safe 68 = .ok (.invokestatic 93, 3) := by decide +kernel
theorem dX10_safe_71 : decode cX10_safe 71 = .ok (.ifCond .eq 83, 3) := by decide +kernel
theorem dX10_safe_74 : decode cX10_safe 74 = .ok (.aload_n 0, 1) := by decide +kernel
theorem dX10_safe_75 : decode cX10_safe 75 = .ok (.aload_n 0, 1) := by decide +kernel
theorem dX10_safe_76 : decode cX10_safe 76 = .ok (.getfield 22, 3) := by decide +kernel
theorem dX10_safe_79 : decode cX10_safe 79 = .ok (.iload_n 1, 1) := by decide +kernel
theorem dX10_safe_80 : decode cX10_safe 80 = .ok (.iaload, 1) := by decide +kernel
theorem dX10_safe_81 : decode cX10_safe 81 = .ok (.iconst 1, 1) := by decide +kernel
theorem dX10_safe_82 : decode cX10_safe 82 = .ok (.iload_n 3, 1) := by decide +kernel
theorem dX10_safe_83 : decode cX10_safe 83 = .ok (.ishl, 1) := by decide +kernel
theorem dX10_safe_84 : decode cX10_safe 84 = .ok (.iconst (-1), 1) := by decide +kernel
theorem dX10_safe_85 : decode cX10_safe 85 = .ok (.ixor, 1) := by decide +kernel
theorem dX10_safe_86 : decode cX10_safe 86 = .ok (.iand, 1) := by decide +kernel
theorem dX10_safe_87 : decode cX10_safe 87 = .ok (.invokevirtual 108, 3) := by decide +kernel
theorem dX10_safe_90 : decode cX10_safe 90 = .ok (.pop, 1) := by decide +kernel
theorem dX10_safe_91 : decode cX10_safe 91 = .ok (.iconst 1, 1) := by decide +kernel
theorem dX10_safe_92 : decode cX10_safe 92 = .ok (.istore 4, 2) := by decide +kernel
theorem dX10_safe_94 : decode cX10_safe 94 = .ok (.iconst 0, 1) := by decide +kernel
theorem dX10_safe_95 : decode cX10_safe 95 = .ok (.istore 5, 2) := by decide +kernel
theorem dX10_safe_97 : decode cX10_safe 97 = .ok (.iload 5, 2) := by decide +kernel
theorem dX10_safe_99 : decode cX10_safe 99 = .ok (.bipush 12, 2) := by decide +kernel
theorem dX10_safe_101 : decode cX10_safe 101 = .ok (.if_icmp .ge 38, 3) := by decide +kernel
theorem dX10_safe_104 : decode cX10_safe 104 = .ok (.iload 4, 2) := by decide +kernel
theorem dX10_safe_106 : decode cX10_safe 106 = .ok (.ifCond .eq 24, 3) := by decide +kernel
theorem dX10_safe_109 : decode cX10_safe 109 = .ok (.aload_n 0, 1) := by decide +kernel
theorem dX10_safe_110 : decode cX10_safe 110 = .ok (.getfield 32, 3) := by decide +kernel
theorem dX10_safe_113 : decode cX10_safe 113 = .ok (.iload 5, 2) := by decide +kernel
theorem dX10_safe_115 : decode cX10_safe 115 = .ok (.iaload, 1) := by decide +kernel
theorem dX10_safe_116 : decode cX10_safe 116 = .ok (.aload_n 0, 1) := by decide +kernel
theorem dX10_safe_117 : decode cX10_safe 117 = .ok (.getfield 75, 3) := by decide +kernel
theorem dX10_safe_120 : decode cX10_safe 120 = .ok (.iload 5, 2) := by decide +kernel
theorem dX10_safe_122 : decode cX10_safe 122 = .ok (.iaload, 1) := by decide +kernel
theorem dX10_safe_123 : decode cX10_safe 123 = .ok (.if_icmp .ne 7, 3) := by decide +kernel
theorem dX10_safe_126 : decode cX10_safe 126 = .ok (.iconst 1, 1) := by decide +kernel
theorem dX10_safe_127 : decode cX10_safe 127 = .ok (.goto 4, 3) := by decide +kernel
theorem dX10_safe_130 : decode cX10_safe 130 = .ok (.iconst 0, 1) := by decide +kernel
theorem dX10_safe_131 : decode cX10_safe 131 = .ok (.istore 4, 2) := by decide +kernel
theorem dX10_safe_133 : decode cX10_safe 133 = .ok (.iinc 5 1, 3) := by decide +kernel
theorem dX10_safe_136 : decode cX10_safe 136 = .ok (.goto (-39), 3) := by decide +kernel
theorem dX10_safe_139 : decode cX10_safe 139 = .ok (.iload_n 2, 1) := by decide +kernel
theorem dX10_safe_140 : decode cX10_safe 140 = .ok (.iload 4, 2) := by decide +kernel
theorem dX10_safe_142 : decode cX10_safe 142 = .ok (.ifCond .eq 9, 3) := by decide +kernel
theorem dX10_safe_145 : decode cX10_safe 145 = .ok (.iconst 1, 1) := by decide +kernel
theorem dX10_safe_146 : decode cX10_safe 146 = .ok (.iload_n 3, 1) := by decide +kernel
theorem dX10_safe_147 : decode cX10_safe 147 = .ok (.ishl, 1) := by decide +kernel
theorem dX10_safe_148 : decode cX10_safe 148 = .ok (.goto 4, 3) := by decide +kernel
theorem dX10_safe_151 : decode cX10_safe 151 = .ok (.iconst 0, 1) := by decide +kernel
theorem dX10_safe_152 : decode cX10_safe 152 = .ok (.ior, 1) := by decide +kernel
theorem dX10_safe_153 : decode cX10_safe 153 = .ok (.istore_n 2, 1) := by decide +kernel
theorem dX10_safe_154 : decode cX10_safe 154 = .ok (.iinc 3 1, 3) := by decide +kernel
theorem dX10_safe_157 : decode cX10_safe 157 = .ok (.goto (-102), 3) := by decide +kernel
theorem dX10_safe_160 : decode cX10_safe 160 = .ok (.iload_n 2, 1) := by decide +kernel
theorem dX10_safe_161 : decode cX10_safe 161 = .ok (.ireturn, 1) := by decide +kernel
theorem dX10_ordersOf_0 : decode cX10_ordersOf 0 = .ok (.lconst 1, 1) := by decide +kernel
theorem dX10_ordersOf_1 : decode cX10_ordersOf 1 = .ok (.lstore_n 1, 1) := by decide +kernel
theorem dX10_ordersOf_2 : decode cX10_ordersOf 2 = .ok (.iconst 2, 1) := by decide +kernel
theorem dX10_ordersOf_3 : decode cX10_ordersOf 3 = .ok (.istore_n 3, 1) := by decide +kernel
theorem dX10_ordersOf_4 : decode cX10_ordersOf 4 = .ok (.iload_n 3, 1) := by decide +kernel
theorem dX10_ordersOf_5 : decode cX10_ordersOf 5 = .ok (.iload_n 0, 1) := by decide +kernel
theorem dX10_ordersOf_6 : decode cX10_ordersOf 6 = .ok (.if_icmp .gt 14, 3) := by decide +kernel
theorem dX10_ordersOf_9 : decode cX10_ordersOf 9 = .ok (.lload_n 1, 1) := by decide +kernel
theorem dX10_ordersOf_10 : decode cX10_ordersOf 10 = .ok (.iload_n 3, 1) := by decide +kernel
theorem dX10_ordersOf_11 : decode cX10_ordersOf 11 = .ok (.i2l, 1) := by decide +kernel
theorem dX10_ordersOf_12 : decode cX10_ordersOf 12 = .ok (.lmul, 1) := by decide +kernel
theorem dX10_ordersOf_13 : decode cX10_ordersOf 13 = .ok (.lstore_n 1, 1) := by decide +kernel
theorem dX10_ordersOf_14 : decode cX10_ordersOf 14 = .ok (.iinc 3 1, 3) := by decide +kernel
theorem dX10_ordersOf_17 : decode cX10_ordersOf 17 = .ok (.goto (-13), 3) := by decide +kernel
theorem dX10_ordersOf_20 : decode cX10_ordersOf 20 = .ok (.lload_n 1, 1) := by decide +kernel
theorem dX10_ordersOf_21 : decode cX10_ordersOf 21 = .ok (.lreturn, 1) := by decide +kernel
theorem dX10_adds_0 : decode cX10_adds 0 = .ok (.aload_n 0, 1) := by decide +kernel
theorem dX10_adds_1 : decode cX10_adds 1 = .ok (.iconst 0, 1) := by decide +kernel
theorem dX10_adds_2 : decode cX10_adds 2 = .ok (.putfield 78, 3) := by decide +kernel
theorem dX10_adds_5 : decode cX10_adds 5 = .ok (.aload_n 0, 1) := by decide +kernel
theorem dX10_adds_6 : decode cX10_adds 6 = .ok (.iload_n 1, 1) := by decide +kernel
theorem dX10_adds_7 : decode cX10_adds 7 = .ok (.invokevirtual 160, 3) := by decide +kernel
theorem dX10_adds_10 : decode cX10_adds 10 = .ok (.ifCond .eq 19, 3) := by decide +kernel
theorem dX10_adds_13 : decode cX10_adds 13 = .ok (.iload_n 2, 1) := by decide +kernel
theorem dX10_adds_14 : decode cX10_adds 14 = .ok (.invokestatic 217, 3) := by decide +kernel
theorem dX10_adds_17 : decode cX10_adds 17 = .ok (.ifCond .eq 12, 3) := by decide +kernel
theorem dX10_adds_20 : decode cX10_adds 20 = .ok (.iconst 0, 1) := by decide +kernel
theorem dX10_adds_21 : decode cX10_adds 21 = .ok (.iload_n 3, 1) := by decide +kernel
theorem dX10_adds_22 : decode cX10_adds 22 = .ok (.iconst 1, 1) := by decide +kernel
theorem dX10_adds_23 : decode cX10_adds 23 = .ok (.invokestatic 225, 3) := by decide +kernel
theorem dX10_adds_26 : decode cX10_adds 26 = .ok (.goto 4, 3) := by decide +kernel
theorem dX10_adds_29 : decode cX10_adds 29 = .ok (.iconst (-1), 1) := by decide +kernel
theorem dX10_adds_30 : decode cX10_adds 30 = .ok (.istore 4, 2) := by decide +kernel
theorem dX10_adds_32 : decode cX10_adds 32 = .ok (.iload 4, 2) := by decide +kernel
theorem dX10_adds_34 : decode cX10_adds 34 = .ok (.ifCond .ne 21, 3) := by decide +kernel
theorem dX10_adds_37 : decode cX10_adds 37 = .ok (.aload_n 0, 1) := by decide +kernel
theorem dX10_adds_38 : decode cX10_adds 38 = .ok (.getfield 22, 3) := by decide +kernel
theorem dX10_adds_41 : decode cX10_adds 41 = .ok (.iload_n 1, 1) := by decide +kernel
theorem dX10_adds_42 : decode cX10_adds 42 = .ok (.iaload, 1) := by decide +kernel
theorem dX10_adds_43 : decode cX10_adds 43 = .ok (.iload_n 2, 1) := by decide +kernel
theorem dX10_adds_44 : decode cX10_adds 44 = .ok (.invokestatic 93, 3) := by decide +kernel
theorem dX10_adds_47 : decode cX10_adds 47 = .ok (.ifCond .ne 8, 3) := by decide +kernel
theorem dX10_adds_50 : decode cX10_adds 50 = .ok (.bipush (-3), 2) := by decide +kernel
theorem dX10_adds_52 : decode cX10_adds 52 = .ok (.goto 5, 3) := by decide +kernel
theorem dX10_adds_55 : decode cX10_adds 55 = .ok (.iload 4, 2) := by decide +kernel
theorem dX10_adds_57 : decode cX10_adds 57 = .ok (.istore 4, 2) := by decide +kernel
theorem dX10_adds_59 : decode cX10_adds 59 = .ok (.iload 4, 2) := by decide +kernel
theorem dX10_adds_61 : decode cX10_adds 61 = .ok (.ifCond .ge 15, 3) := by decide +kernel
theorem dX10_adds_64 : decode cX10_adds 64 = .ok (.ldc2_w 252, 3) := by decide +kernel
theorem dX10_adds_67 : decode cX10_adds 67 = .ok (.aload_n 0, 1) := by decide +kernel
theorem dX10_adds_68 : decode cX10_adds 68 = .ok (.iload 4, 2) := by decide +kernel
theorem dX10_adds_70 : decode cX10_adds 70 = .ok (.invokevirtual 121, 3) := by decide +kernel
theorem dX10_adds_73 : decode cX10_adds 73 = .ok (.i2l, 1) := by decide +kernel
theorem dX10_adds_74 : decode cX10_adds 74 = .ok (.lsub, 1) := by decide +kernel
theorem dX10_adds_75 : decode cX10_adds 75 = .ok (.lreturn, 1) := by decide +kernel
theorem dX10_adds_76 : decode cX10_adds 76 = .ok (.aload_n 0, 1) := by decide +kernel
theorem dX10_adds_77 : decode cX10_adds 77 = .ok (.getfield 22, 3) := by decide +kernel
theorem dX10_adds_80 : decode cX10_adds 80 = .ok (.iload_n 1, 1) := by decide +kernel
theorem dX10_adds_81 : decode cX10_adds 81 = .ok (.iaload, 1) := by decide +kernel
theorem dX10_adds_82 : decode cX10_adds 82 = .ok (.istore 5, 2) := by decide +kernel
theorem dX10_adds_84 : decode cX10_adds 84 = .ok (.iload 5, 2) := by decide +kernel
theorem dX10_adds_86 : decode cX10_adds 86 = .ok (.invokestatic 112, 3) := by decide +kernel
theorem dX10_adds_89 : decode cX10_adds 89 = .ok (.istore 6, 2) := by decide +kernel
theorem dX10_adds_91 : decode cX10_adds 91 = .ok (.lconst 0, 1) := by decide +kernel
theorem dX10_adds_92 : decode cX10_adds 92 = .ok (.lstore 7, 2) := by decide +kernel
theorem dX10_adds_94 : decode cX10_adds 94 = .ok (.iconst 0, 1) := by decide +kernel
theorem dX10_adds_95 : decode cX10_adds 95 = .ok (.istore 9, 2) := by decide +kernel
theorem dX10_adds_97 : decode cX10_adds 97 = .ok (.iload 9, 2) := by decide +kernel
theorem dX10_adds_99 : decode cX10_adds 99 = .ok (.sipush 256, 3) := by decide +kernel
theorem dX10_adds_102 : decode cX10_adds 102 = .ok (.if_icmp .ge 78, 3) := by decide +kernel
theorem dX10_adds_105 : decode cX10_adds 105 = .ok (.iload 9, 2) := by decide +kernel
theorem dX10_adds_107 : decode cX10_adds 107 = .ok (.iload 5, 2) := by decide +kernel
theorem dX10_adds_109 : decode cX10_adds 109 = .ok (.iconst (-1), 1) := by decide +kernel
theorem dX10_adds_110 : decode cX10_adds 110 = .ok (.ixor, 1) := by decide +kernel
theorem dX10_adds_111 : decode cX10_adds 111 = .ok (.iand, 1) := by decide +kernel
theorem dX10_adds_112 : decode cX10_adds 112 = .ok (.ifCond .ne 62, 3) := by decide +kernel
theorem dX10_adds_115 : decode cX10_adds 115 = .ok (.iload 9, 2) := by decide +kernel
theorem dX10_adds_117 : decode cX10_adds 117 = .ok (.iload_n 2, 1) := by decide +kernel
theorem dX10_adds_118 : decode cX10_adds 118 = .ok (.invokestatic 93, 3) := by decide +kernel
theorem dX10_adds_121 : decode cX10_adds 121 = .ok (.ifCond .ne 53, 3) := by decide +kernel
theorem dX10_adds_124 : decode cX10_adds 124 = .ok (.iload 9, 2) := by decide +kernel
theorem dX10_adds_126 : decode cX10_adds 126 = .ok (.invokestatic 112, 3) := by decide +kernel
theorem dX10_adds_129 : decode cX10_adds 129 = .ok (.invokestatic 273, 3) := by decide +kernel
theorem dX10_adds_132 : decode cX10_adds 132 = .ok (.iload 6, 2) := by decide +kernel
theorem dX10_adds_134 : decode cX10_adds 134 = .ok (.iconst 1, 1) := by decide +kernel
theorem dX10_adds_135 : decode cX10_adds 135 = .ok (.isub, 1) := by decide +kernel
theorem dX10_adds_136 : decode cX10_adds 136 = .ok (.iload 9, 2) := by decide +kernel
theorem dX10_adds_138 : decode cX10_adds 138 = .ok (.invokestatic 112, 3) := by decide +kernel
theorem dX10_adds_141 : decode cX10_adds 141 = .ok (.isub, 1) := by decide +kernel
theorem dX10_adds_142 : decode cX10_adds 142 = .ok (.invokestatic 273, 3) := by decide +kernel
theorem dX10_adds_145 : decode cX10_adds 145 = .ok (.lmul, 1) := by decide +kernel
theorem dX10_adds_146 : decode cX10_adds 146 = .ok (.lstore 10, 2) := by decide +kernel
theorem dX10_adds_148 : decode cX10_adds 148 = .ok (.lload 7, 2) := by decide +kernel
theorem dX10_adds_150 : decode cX10_adds 150 = .ok (.lload 10, 2) := by decide +kernel
theorem dX10_adds_152 : decode cX10_adds 152 = .ok (.aload_n 0, 1) := by decide +kernel
theorem dX10_adds_153 : decode cX10_adds 153 = .ok (.iload 9, 2) := by decide +kernel
theorem dX10_adds_155 : decode cX10_adds 155 = .ok (.iconst 1, 1) := by decide +kernel
theorem dX10_adds_156 : decode cX10_adds 156 = .ok (.iload_n 2, 1) := by decide +kernel
theorem dX10_adds_157 : decode cX10_adds 157 = .ok (.ishl, 1) := by decide +kernel
theorem dX10_adds_158 : decode cX10_adds 158 = .ok (.ior, 1) := by decide +kernel
theorem dX10_adds_159 : decode cX10_adds 159 = .ok (.invokevirtual 233, 3) := by decide +kernel
theorem dX10_adds_162 : decode cX10_adds 162 = .ok (.aload_n 0, 1) := by decide +kernel
theorem dX10_adds_163 : decode cX10_adds 163 = .ok (.iload 9, 2) := by decide +kernel
theorem dX10_adds_165 : decode cX10_adds 165 = .ok (.invokevirtual 233, 3) := by decide +kernel
theorem dX10_adds_168 : decode cX10_adds 168 = .ok (.isub, 1) := by decide +kernel
theorem dX10_adds_169 : decode cX10_adds 169 = .ok (.i2l, 1) := by decide +kernel
theorem dX10_adds_170 : decode cX10_adds 170 = .ok (.lmul, 1) := by decide +kernel
theorem dX10_adds_171 : decode cX10_adds 171 = .ok (.ladd, 1) := by decide +kernel
theorem dX10_adds_172 : decode cX10_adds 172 = .ok (.lstore 7, 2) := by decide +kernel
theorem dX10_adds_174 : decode cX10_adds 174 = .ok (.iinc 9 1, 3) := by decide +kernel
theorem dX10_adds_177 : decode cX10_adds 177 = .ok (.goto (-80), 3) := by decide +kernel
theorem dX10_adds_180 : decode cX10_adds 180 = .ok (.lload 7, 2) := by decide +kernel
theorem dX10_adds_182 : decode cX10_adds 182 = .ok (.lconst 0, 1) := by decide +kernel
theorem dX10_adds_183 : decode cX10_adds 183 = .ok (.lcmp, 1) := by decide +kernel
theorem dX10_adds_184 : decode cX10_adds 184 = .ok (.ifCond .ne 6, 3) := by decide +kernel
theorem dX10_adds_187 : decode cX10_adds 187 = .ok (.iload_n 3, 1) := by decide +kernel
theorem dX10_adds_188 : decode cX10_adds 188 = .ok (.i2l, 1) := by decide +kernel
theorem dX10_adds_189 : decode cX10_adds 189 = .ok (.lreturn, 1) := by decide +kernel
theorem dX10_adds_190 : decode cX10_adds 190 = .ok (.lload 7, 2) := by decide +kernel
theorem dX10_adds_192 : decode cX10_adds 192 = .ok (.lconst 0, 1) := by decide +kernel
theorem dX10_adds_193 : decode cX10_adds 193 = .ok (.lcmp, 1) := by decide +kernel
theorem dX10_adds_194 : decode cX10_adds 194 = .ok (.ifCond .ge 9, 3) := by decide +kernel
theorem dX10_adds_197 : decode cX10_adds 197 = .ok (.lload 7, 2) := by decide +kernel
theorem dX10_adds_199 : decode cX10_adds 199 = .ok (.lneg, 1) := by decide +kernel
theorem dX10_adds_200 : decode cX10_adds 200 = .ok (.goto 5, 3) := by decide +kernel
theorem dX10_adds_203 : decode cX10_adds 203 = .ok (.lload 7, 2) := by decide +kernel
theorem dX10_adds_205 : decode cX10_adds 205 = .ok (.iload 6, 2) := by decide +kernel
theorem dX10_adds_207 : decode cX10_adds 207 = .ok (.invokestatic 273, 3) := by decide +kernel
theorem dX10_adds_210 : decode cX10_adds 210 = .ok (.invokestatic 248, 3) := by decide +kernel
theorem dX10_adds_213 : decode cX10_adds 213 = .ok (.lstore 9, 2) := by decide +kernel
theorem dX10_adds_215 : decode cX10_adds 215 = .ok (.iload_n 3, 1) := by decide +kernel
theorem dX10_adds_216 : decode cX10_adds 216 = .ok (.ifCond .ne 11, 3) := by decide +kernel
theorem dX10_adds_219 : decode cX10_adds 219 = .ok (.lload 7, 2) := by decide +kernel
theorem dX10_adds_221 : decode cX10_adds 221 = .ok (.lload 9, 2) := by decide +kernel
theorem dX10_adds_223 : decode cX10_adds 223 = .ok (.ldiv, 1) := by decide +kernel
theorem dX10_adds_224 : decode cX10_adds 224 = .ok (.goto 11, 3) := by decide +kernel
theorem dX10_adds_227 : decode cX10_adds 227 = .ok (.iload 6, 2) := by decide +kernel
theorem dX10_adds_229 : decode cX10_adds 229 = .ok (.invokestatic 273, 3) := by decide +kernel
theorem dX10_adds_232 : decode cX10_adds 232 = .ok (.lload 9, 2) := by decide +kernel
theorem dX10_adds_234 : decode cX10_adds 234 = .ok (.ldiv, 1) := by decide +kernel
theorem dX10_adds_235 : decode cX10_adds 235 = .ok (.lreturn, 1) := by decide +kernel
theorem dX10_ways_0 : decode cX10_ways 0 = .ok (.aload_n 0, 1) := by decide +kernel
theorem dX10_ways_1 : decode cX10_ways 1 = .ok (.iconst 0, 1) := by decide +kernel
theorem dX10_ways_2 : decode cX10_ways 2 = .ok (.putfield 78, 3) := by decide +kernel
theorem dX10_ways_5 : decode cX10_ways 5 = .ok (.aload_n 0, 1) := by decide +kernel
theorem dX10_ways_6 : decode cX10_ways 6 = .ok (.iload_n 1, 1) := by decide +kernel
theorem dX10_ways_7 : decode cX10_ways 7 = .ok (.invokevirtual 206, 3) := by decide +kernel
theorem dX10_ways_10 : decode cX10_ways 10 = .ok (.ifCond .eq 12, 3) := by decide +kernel
theorem dX10_ways_13 : decode cX10_ways 13 = .ok (.iconst 0, 1) := by decide +kernel
theorem dX10_ways_14 : decode cX10_ways 14 = .ok (.iload_n 2, 1) := by decide +kernel
theorem dX10_ways_15 : decode cX10_ways 15 = .ok (.iconst 1, 1) := by decide +kernel
theorem dX10_ways_16 : decode cX10_ways 16 = .ok (.invokestatic 225, 3) := by decide +kernel
theorem dX10_ways_19 : decode cX10_ways 19 = .ok (.goto 4, 3) := by decide +kernel
theorem dX10_ways_22 : decode cX10_ways 22 = .ok (.iconst (-1), 1) := by decide +kernel
theorem dX10_ways_23 : decode cX10_ways 23 = .ok (.istore_n 3, 1) := by decide +kernel
theorem dX10_ways_24 : decode cX10_ways 24 = .ok (.iload_n 3, 1) := by decide +kernel
theorem dX10_ways_25 : decode cX10_ways 25 = .ok (.ifCond .ge 9, 3) := by decide +kernel
theorem dX10_ways_28 : decode cX10_ways 28 = .ok (.aload_n 0, 1) := by decide +kernel
theorem dX10_ways_29 : decode cX10_ways 29 = .ok (.iload_n 3, 1) := by decide +kernel
theorem dX10_ways_30 : decode cX10_ways 30 = .ok (.invokevirtual 121, 3) := by decide +kernel
theorem dX10_ways_33 : decode cX10_ways 33 = .ok (.ireturn, 1) := by decide +kernel
theorem dX10_ways_34 : decode cX10_ways 34 = .ok (.iconst 0, 1) := by decide +kernel
theorem dX10_ways_35 : decode cX10_ways 35 = .ok (.istore 4, 2) := by decide +kernel
theorem dX10_ways_37 : decode cX10_ways 37 = .ok (.bipush (-9), 2) := by decide +kernel
theorem dX10_ways_39 : decode cX10_ways 39 = .ok (.istore 5, 2) := by decide +kernel
theorem dX10_ways_41 : decode cX10_ways 41 = .ok (.iconst 0, 1) := by decide +kernel
theorem dX10_ways_42 : decode cX10_ways 42 = .ok (.istore 6, 2) := by decide +kernel
theorem dX10_ways_44 : decode cX10_ways 44 = .ok (.iload 6, 2) := by decide +kernel
theorem dX10_ways_46 : decode cX10_ways 46 = .ok (.sipush 256, 3) := by decide +kernel
theorem dX10_ways_49 : decode cX10_ways 49 = .ok (.if_icmp .ge 68, 3) := by decide +kernel
theorem dX10_ways_52 : decode cX10_ways 52 = .ok (.aload_n 0, 1) := by decide +kernel
theorem dX10_ways_53 : decode cX10_ways 53 = .ok (.iload 6, 2) := by decide +kernel
theorem dX10_ways_55 : decode cX10_ways 55 = .ok (.invokevirtual 108, 3) := by decide +kernel
theorem dX10_ways_58 : decode cX10_ways 58 = .ok (.iload_n 1, 1) := by decide +kernel
theorem dX10_ways_59 : decode cX10_ways 59 = .ok (.invokestatic 93, 3) := by decide +kernel
theorem dX10_ways_62 : decode cX10_ways 62 = .ok (.istore 7, 2) := by decide +kernel
theorem dX10_ways_64 : decode cX10_ways 64 = .ok (.iload 4, 2) := by decide +kernel
theorem dX10_ways_66 : decode cX10_ways 66 = .ok (.iload 7, 2) := by decide +kernel
theorem dX10_ways_68 : decode cX10_ways 68 = .ok (.ifCond .eq 7, 3) := by decide +kernel
theorem dX10_ways_71 : decode cX10_ways 71 = .ok (.iconst 1, 1) := by decide +kernel
theorem dX10_ways_72 : decode cX10_ways 72 = .ok (.goto 4, 3) := by decide +kernel
theorem dX10_ways_75 : decode cX10_ways 75 = .ok (.iconst 0, 1) := by decide +kernel
theorem dX10_ways_76 : decode cX10_ways 76 = .ok (.iadd, 1) := by decide +kernel
theorem dX10_ways_77 : decode cX10_ways 77 = .ok (.istore 4, 2) := by decide +kernel
theorem dX10_ways_79 : decode cX10_ways 79 = .ok (.iload 7, 2) := by decide +kernel
theorem dX10_ways_81 : decode cX10_ways 81 = .ok (.ifCond .eq 26, 3) := by decide +kernel
theorem dX10_ways_84 : decode cX10_ways 84 = .ok (.iload 5, 2) := by decide +kernel
theorem dX10_ways_86 : decode cX10_ways 86 = .ok (.ifCond .lt 16, 3) := by decide +kernel
theorem dX10_ways_89 : decode cX10_ways 89 = .ok (.iload 6, 2) := by decide +kernel
theorem dX10_ways_91 : decode cX10_ways 91 = .ok (.invokestatic 112, 3) := by decide +kernel
theorem dX10_ways_94 : decode cX10_ways 94 = .ok (.iload 5, 2) := by decide +kernel
theorem dX10_ways_96 : decode cX10_ways 96 = .ok (.invokestatic 112, 3) := by decide +kernel
theorem dX10_ways_99 : decode cX10_ways 99 = .ok (.if_icmp .ge 8, 3) := by decide +kernel
theorem dX10_ways_102 : decode cX10_ways 102 = .ok (.iload 6, 2) := by decide +kernel
theorem dX10_ways_104 : decode cX10_ways 104 = .ok (.goto 5, 3) := by decide +kernel
theorem dX10_ways_107 : decode cX10_ways 107 = .ok (.iload 5, 2) := by decide +kernel
theorem dX10_ways_109 : decode cX10_ways 109 = .ok (.istore 5, 2) := by decide +kernel
theorem dX10_ways_111 : decode cX10_ways 111 = .ok (.iinc 6 1, 3) := by decide +kernel
theorem dX10_ways_114 : decode cX10_ways 114 = .ok (.goto (-70), 3) := by decide +kernel
theorem dX10_ways_117 : decode cX10_ways 117 = .ok (.iload_n 2, 1) := by decide +kernel
theorem dX10_ways_118 : decode cX10_ways 118 = .ok (.ifCond .ne 8, 3) := by decide +kernel
theorem dX10_ways_121 : decode cX10_ways 121 = .ok (.iload 4, 2) := by decide +kernel
theorem dX10_ways_123 : decode cX10_ways 123 = .ok (.goto 5, 3) := by decide +kernel
theorem dX10_ways_126 : decode cX10_ways 126 = .ok (.iload 5, 2) := by decide +kernel
theorem dX10_ways_128 : decode cX10_ways 128 = .ok (.ireturn, 1) := by decide +kernel
theorem dX10_behind_0 : decode cX10_behind 0 = .ok (.aload_n 0, 1) := by decide +kernel
theorem dX10_behind_1 : decode cX10_behind 1 = .ok (.iconst 0, 1) := by decide +kernel
theorem dX10_behind_2 : decode cX10_behind 2 = .ok (.putfield 78, 3) := by decide +kernel
theorem dX10_behind_5 : decode cX10_behind 5 = .ok (.aload_n 0, 1) := by decide +kernel
theorem dX10_behind_6 : decode cX10_behind 6 = .ok (.iload_n 1, 1) := by decide +kernel
theorem dX10_behind_7 : decode cX10_behind 7 = .ok (.invokevirtual 160, 3) := by decide +kernel
theorem dX10_behind_10 : decode cX10_behind 10 = .ok (.ifCond .eq 13, 3) := by decide +kernel
theorem dX10_behind_13 : decode cX10_behind 13 = .ok (.iload_n 2, 1) := by decide +kernel
theorem dX10_behind_14 : decode cX10_behind 14 = .ok (.iconst 0, 1) := by decide +kernel
theorem dX10_behind_15 : decode cX10_behind 15 = .ok (.bipush 60, 2) := by decide +kernel
theorem dX10_behind_17 : decode cX10_behind 17 = .ok (.invokestatic 213, 3) := by decide +kernel
theorem dX10_behind_20 : decode cX10_behind 20 = .ok (.goto 4, 3) := by decide +kernel
theorem dX10_behind_23 : decode cX10_behind 23 = .ok (.iconst (-1), 1) := by decide +kernel
theorem dX10_behind_24 : decode cX10_behind 24 = .ok (.istore_n 3, 1) := by decide +kernel
theorem dX10_behind_25 : decode cX10_behind 25 = .ok (.iload_n 3, 1) := by decide +kernel
theorem dX10_behind_26 : decode cX10_behind 26 = .ok (.ifCond .ge 9, 3) := by decide +kernel
theorem dX10_behind_29 : decode cX10_behind 29 = .ok (.aload_n 0, 1) := by decide +kernel
theorem dX10_behind_30 : decode cX10_behind 30 = .ok (.iload_n 3, 1) := by decide +kernel
theorem dX10_behind_31 : decode cX10_behind 31 = .ok (.invokevirtual 121, 3) := by decide +kernel
theorem dX10_behind_34 : decode cX10_behind 34 = .ok (.ireturn, 1) := by decide +kernel
theorem dX10_behind_35 : decode cX10_behind 35 = .ok (.aload_n 0, 1) := by decide +kernel
theorem dX10_behind_36 : decode cX10_behind 36 = .ok (.getfield 22, 3) := by decide +kernel
theorem dX10_behind_39 : decode cX10_behind 39 = .ok (.iload_n 1, 1) := by decide +kernel
theorem dX10_behind_40 : decode cX10_behind 40 = .ok (.iaload, 1) := by decide +kernel
theorem dX10_behind_41 : decode cX10_behind 41 = .ok (.istore 4, 2) := by decide +kernel
theorem dX10_behind_43 : decode cX10_behind 43 = .ok (.iconst 0, 1) := by decide +kernel
theorem dX10_behind_44 : decode cX10_behind 44 = .ok (.istore 5, 2) := by decide +kernel
theorem dX10_behind_46 : decode cX10_behind 46 = .ok (.iload 5, 2) := by decide +kernel
theorem dX10_behind_48 : decode cX10_behind 48 = .ok (.iload_n 2, 1) := by decide +kernel
theorem dX10_behind_49 : decode cX10_behind 49 = .ok (.if_icmp .ge 25, 3) := by decide +kernel
theorem dX10_behind_52 : decode cX10_behind 52 = .ok (.aload_n 0, 1) := by decide +kernel
theorem dX10_behind_53 : decode cX10_behind 53 = .ok (.iload 4, 2) := by decide +kernel
theorem dX10_behind_55 : decode cX10_behind 55 = .ok (.invokevirtual 108, 3) := by decide +kernel
theorem dX10_behind_58 : decode cX10_behind 58 = .ok (.pop, 1) := by decide +kernel
theorem dX10_behind_59 : decode cX10_behind 59 = .ok (.aload_n 0, 1) := by decide +kernel
theorem dX10_behind_60 : decode cX10_behind 60 = .ok (.getfield 35, 3) := by decide +kernel
theorem dX10_behind_63 : decode cX10_behind 63 = .ok (.bipush 11, 2) := by decide +kernel
theorem dX10_behind_65 : decode cX10_behind 65 = .ok (.iaload, 1) := by decide +kernel
theorem dX10_behind_66 : decode cX10_behind 66 = .ok (.istore 4, 2) := by decide +kernel
theorem dX10_behind_68 : decode cX10_behind 68 = .ok (.iinc 5 1, 3) := by decide +kernel
theorem dX10_behind_71 : decode cX10_behind 71 = .ok (.goto (-25), 3) := by decide +kernel
theorem dX10_behind_74 : decode cX10_behind 74 = .ok (.iload 4, 2) := by decide +kernel
theorem dX10_behind_76 : decode cX10_behind 76 = .ok (.ireturn, 1) := by decide +kernel
theorem dX10_give_0 : decode cX10_give 0 = .ok (.aload_n 0, 1) := by decide +kernel
theorem dX10_give_1 : decode cX10_give 1 = .ok (.iconst 0, 1) := by decide +kernel
theorem dX10_give_2 : decode cX10_give 2 = .ok (.putfield 78, 3) := by decide +kernel
theorem dX10_give_5 : decode cX10_give 5 = .ok (.aload_n 0, 1) := by decide +kernel
theorem dX10_give_6 : decode cX10_give 6 = .ok (.iload_n 1, 1) := by decide +kernel
theorem dX10_give_7 : decode cX10_give 7 = .ok (.iload_n 2, 1) := by decide +kernel
theorem dX10_give_8 : decode cX10_give 8 = .ok (.invokevirtual 270, 3) := by decide +kernel
theorem dX10_give_11 : decode cX10_give 11 = .ok (.ifCond .ne 9, 3) := by decide +kernel
theorem dX10_give_14 : decode cX10_give 14 = .ok (.aload_n 0, 1) := by decide +kernel
theorem dX10_give_15 : decode cX10_give 15 = .ok (.iconst (-1), 1) := by decide +kernel
theorem dX10_give_16 : decode cX10_give 16 = .ok (.invokevirtual 121, 3) := by decide +kernel
theorem dX10_give_19 : decode cX10_give 19 = .ok (.ireturn, 1) := by decide +kernel
theorem dX10_give_20 : decode cX10_give 20 = .ok (.aload_n 0, 1) := by decide +kernel
theorem dX10_give_21 : decode cX10_give 21 = .ok (.aload_n 0, 1) := by decide +kernel
theorem dX10_give_22 : decode cX10_give 22 = .ok (.getfield 22, 3) := by decide +kernel
theorem dX10_give_25 : decode cX10_give 25 = .ok (.iload_n 1, 1) := by decide +kernel
theorem dX10_give_26 : decode cX10_give 26 = .ok (.iaload, 1) := by decide +kernel
theorem dX10_give_27 : decode cX10_give 27 = .ok (.invokevirtual 233, 3) := by decide +kernel
theorem dX10_give_30 : decode cX10_give 30 = .ok (.aload_n 0, 1) := by decide +kernel
theorem dX10_give_31 : decode cX10_give 31 = .ok (.aload_n 0, 1) := by decide +kernel
theorem dX10_give_32 : decode cX10_give 32 = .ok (.getfield 22, 3) := by decide +kernel
theorem dX10_give_35 : decode cX10_give 35 = .ok (.iload_n 2, 1) := by decide +kernel
theorem dX10_give_36 : decode cX10_give 36 = .ok (.iaload, 1) := by decide +kernel
theorem dX10_give_37 : decode cX10_give 37 = .ok (.invokevirtual 233, 3) := by decide +kernel
theorem dX10_give_40 : decode cX10_give 40 = .ok (.iadd, 1) := by decide +kernel
theorem dX10_give_41 : decode cX10_give 41 = .ok (.istore_n 3, 1) := by decide +kernel
theorem dX10_give_42 : decode cX10_give 42 = .ok (.bipush (-9), 2) := by decide +kernel
theorem dX10_give_44 : decode cX10_give 44 = .ok (.istore 4, 2) := by decide +kernel
theorem dX10_give_46 : decode cX10_give 46 = .ok (.iconst 0, 1) := by decide +kernel
theorem dX10_give_47 : decode cX10_give 47 = .ok (.istore 5, 2) := by decide +kernel
theorem dX10_give_49 : decode cX10_give 49 = .ok (.iload 5, 2) := by decide +kernel
theorem dX10_give_51 : decode cX10_give 51 = .ok (.bipush 8, 2) := by decide +kernel
theorem dX10_give_53 : decode cX10_give 53 = .ok (.if_icmp .ge 86, 3) := by decide +kernel
theorem dX10_give_56 : decode cX10_give 56 = .ok (.aload_n 0, 1) := by decide +kernel
theorem dX10_give_57 : decode cX10_give 57 = .ok (.getfield 22, 3) := by decide +kernel
theorem dX10_give_60 : decode cX10_give 60 = .ok (.iload_n 1, 1) := by decide +kernel
theorem dX10_give_61 : decode cX10_give 61 = .ok (.iaload, 1) := by decide +kernel
theorem dX10_give_62 : decode cX10_give 62 = .ok (.iload 5, 2) := by decide +kernel
theorem dX10_give_64 : decode cX10_give 64 = .ok (.invokestatic 93, 3) := by decide +kernel
theorem dX10_give_67 : decode cX10_give 67 = .ok (.ifCond .eq 66, 3) := by decide +kernel
theorem dX10_give_70 : decode cX10_give 70 = .ok (.aload_n 0, 1) := by decide +kernel
theorem dX10_give_71 : decode cX10_give 71 = .ok (.aload_n 0, 1) := by decide +kernel
theorem dX10_give_72 : decode cX10_give 72 = .ok (.getfield 22, 3) := by decide +kernel
theorem dX10_give_75 : decode cX10_give 75 = .ok (.iload_n 1, 1) := by decide +kernel
theorem dX10_give_76 : decode cX10_give 76 = .ok (.iaload, 1) := by decide +kernel
theorem dX10_give_77 : decode cX10_give 77 = .ok (.iconst 1, 1) := by decide +kernel
theorem dX10_give_78 : decode cX10_give 78 = .ok (.iload 5, 2) := by decide +kernel
theorem dX10_give_80 : decode cX10_give 80 = .ok (.ishl, 1) := by decide +kernel
theorem dX10_give_81 : decode cX10_give 81 = .ok (.iconst (-1), 1) := by decide +kernel
theorem dX10_give_82 : decode cX10_give 82 = .ok (.ixor, 1) := by decide +kernel
theorem dX10_give_83 : decode cX10_give 83 = .ok (.iand, 1) := by decide +kernel
theorem dX10_give_84 : decode cX10_give 84 = .ok (.invokevirtual 233, 3) := by decide +kernel
theorem dX10_give_87 : decode cX10_give 87 = .ok (.aload_n 0, 1) := by decide +kernel
theorem dX10_give_88 : decode cX10_give 88 = .ok (.aload_n 0, 1) := by decide +kernel
theorem dX10_give_89 : decode cX10_give 89 = .ok (.getfield 22, 3) := by decide +kernel
theorem dX10_give_92 : decode cX10_give 92 = .ok (.iload_n 2, 1) := by decide +kernel
theorem dX10_give_93 : decode cX10_give 93 = .ok (.iaload, 1) := by decide +kernel
theorem dX10_give_94 : decode cX10_give 94 = .ok (.iconst 1, 1) := by decide +kernel
theorem dX10_give_95 : decode cX10_give 95 = .ok (.iload 5, 2) := by decide +kernel
theorem dX10_give_97 : decode cX10_give 97 = .ok (.ishl, 1) := by decide +kernel
theorem dX10_give_98 : decode cX10_give 98 = .ok (.ior, 1) := by decide +kernel
theorem dX10_give_99 : decode cX10_give 99 = .ok (.invokevirtual 233, 3) := by decide +kernel
theorem dX10_give_102 : decode cX10_give 102 = .ok (.iadd, 1) := by decide +kernel
theorem dX10_give_103 : decode cX10_give 103 = .ok (.istore 6, 2) := by decide +kernel
theorem dX10_give_105 : decode cX10_give 105 = .ok (.iload 6, 2) := by decide +kernel
theorem dX10_give_107 : decode cX10_give 107 = .ok (.iload_n 3, 1) := by decide +kernel
theorem dX10_give_108 : decode cX10_give 108 = .ok (.if_icmp .le 8, 3) := by decide +kernel
theorem dX10_give_111 : decode cX10_give 111 = .ok (.iload 5, 2) := by decide +kernel
theorem dX10_give_113 : decode cX10_give 113 = .ok (.goto 5, 3) := by decide +kernel
theorem dX10_give_116 : decode cX10_give 116 = .ok (.iload 4, 2) := by decide +kernel
theorem dX10_give_118 : decode cX10_give 118 = .ok (.istore 4, 2) := by decide +kernel
theorem dX10_give_120 : decode cX10_give 120 = .ok (.iload 6, 2) := by decide +kernel
theorem dX10_give_122 : decode cX10_give 122 = .ok (.iload_n 3, 1) := by decide +kernel
theorem dX10_give_123 : decode cX10_give 123 = .ok (.if_icmp .le 8, 3) := by decide +kernel
theorem dX10_give_126 : decode cX10_give 126 = .ok (.iload 6, 2) := by decide +kernel
theorem dX10_give_128 : decode cX10_give 128 = .ok (.goto 4, 3) := by decide +kernel
theorem dX10_give_131 : decode cX10_give 131 = .ok (.iload_n 3, 1) := by decide +kernel
theorem dX10_give_132 : decode cX10_give 132 = .ok (.istore_n 3, 1) := by decide +kernel
theorem dX10_give_133 : decode cX10_give 133 = .ok (.iinc 5 1, 3) := by decide +kernel
theorem dX10_give_136 : decode cX10_give 136 = .ok (.goto (-87), 3) := by decide +kernel
theorem dX10_give_139 : decode cX10_give 139 = .ok (.iload 4, 2) := by decide +kernel
theorem dX10_give_141 : decode cX10_give 141 = .ok (.ireturn, 1) := by decide +kernel
theorem dX10_ever_0 : decode cX10_ever 0 = .ok (.aload_n 0, 1) := by decide +kernel
theorem dX10_ever_1 : decode cX10_ever 1 = .ok (.iconst 0, 1) := by decide +kernel
theorem dX10_ever_2 : decode cX10_ever 2 = .ok (.putfield 78, 3) := by decide +kernel
theorem dX10_ever_5 : decode cX10_ever 5 = .ok (.aload_n 0, 1) := by decide +kernel
theorem dX10_ever_6 : decode cX10_ever 6 = .ok (.iload_n 1, 1) := by decide +kernel
theorem dX10_ever_7 : decode cX10_ever 7 = .ok (.invokevirtual 160, 3) := by decide +kernel
theorem dX10_ever_10 : decode cX10_ever 10 = .ok (.ifCond .eq 13, 3) := by decide +kernel
theorem dX10_ever_13 : decode cX10_ever 13 = .ok (.iload_n 2, 1) := by decide +kernel
theorem dX10_ever_14 : decode cX10_ever 14 = .ok (.iconst 1, 1) := by decide +kernel
theorem dX10_ever_15 : decode cX10_ever 15 = .ok (.bipush 60, 2) := by decide +kernel
theorem dX10_ever_17 : decode cX10_ever 17 = .ok (.invokestatic 213, 3) := by decide +kernel
theorem dX10_ever_20 : decode cX10_ever 20 = .ok (.goto 4, 3) := by decide +kernel
theorem dX10_ever_23 : decode cX10_ever 23 = .ok (.iconst (-1), 1) := by decide +kernel
theorem dX10_ever_24 : decode cX10_ever 24 = .ok (.istore_n 3, 1) := by decide +kernel
theorem dX10_ever_25 : decode cX10_ever 25 = .ok (.iload_n 3, 1) := by decide +kernel
theorem dX10_ever_26 : decode cX10_ever 26 = .ok (.ifCond .ge 9, 3) := by decide +kernel
theorem dX10_ever_29 : decode cX10_ever 29 = .ok (.aload_n 0, 1) := by decide +kernel
theorem dX10_ever_30 : decode cX10_ever 30 = .ok (.iload_n 3, 1) := by decide +kernel
theorem dX10_ever_31 : decode cX10_ever 31 = .ok (.invokevirtual 121, 3) := by decide +kernel
theorem dX10_ever_34 : decode cX10_ever 34 = .ok (.ireturn, 1) := by decide +kernel
theorem dX10_ever_35 : decode cX10_ever 35 = .ok (.aload_n 0, 1) := by decide +kernel
theorem dX10_ever_36 : decode cX10_ever 36 = .ok (.getfield 22, 3) := by decide +kernel
theorem dX10_ever_39 : decode cX10_ever 39 = .ok (.iload_n 1, 1) := by decide +kernel
theorem dX10_ever_40 : decode cX10_ever 40 = .ok (.iaload, 1) := by decide +kernel
theorem dX10_ever_41 : decode cX10_ever 41 = .ok (.istore 4, 2) := by decide +kernel
theorem dX10_ever_43 : decode cX10_ever 43 = .ok (.iconst 0, 1) := by decide +kernel
theorem dX10_ever_44 : decode cX10_ever 44 = .ok (.istore 5, 2) := by decide +kernel
theorem dX10_ever_46 : decode cX10_ever 46 = .ok (.iconst 0, 1) := by decide +kernel
theorem dX10_ever_47 : decode cX10_ever 47 = .ok (.istore 6, 2) := by decide +kernel
theorem dX10_ever_49 : decode cX10_ever 49 = .ok (.iload 6, 2) := by decide +kernel
theorem dX10_ever_51 : decode cX10_ever 51 = .ok (.iload_n 2, 1) := by decide +kernel
theorem dX10_ever_52 : decode cX10_ever 52 = .ok (.if_icmp .ge 29, 3) := by decide +kernel
theorem dX10_ever_55 : decode cX10_ever 55 = .ok (.iload 5, 2) := by decide +kernel
theorem dX10_ever_57 : decode cX10_ever 57 = .ok (.aload_n 0, 1) := by decide +kernel
theorem dX10_ever_58 : decode cX10_ever 58 = .ok (.iload 4, 2) := by decide +kernel
theorem dX10_ever_60 : decode cX10_ever 60 = .ok (.invokevirtual 108, 3) := by decide +kernel
theorem dX10_ever_63 : decode cX10_ever 63 = .ok (.ior, 1) := by decide +kernel
theorem dX10_ever_64 : decode cX10_ever 64 = .ok (.istore 5, 2) := by decide +kernel
theorem dX10_ever_66 : decode cX10_ever 66 = .ok (.aload_n 0, 1) := by decide +kernel
theorem dX10_ever_67 : decode cX10_ever 67 = .ok (.getfield 35, 3) := by decide +kernel
theorem dX10_ever_70 : decode cX10_ever 70 = .ok (.bipush 11, 2) := by decide +kernel
theorem dX10_ever_72 : decode cX10_ever 72 = .ok (.iaload, 1) := by decide +kernel
theorem dX10_ever_73 : decode cX10_ever 73 = .ok (.istore 4, 2) := by decide +kernel
theorem dX10_ever_75 : decode cX10_ever 75 = .ok (.iinc 6 1, 3) := by decide +kernel
theorem dX10_ever_78 : decode cX10_ever 78 = .ok (.goto (-29), 3) := by decide +kernel
theorem dX10_ever_81 : decode cX10_ever 81 = .ok (.iload 5, 2) := by decide +kernel
theorem dX10_ever_83 : decode cX10_ever 83 = .ok (.ireturn, 1) := by decide +kernel
theorem dX10_row_0 : decode cX10_row 0 = .ok (.aload_n 0, 1) := by decide +kernel
theorem dX10_row_1 : decode cX10_row 1 = .ok (.iconst 0, 1) := by decide +kernel
theorem dX10_row_2 : decode cX10_row 2 = .ok (.putfield 78, 3) := by decide +kernel
theorem dX10_row_5 : decode cX10_row 5 = .ok (.iload_n 1, 1) := by decide +kernel
theorem dX10_row_6 : decode cX10_row 6 = .ok (.ifCond .ge 10, 3) := by decide +kernel
theorem dX10_row_9 : decode cX10_row 9 = .ok (.aload_n 0, 1) := by decide +kernel
theorem dX10_row_10 : decode cX10_row 10 = .ok (.bipush (-4), 2) := by decide +kernel
theorem dX10_row_12 : decode cX10_row 12 = .ok (.invokevirtual 121, 3) := by decide +kernel
theorem dX10_row_15 : decode cX10_row 15 = .ok (.ireturn, 1) := by decide +kernel
theorem dX10_row_16 : decode cX10_row 16 = .ok (.iload_n 1, 1) := by decide +kernel
theorem dX10_row_17 : decode cX10_row 17 = .ok (.bipush 99, 2) := by decide +kernel
theorem dX10_row_19 : decode cX10_row 19 = .ok (.if_icmp .gt 12, 3) := by decide +kernel
theorem dX10_row_22 : decode cX10_row 22 = .ok (.aload_n 0, 1) := by decide +kernel
theorem dX10_row_23 : decode cX10_row 23 = .ok (.getfield 236, 3) := by decide +kernel
theorem dX10_row_26 : decode cX10_row 26 = .ok (.bipush 16, 2) := by decide +kernel
theorem dX10_row_28 : decode cX10_row 28 = .ok (.if_icmp .ne 10, 3) := by decide +kernel
theorem dX10_row_31 : decode cX10_row 31 = .ok (.aload_n 0, 1) := by decide +kernel
theorem dX10_row_32 : decode cX10_row 32 = .ok (.bipush (-6), 2) := by decide +kernel
theorem dX10_row_34 : decode cX10_row 34 = .ok (.invokevirtual 121, 3) := by decide +kernel
theorem dX10_row_37 : decode cX10_row 37 = .ok (.ireturn, 1) := by decide +kernel
theorem dX10_row_38 : decode cX10_row 38 = .ok (.aload_n 0, 1) := by decide +kernel
theorem dX10_row_39 : decode cX10_row 39 = .ok (.getfield 62, 3) := by decide +kernel
theorem dX10_row_42 : decode cX10_row 42 = .ok (.aload_n 0, 1) := by decide +kernel
theorem dX10_row_43 : decode cX10_row 43 = .ok (.getfield 236, 3) := by decide +kernel
theorem dX10_row_46 : decode cX10_row 46 = .ok (.iload_n 1, 1) := by decide +kernel
theorem dX10_row_47 : decode cX10_row 47 = .ok (.iastore, 1) := by decide +kernel
theorem dX10_row_48 : decode cX10_row 48 = .ok (.aload_n 0, 1) := by decide +kernel
theorem dX10_row_49 : decode cX10_row 49 = .ok (.dup, 1) := by decide +kernel
theorem dX10_row_50 : decode cX10_row 50 = .ok (.getfield 236, 3) := by decide +kernel
theorem dX10_row_53 : decode cX10_row 53 = .ok (.iconst 1, 1) := by decide +kernel
theorem dX10_row_54 : decode cX10_row 54 = .ok (.iadd, 1) := by decide +kernel
theorem dX10_row_55 : decode cX10_row 55 = .ok (.putfield 236, 3) := by decide +kernel
theorem dX10_row_58 : decode cX10_row 58 = .ok (.aload_n 0, 1) := by decide +kernel
theorem dX10_row_59 : decode cX10_row 59 = .ok (.getfield 236, 3) := by decide +kernel
theorem dX10_row_62 : decode cX10_row 62 = .ok (.ireturn, 1) := by decide +kernel
theorem dX10_judge_0 : decode cX10_judge 0 = .ok (.aload_n 0, 1) := by decide +kernel
theorem dX10_judge_1 : decode cX10_judge 1 = .ok (.iconst 0, 1) := by decide +kernel
theorem dX10_judge_2 : decode cX10_judge 2 = .ok (.putfield 78, 3) := by decide +kernel
theorem dX10_judge_5 : decode cX10_judge 5 = .ok (.aload_n 0, 1) := by decide +kernel
theorem dX10_judge_6 : decode cX10_judge 6 = .ok (.iload_n 1, 1) := by decide +kernel
theorem dX10_judge_7 : decode cX10_judge 7 = .ok (.invokevirtual 160, 3) := by decide +kernel
theorem dX10_judge_10 : decode cX10_judge 10 = .ok (.ifCond .ne 9, 3) := by decide +kernel
theorem dX10_judge_13 : decode cX10_judge 13 = .ok (.aload_n 0, 1) := by decide +kernel
theorem dX10_judge_14 : decode cX10_judge 14 = .ok (.iconst (-1), 1) := by decide +kernel
theorem dX10_judge_15 : decode cX10_judge 15 = .ok (.invokevirtual 121, 3) := by decide +kernel
theorem dX10_judge_18 : decode cX10_judge 18 = .ok (.ireturn, 1) := by decide +kernel
theorem dX10_judge_19 : decode cX10_judge 19 = .ok (.aload_n 0, 1) := by decide +kernel
theorem dX10_judge_20 : decode cX10_judge 20 = .ok (.getfield 236, 3) := by decide +kernel
theorem dX10_judge_23 : decode cX10_judge 23 = .ok (.istore_n 2, 1) := by decide +kernel
theorem dX10_judge_24 : decode cX10_judge 24 = .ok (.aload_n 0, 1) := by decide +kernel
theorem dX10_judge_25 : decode cX10_judge 25 = .ok (.iconst 0, 1) := by decide +kernel
theorem dX10_judge_26 : decode cX10_judge 26 = .ok (.putfield 236, 3) := by decide +kernel
theorem dX10_judge_29 : decode cX10_judge 29 = .ok (.aload_n 0, 1) := by decide +kernel
theorem dX10_judge_30 : decode cX10_judge 30 = .ok (.iload_n 1, 1) := by decide +kernel
theorem dX10_judge_31 : decode cX10_judge 31 = .ok (.invokevirtual 115, 3) := by decide +kernel
theorem dX10_judge_34 : decode cX10_judge 34 = .ok (.pop, 1) := by decide +kernel
theorem dX10_judge_35 : decode cX10_judge 35 = .ok (.iconst 0, 1) := by decide +kernel
theorem dX10_judge_36 : decode cX10_judge 36 = .ok (.istore_n 3, 1) := by decide +kernel
theorem dX10_judge_37 : decode cX10_judge 37 = .ok (.iload_n 3, 1) := by decide +kernel
theorem dX10_judge_38 : decode cX10_judge 38 = .ok (.iload_n 2, 1) := by decide +kernel
theorem dX10_judge_39 : decode cX10_judge 39 = .ok (.if_icmp .ge 46, 3) := by decide +kernel
theorem dX10_judge_42 : decode cX10_judge 42 = .ok (.iload_n 3, 1) := by decide +kernel
theorem dX10_judge_43 : decode cX10_judge 43 = .ok (.bipush 11, 2) := by decide +kernel
theorem dX10_judge_45 : decode cX10_judge 45 = .ok (.if_icmp .gt 32, 3) := by decide +kernel
theorem dX10_judge_48 : decode cX10_judge 48 = .ok (.aload_n 0, 1) := by decide +kernel
theorem dX10_judge_49 : decode cX10_judge 49 = .ok (.getfield 62, 3) := by decide +kernel
theorem dX10_judge_52 : decode cX10_judge 52 = .ok (.iload_n 3, 1) := by decide +kernel
theorem dX10_judge_53 : decode cX10_judge 53 = .ok (.iaload, 1) := by decide +kernel
theorem dX10_judge_54 : decode cX10_judge 54 = .ok (.aload_n 0, 1) := by decide +kernel
theorem dX10_judge_55 : decode cX10_judge 55 = .ok (.getfield 32, 3) := by decide +kernel
theorem dX10_judge_58 : decode cX10_judge 58 = .ok (.iload_n 3, 1) := by decide +kernel
theorem dX10_judge_59 : decode cX10_judge 59 = .ok (.iaload, 1) := by decide +kernel
theorem dX10_judge_60 : decode cX10_judge 60 = .ok (.ifCond .ge 8, 3) := by decide +kernel
theorem dX10_judge_63 : decode cX10_judge 63 = .ok (.bipush 99, 2) := by decide +kernel
theorem dX10_judge_65 : decode cX10_judge 65 = .ok (.goto 9, 3) := by decide +kernel
theorem dX10_judge_68 : decode cX10_judge 68 = .ok (.aload_n 0, 1) := by decide +kernel
theorem dX10_judge_69 : decode cX10_judge 69 = .ok (.getfield 32, 3) := by decide +kernel
theorem dX10_judge_72 : decode cX10_judge 72 = .ok (.iload_n 3, 1) := by decide +kernel
theorem dX10_judge_73 : decode cX10_judge 73 = .ok (.iaload, 1) := by decide +kernel
theorem dX10_judge_74 : decode cX10_judge 74 = .ok (.if_icmp .eq 5, 3) := by decide +kernel
theorem dX10_judge_77 : decode cX10_judge 77 = .ok (.iload_n 3, 1) := by decide +kernel
theorem dX10_judge_78 : decode cX10_judge 78 = .ok (.ireturn, 1) := by decide +kernel
theorem dX10_judge_79 : decode cX10_judge 79 = .ok (.iinc 3 1, 3) := by decide +kernel
theorem dX10_judge_82 : decode cX10_judge 82 = .ok (.goto (-45), 3) := by decide +kernel
theorem dX10_judge_85 : decode cX10_judge 85 = .ok (.bipush (-9), 2) := by decide +kernel
theorem dX10_judge_87 : decode cX10_judge 87 = .ok (.ireturn, 1) := by decide +kernel
theorem dX10_clear_0 : decode cX10_clear 0 = .ok (.aload_n 0, 1) := by decide +kernel
theorem dX10_clear_1 : decode cX10_clear 1 = .ok (.iconst 0, 1) := by decide +kernel
theorem dX10_clear_2 : decode cX10_clear 2 = .ok (.putfield 78, 3) := by decide +kernel
theorem dX10_clear_5 : decode cX10_clear 5 = .ok (.aload_n 0, 1) := by decide +kernel
theorem dX10_clear_6 : decode cX10_clear 6 = .ok (.getfield 236, 3) := by decide +kernel
theorem dX10_clear_9 : decode cX10_clear 9 = .ok (.istore_n 1, 1) := by decide +kernel
theorem dX10_clear_10 : decode cX10_clear 10 = .ok (.aload_n 0, 1) := by decide +kernel
theorem dX10_clear_11 : decode cX10_clear 11 = .ok (.iconst 0, 1) := by decide +kernel
theorem dX10_clear_12 : decode cX10_clear 12 = .ok (.putfield 236, 3) := by decide +kernel
theorem dX10_clear_15 : decode cX10_clear 15 = .ok (.iload_n 1, 1) := by decide +kernel
theorem dX10_clear_16 : decode cX10_clear 16 = .ok (.ireturn, 1) := by decide +kernel
theorem dX10_drawBelow_0 : decode cX10_drawBelow 0 = .ok (.aload_n 0, 1) := by decide +kernel
theorem dX10_drawBelow_1 : decode cX10_drawBelow 1 = .ok (.aload_n 0, 1) := by decide +kernel
theorem dX10_drawBelow_2 : decode cX10_drawBelow 2 = .ok (.getfield 277, 3) := by decide +kernel
theorem dX10_drawBelow_5 : decode cX10_drawBelow 5 = .ok (.ldc_w 280, 3) := by decide +kernel
theorem dX10_drawBelow_8 : decode cX10_drawBelow 8 = .ok (.imul, 1) := by decide +kernel
theorem dX10_drawBelow_9 : decode cX10_drawBelow 9 = .ok (.sipush 12345, 3) := by decide +kernel
theorem dX10_drawBelow_12 : decode cX10_drawBelow 12 = .ok (.iadd, 1) := by decide +kernel
theorem dX10_drawBelow_13 : decode cX10_drawBelow 13 = .ok (.putfield 277, 3) := by decide +kernel
theorem dX10_drawBelow_16 : decode cX10_drawBelow 16 = .ok (.aload_n 0, 1) := by decide +kernel
theorem dX10_drawBelow_17 : decode cX10_drawBelow 17 = .ok (.getfield 277, 3) := by decide +kernel
theorem dX10_drawBelow_20 : decode cX10_drawBelow 20 = .ok (.ldc_w 281, 3) := by decide +kernel
theorem dX10_drawBelow_23 : decode cX10_drawBelow 23 = .ok (.iand, 1) := by decide +kernel
theorem dX10_drawBelow_24 : decode cX10_drawBelow 24 = .ok (.ldc_w 282, 3) := by decide +kernel
theorem dX10_drawBelow_27 : decode cX10_drawBelow 27 = .ok (.idiv, 1) := by decide +kernel
theorem dX10_drawBelow_28 : decode cX10_drawBelow 28 = .ok (.iload_n 1, 1) := by decide +kernel
theorem dX10_drawBelow_29 : decode cX10_drawBelow 29 = .ok (.irem, 1) := by decide +kernel
theorem dX10_drawBelow_30 : decode cX10_drawBelow 30 = .ok (.ireturn, 1) := by decide +kernel
theorem dX10_lots_0 : decode cX10_lots 0 = .ok (.aload_n 0, 1) := by decide +kernel
theorem dX10_lots_1 : decode cX10_lots 1 = .ok (.iconst 0, 1) := by decide +kernel
theorem dX10_lots_2 : decode cX10_lots 2 = .ok (.putfield 78, 3) := by decide +kernel
theorem dX10_lots_5 : decode cX10_lots 5 = .ok (.iload_n 1, 1) := by decide +kernel
theorem dX10_lots_6 : decode cX10_lots 6 = .ok (.iconst 1, 1) := by decide +kernel
theorem dX10_lots_7 : decode cX10_lots 7 = .ok (.bipush 20, 2) := by decide +kernel
theorem dX10_lots_9 : decode cX10_lots 9 = .ok (.invokestatic 213, 3) := by decide +kernel
theorem dX10_lots_12 : decode cX10_lots 12 = .ok (.iload_n 3, 1) := by decide +kernel
theorem dX10_lots_13 : decode cX10_lots 13 = .ok (.iconst 1, 1) := by decide +kernel
theorem dX10_lots_14 : decode cX10_lots 14 = .ok (.invokestatic 225, 3) := by decide +kernel
theorem dX10_lots_17 : decode cX10_lots 17 = .ok (.istore 4, 2) := by decide +kernel
theorem dX10_lots_19 : decode cX10_lots 19 = .ok (.iload 4, 2) := by decide +kernel
theorem dX10_lots_21 : decode cX10_lots 21 = .ok (.ifCond .ge 10, 3) := by decide +kernel
theorem dX10_lots_24 : decode cX10_lots 24 = .ok (.aload_n 0, 1) := by decide +kernel
theorem dX10_lots_25 : decode cX10_lots 25 = .ok (.iload 4, 2) := by decide +kernel
theorem dX10_lots_27 : decode cX10_lots 27 = .ok (.invokevirtual 121, 3) := by decide +kernel
theorem dX10_lots_30 : decode cX10_lots 30 = .ok (.ireturn, 1) := by decide +kernel
theorem dX10_lots_31 : decode cX10_lots 31 = .ok (.aload_n 0, 1) := by decide +kernel
theorem dX10_lots_32 : decode cX10_lots 32 = .ok (.iload_n 2, 1) := by decide +kernel
theorem dX10_lots_33 : decode cX10_lots 33 = .ok (.putfield 277, 3) := by decide +kernel
theorem dX10_lots_36 : decode cX10_lots 36 = .ok (.iconst 0, 1) := by decide +kernel
theorem dX10_lots_37 : decode cX10_lots 37 = .ok (.istore 5, 2) := by decide +kernel
theorem dX10_lots_39 : decode cX10_lots 39 = .ok (.iconst 0, 1) := by decide +kernel
theorem dX10_lots_40 : decode cX10_lots 40 = .ok (.istore 6, 2) := by decide +kernel
theorem dX10_lots_42 : decode cX10_lots 42 = .ok (.iconst 0, 1) := by decide +kernel
theorem dX10_lots_43 : decode cX10_lots 43 = .ok (.istore 7, 2) := by decide +kernel
theorem dX10_lots_45 : decode cX10_lots 45 = .ok (.iload 7, 2) := by decide +kernel
theorem dX10_lots_47 : decode cX10_lots 47 = .ok (.iload_n 1, 1) := by decide +kernel
theorem dX10_lots_48 : decode cX10_lots 48 = .ok (.if_icmp .ge 83, 3) := by decide +kernel
theorem dX10_lots_51 : decode cX10_lots 51 = .ok (.iconst 0, 1) := by decide +kernel
theorem dX10_lots_52 : decode cX10_lots 52 = .ok (.istore 8, 2) := by decide +kernel
theorem dX10_lots_54 : decode cX10_lots 54 = .ok (.iload 8, 2) := by decide +kernel
theorem dX10_lots_56 : decode cX10_lots 56 = .ok (.aload_n 0, 1) := by decide +kernel
theorem dX10_lots_57 : decode cX10_lots 57 = .ok (.getfield 81, 3) := by decide +kernel
theorem dX10_lots_60 : decode cX10_lots 60 = .ok (.if_icmp .ge 65, 3) := by decide +kernel
theorem dX10_lots_63 : decode cX10_lots 63 = .ok (.aload_n 0, 1) := by decide +kernel
theorem dX10_lots_64 : decode cX10_lots 64 = .ok (.bipush 8, 2) := by decide +kernel
theorem dX10_lots_66 : decode cX10_lots 66 = .ok (.invokevirtual 283, 3) := by decide +kernel
theorem dX10_lots_69 : decode cX10_lots 69 = .ok (.istore 9, 2) := by decide +kernel
theorem dX10_lots_71 : decode cX10_lots 71 = .ok (.iload 6, 2) := by decide +kernel
theorem dX10_lots_73 : decode cX10_lots 73 = .ok (.aload_n 0, 1) := by decide +kernel
theorem dX10_lots_74 : decode cX10_lots 74 = .ok (.getfield 22, 3) := by decide +kernel
theorem dX10_lots_77 : decode cX10_lots 77 = .ok (.iload 8, 2) := by decide +kernel
theorem dX10_lots_79 : decode cX10_lots 79 = .ok (.iaload, 1) := by decide +kernel
theorem dX10_lots_80 : decode cX10_lots 80 = .ok (.iload 9, 2) := by decide +kernel
theorem dX10_lots_82 : decode cX10_lots 82 = .ok (.invokestatic 93, 3) := by decide +kernel
theorem dX10_lots_85 : decode cX10_lots 85 = .ok (.ifCond .eq 7, 3) := by decide +kernel
theorem dX10_lots_88 : decode cX10_lots 88 = .ok (.iconst 1, 1) := by decide +kernel
theorem dX10_lots_89 : decode cX10_lots 89 = .ok (.goto 4, 3) := by decide +kernel
theorem dX10_lots_92 : decode cX10_lots 92 = .ok (.iconst 0, 1) := by decide +kernel
theorem dX10_lots_93 : decode cX10_lots 93 = .ok (.iadd, 1) := by decide +kernel
theorem dX10_lots_94 : decode cX10_lots 94 = .ok (.istore 6, 2) := by decide +kernel
theorem dX10_lots_96 : decode cX10_lots 96 = .ok (.iload 5, 2) := by decide +kernel
theorem dX10_lots_98 : decode cX10_lots 98 = .ok (.aload_n 0, 1) := by decide +kernel
theorem dX10_lots_99 : decode cX10_lots 99 = .ok (.aload_n 0, 1) := by decide +kernel
theorem dX10_lots_100 : decode cX10_lots 100 = .ok (.getfield 22, 3) := by decide +kernel
theorem dX10_lots_103 : decode cX10_lots 103 = .ok (.iload 8, 2) := by decide +kernel
theorem dX10_lots_105 : decode cX10_lots 105 = .ok (.iaload, 1) := by decide +kernel
theorem dX10_lots_106 : decode cX10_lots 106 = .ok (.iconst 1, 1) := by decide +kernel
theorem dX10_lots_107 : decode cX10_lots 107 = .ok (.iload 9, 2) := by decide +kernel
theorem dX10_lots_109 : decode cX10_lots 109 = .ok (.ishl, 1) := by decide +kernel
theorem dX10_lots_110 : decode cX10_lots 110 = .ok (.iconst (-1), 1) := by decide +kernel
theorem dX10_lots_111 : decode cX10_lots 111 = .ok (.ixor, 1) := by decide +kernel
theorem dX10_lots_112 : decode cX10_lots 112 = .ok (.iand, 1) := by decide +kernel
theorem dX10_lots_113 : decode cX10_lots 113 = .ok (.invokevirtual 233, 3) := by decide +kernel
theorem dX10_lots_116 : decode cX10_lots 116 = .ok (.iadd, 1) := by decide +kernel
theorem dX10_lots_117 : decode cX10_lots 117 = .ok (.istore 5, 2) := by decide +kernel
theorem dX10_lots_119 : decode cX10_lots 119 = .ok (.iinc 8 1, 3) := by decide +kernel
theorem dX10_lots_122 : decode cX10_lots 122 = .ok (.goto (-68), 3) := by decide +kernel
theorem dX10_lots_125 : decode cX10_lots 125 = .ok (.iinc 7 1, 3) := by decide +kernel
theorem dX10_lots_128 : decode cX10_lots 128 = .ok (.goto (-83), 3) := by decide +kernel
theorem dX10_lots_131 : decode cX10_lots 131 = .ok (.iload_n 3, 1) := by decide +kernel
theorem dX10_lots_132 : decode cX10_lots 132 = .ok (.ifCond .ne 8, 3) := by decide +kernel
theorem dX10_lots_135 : decode cX10_lots 135 = .ok (.iload 5, 2) := by decide +kernel
theorem dX10_lots_137 : decode cX10_lots 137 = .ok (.goto 5, 3) := by decide +kernel
theorem dX10_lots_140 : decode cX10_lots 140 = .ok (.iload 6, 2) := by decide +kernel
theorem dX10_lots_142 : decode cX10_lots 142 = .ok (.ireturn, 1) := by decide +kernel
theorem dX10_count_0 : decode cX10_count 0 = .ok (.aload_n 0, 1) := by decide +kernel
theorem dX10_count_1 : decode cX10_count 1 = .ok (.iconst 0, 1) := by decide +kernel
theorem dX10_count_2 : decode cX10_count 2 = .ok (.putfield 78, 3) := by decide +kernel
theorem dX10_count_5 : decode cX10_count 5 = .ok (.iconst 0, 1) := by decide +kernel
theorem dX10_count_6 : decode cX10_count 6 = .ok (.istore_n 2, 1) := by decide +kernel
theorem dX10_count_7 : decode cX10_count 7 = .ok (.iload_n 1, 1) := by decide +kernel
theorem dX10_count_8 : decode cX10_count 8 = .ok (.tableswitch 125 0 8 #[52, 57, 62, 67, 75, 105, 110, 115, 120], 52) := by decide +kernel
theorem dX10_count_60 : decode cX10_count 60 = .ok (.aload_n 0, 1) := by decide +kernel
theorem dX10_count_61 : decode cX10_count 61 = .ok (.getfield 88, 3) := by decide +kernel
theorem dX10_count_64 : decode cX10_count 64 = .ok (.ireturn, 1) := by decide +kernel
theorem dX10_count_65 : decode cX10_count 65 = .ok (.aload_n 0, 1) := by decide +kernel
theorem dX10_count_66 : decode cX10_count 66 = .ok (.getfield 81, 3) := by decide +kernel
theorem dX10_count_69 : decode cX10_count 69 = .ok (.ireturn, 1) := by decide +kernel
theorem dX10_count_70 : decode cX10_count 70 = .ok (.aload_n 0, 1) := by decide +kernel
theorem dX10_count_71 : decode cX10_count 71 = .ok (.getfield 118, 3) := by decide +kernel
theorem dX10_count_74 : decode cX10_count 74 = .ok (.ireturn, 1) := by decide +kernel
theorem dX10_count_75 : decode cX10_count 75 = .ok (.aload_n 0, 1) := by decide +kernel
theorem dX10_count_76 : decode cX10_count 76 = .ok (.getfield 97, 3) := by decide +kernel
theorem dX10_count_79 : decode cX10_count 79 = .ok (.invokestatic 112, 3) := by decide +kernel
theorem dX10_count_82 : decode cX10_count 82 = .ok (.ireturn, 1) := by decide +kernel
theorem dX10_count_83 : decode cX10_count 83 = .ok (.iconst 0, 1) := by decide +kernel
theorem dX10_count_84 : decode cX10_count 84 = .ok (.istore_n 3, 1) := by decide +kernel
theorem dX10_count_85 : decode cX10_count 85 = .ok (.iload_n 3, 1) := by decide +kernel
theorem dX10_count_86 : decode cX10_count 86 = .ok (.aload_n 0, 1) := by decide +kernel
theorem dX10_count_87 : decode cX10_count 87 = .ok (.getfield 81, 3) := by decide +kernel
theorem dX10_count_90 : decode cX10_count 90 = .ok (.if_icmp .ge 21, 3) := by decide +kernel
theorem dX10_count_93 : decode cX10_count 93 = .ok (.iload_n 2, 1) := by decide +kernel
theorem dX10_count_94 : decode cX10_count 94 = .ok (.aload_n 0, 1) := by decide +kernel
theorem dX10_count_95 : decode cX10_count 95 = .ok (.getfield 22, 3) := by decide +kernel
theorem dX10_count_98 : decode cX10_count 98 = .ok (.iload_n 3, 1) := by decide +kernel
theorem dX10_count_99 : decode cX10_count 99 = .ok (.iaload, 1) := by decide +kernel
theorem dX10_count_100 : decode cX10_count 100 = .ok (.invokestatic 112, 3) := by decide +kernel
theorem dX10_count_103 : decode cX10_count 103 = .ok (.iadd, 1) := by decide +kernel
theorem dX10_count_104 : decode cX10_count 104 = .ok (.istore_n 2, 1) := by decide +kernel
theorem dX10_count_105 : decode cX10_count 105 = .ok (.iinc 3 1, 3) := by decide +kernel
theorem dX10_count_108 : decode cX10_count 108 = .ok (.goto (-23), 3) := by decide +kernel
theorem dX10_count_111 : decode cX10_count 111 = .ok (.iload_n 2, 1) := by decide +kernel
theorem dX10_count_112 : decode cX10_count 112 = .ok (.ireturn, 1) := by decide +kernel
theorem dX10_count_113 : decode cX10_count 113 = .ok (.aload_n 0, 1) := by decide +kernel
theorem dX10_count_114 : decode cX10_count 114 = .ok (.invokevirtual 286, 3) := by decide +kernel
theorem dX10_count_117 : decode cX10_count 117 = .ok (.ireturn, 1) := by decide +kernel
theorem dX10_count_118 : decode cX10_count 118 = .ok (.aload_n 0, 1) := by decide +kernel
theorem dX10_count_119 : decode cX10_count 119 = .ok (.getfield 124, 3) := by decide +kernel
theorem dX10_count_122 : decode cX10_count 122 = .ok (.ireturn, 1) := by decide +kernel
theorem dX10_count_123 : decode cX10_count 123 = .ok (.aload_n 0, 1) := by decide +kernel
theorem dX10_count_124 : decode cX10_count 124 = .ok (.getfield 236, 3) := by decide +kernel
theorem dX10_count_127 : decode cX10_count 127 = .ok (.ireturn, 1) := by decide +kernel
theorem dX10_count_128 : decode cX10_count 128 = .ok (.aload_n 0, 1) := by decide +kernel
theorem dX10_count_129 : decode cX10_count 129 = .ok (.getfield 184, 3) := by decide +kernel
theorem dX10_count_132 : decode cX10_count 132 = .ok (.ireturn, 1) := by decide +kernel
theorem dX10_count_133 : decode cX10_count 133 = .ok (.iload_n 1, 1) := by decide +kernel
theorem dX10_count_134 : decode cX10_count 134 = .ok (.i2l, 1) := by decide +kernel
theorem dX10_count_135 : decode cX10_count 135 = .ok (.ldc2_w 223, 3) := by decide +kernel
theorem dX10_count_138 : decode cX10_count 138 = .ok (.ldc2_w 289, 3) := by decide +kernel
theorem dX10_count_141 : decode cX10_count 141 = .ok (.invokestatic 84, 3) := by decide +kernel
theorem dX10_count_144 : decode cX10_count 144 = .ok (.ifCond .eq 15, 3) := by decide +kernel
theorem dX10_count_147 : decode cX10_count 147 = .ok (.aload_n 0, 1) := by decide +kernel
theorem dX10_count_148 : decode cX10_count 148 = .ok (.getfield 25, 3) := by decide +kernel
theorem dX10_count_151 : decode cX10_count 151 = .ok (.iload_n 1, 1) := by decide +kernel
theorem dX10_count_152 : decode cX10_count 152 = .ok (.bipush 10, 2) := by decide +kernel
theorem dX10_count_154 : decode cX10_count 154 = .ok (.isub, 1) := by decide +kernel
theorem dX10_count_155 : decode cX10_count 155 = .ok (.iaload, 1) := by decide +kernel
theorem dX10_count_156 : decode cX10_count 156 = .ok (.goto 5, 3) := by decide +kernel
theorem dX10_count_159 : decode cX10_count 159 = .ok (.bipush (-9), 2) := by decide +kernel
theorem dX10_count_161 : decode cX10_count 161 = .ok (.ireturn, 1) := by decide +kernel
theorem dJ6_bitCount_0f7a4_0 : decode cJ6_bitCount_0f7a4 0 = .ok (.iload_n 0, 1) := by decide +kernel
theorem dJ6_bitCount_0f7a4_1 : decode cJ6_bitCount_0f7a4 1 = .ok (.iload_n 0, 1) := by decide +kernel
theorem dJ6_bitCount_0f7a4_2 : decode cJ6_bitCount_0f7a4 2 = .ok (.iconst 1, 1) := by decide +kernel
theorem dJ6_bitCount_0f7a4_3 : decode cJ6_bitCount_0f7a4 3 = .ok (.iushr, 1) := by decide +kernel
theorem dJ6_bitCount_0f7a4_4 : decode cJ6_bitCount_0f7a4 4 = .ok (.ldc_w 265, 3) := by decide +kernel
theorem dJ6_bitCount_0f7a4_7 : decode cJ6_bitCount_0f7a4 7 = .ok (.iand, 1) := by decide +kernel
theorem dJ6_bitCount_0f7a4_8 : decode cJ6_bitCount_0f7a4 8 = .ok (.isub, 1) := by decide +kernel
theorem dJ6_bitCount_0f7a4_9 : decode cJ6_bitCount_0f7a4 9 = .ok (.istore_n 0, 1) := by decide +kernel
theorem dJ6_bitCount_0f7a4_10 : decode cJ6_bitCount_0f7a4 10 = .ok (.iload_n 0, 1) := by decide +kernel
theorem dJ6_bitCount_0f7a4_11 : decode cJ6_bitCount_0f7a4 11 = .ok (.ldc_w 266, 3) := by decide +kernel
theorem dJ6_bitCount_0f7a4_14 : decode cJ6_bitCount_0f7a4 14 = .ok (.iand, 1) := by decide +kernel
theorem dJ6_bitCount_0f7a4_15 : decode cJ6_bitCount_0f7a4 15 = .ok (.iload_n 0, 1) := by decide +kernel
theorem dJ6_bitCount_0f7a4_16 : decode cJ6_bitCount_0f7a4 16 = .ok (.iconst 2, 1) := by decide +kernel
theorem dJ6_bitCount_0f7a4_17 : decode cJ6_bitCount_0f7a4 17 = .ok (.iushr, 1) := by decide +kernel
theorem dJ6_bitCount_0f7a4_18 : decode cJ6_bitCount_0f7a4 18 = .ok (.ldc_w 266, 3) := by decide +kernel
theorem dJ6_bitCount_0f7a4_21 : decode cJ6_bitCount_0f7a4 21 = .ok (.iand, 1) := by decide +kernel
theorem dJ6_bitCount_0f7a4_22 : decode cJ6_bitCount_0f7a4 22 = .ok (.iadd, 1) := by decide +kernel
theorem dJ6_bitCount_0f7a4_23 : decode cJ6_bitCount_0f7a4 23 = .ok (.istore_n 0, 1) := by decide +kernel
theorem dJ6_bitCount_0f7a4_24 : decode cJ6_bitCount_0f7a4 24 = .ok (.iload_n 0, 1) := by decide +kernel
theorem dJ6_bitCount_0f7a4_25 : decode cJ6_bitCount_0f7a4 25 = .ok (.iload_n 0, 1) := by decide +kernel
theorem dJ6_bitCount_0f7a4_26 : decode cJ6_bitCount_0f7a4 26 = .ok (.iconst 4, 1) := by decide +kernel
theorem dJ6_bitCount_0f7a4_27 : decode cJ6_bitCount_0f7a4 27 = .ok (.iushr, 1) := by decide +kernel
theorem dJ6_bitCount_0f7a4_28 : decode cJ6_bitCount_0f7a4 28 = .ok (.iadd, 1) := by decide +kernel
theorem dJ6_bitCount_0f7a4_29 : decode cJ6_bitCount_0f7a4 29 = .ok (.ldc_w 267, 3) := by decide +kernel
theorem dJ6_bitCount_0f7a4_32 : decode cJ6_bitCount_0f7a4 32 = .ok (.iand, 1) := by decide +kernel
theorem dJ6_bitCount_0f7a4_33 : decode cJ6_bitCount_0f7a4 33 = .ok (.istore_n 0, 1) := by decide +kernel
theorem dJ6_bitCount_0f7a4_34 : decode cJ6_bitCount_0f7a4 34 = .ok (.iload_n 0, 1) := by decide +kernel
theorem dJ6_bitCount_0f7a4_35 : decode cJ6_bitCount_0f7a4 35 = .ok (.iload_n 0, 1) := by decide +kernel
theorem dJ6_bitCount_0f7a4_36 : decode cJ6_bitCount_0f7a4 36 = .ok (.bipush 8, 2) := by decide +kernel
theorem dJ6_bitCount_0f7a4_38 : decode cJ6_bitCount_0f7a4 38 = .ok (.iushr, 1) := by decide +kernel
theorem dJ6_bitCount_0f7a4_39 : decode cJ6_bitCount_0f7a4 39 = .ok (.iadd, 1) := by decide +kernel
theorem dJ6_bitCount_0f7a4_40 : decode cJ6_bitCount_0f7a4 40 = .ok (.istore_n 0, 1) := by decide +kernel
theorem dJ6_bitCount_0f7a4_41 : decode cJ6_bitCount_0f7a4 41 = .ok (.iload_n 0, 1) := by decide +kernel
theorem dJ6_bitCount_0f7a4_42 : decode cJ6_bitCount_0f7a4 42 = .ok (.iload_n 0, 1) := by decide +kernel
theorem dJ6_bitCount_0f7a4_43 : decode cJ6_bitCount_0f7a4 43 = .ok (.bipush 16, 2) := by decide +kernel
theorem dJ6_bitCount_0f7a4_45 : decode cJ6_bitCount_0f7a4 45 = .ok (.iushr, 1) := by decide +kernel
theorem dJ6_bitCount_0f7a4_46 : decode cJ6_bitCount_0f7a4 46 = .ok (.iadd, 1) := by decide +kernel
theorem dJ6_bitCount_0f7a4_47 : decode cJ6_bitCount_0f7a4 47 = .ok (.istore_n 0, 1) := by decide +kernel
theorem dJ6_bitCount_0f7a4_48 : decode cJ6_bitCount_0f7a4 48 = .ok (.iload_n 0, 1) := by decide +kernel
theorem dJ6_bitCount_0f7a4_49 : decode cJ6_bitCount_0f7a4 49 = .ok (.bipush 63, 2) := by decide +kernel
theorem dJ6_bitCount_0f7a4_51 : decode cJ6_bitCount_0f7a4 51 = .ok (.iand, 1) := by decide +kernel
theorem dJ6_bitCount_0f7a4_52 : decode cJ6_bitCount_0f7a4 52 = .ok (.ireturn, 1) := by decide +kernel
theorem dJ9_abs_067f4_0 : decode cJ9_abs_067f4 0 = .ok (.lload_n 0, 1) := by decide +kernel
theorem dJ9_abs_067f4_1 : decode cJ9_abs_067f4 1 = .ok (.lconst 0, 1) := by decide +kernel
theorem dJ9_abs_067f4_2 : decode cJ9_abs_067f4 2 = .ok (.lcmp, 1) := by decide +kernel
theorem dJ9_abs_067f4_3 : decode cJ9_abs_067f4 3 = .ok (.ifCond .ge 8, 3) := by decide +kernel
theorem dJ9_abs_067f4_6 : decode cJ9_abs_067f4 6 = .ok (.lload_n 0, 1) := by decide +kernel
theorem dJ9_abs_067f4_7 : decode cJ9_abs_067f4 7 = .ok (.lneg, 1) := by decide +kernel
theorem dJ9_abs_067f4_8 : decode cJ9_abs_067f4 8 = .ok (.goto 4, 3) := by decide +kernel
theorem dJ9_abs_067f4_11 : decode cJ9_abs_067f4 11 = .ok (.lload_n 0, 1) := by decide +kernel
theorem dJ9_abs_067f4_12 : decode cJ9_abs_067f4 12 = .ok (.lreturn, 1) := by decide +kernel
theorem dJ9_max_7cf53_0 : decode cJ9_max_7cf53 0 = .ok (.iload_n 0, 1) := by decide +kernel
theorem dJ9_max_7cf53_1 : decode cJ9_max_7cf53 1 = .ok (.iload_n 1, 1) := by decide +kernel
theorem dJ9_max_7cf53_2 : decode cJ9_max_7cf53 2 = .ok (.if_icmp .lt 7, 3) := by decide +kernel
theorem dJ9_max_7cf53_5 : decode cJ9_max_7cf53 5 = .ok (.iload_n 0, 1) := by decide +kernel
theorem dJ9_max_7cf53_6 : decode cJ9_max_7cf53 6 = .ok (.goto 4, 3) := by decide +kernel
theorem dJ9_max_7cf53_9 : decode cJ9_max_7cf53 9 = .ok (.iload_n 1, 1) := by decide +kernel
theorem dJ9_max_7cf53_10 : decode cJ9_max_7cf53 10 = .ok (.ireturn, 1) := by decide +kernel
theorem dJ9_min_7cf53_0 : decode cJ9_min_7cf53 0 = .ok (.iload_n 0, 1) := by decide +kernel
theorem dJ9_min_7cf53_1 : decode cJ9_min_7cf53 1 = .ok (.iload_n 1, 1) := by decide +kernel
theorem dJ9_min_7cf53_2 : decode cJ9_min_7cf53 2 = .ok (.if_icmp .gt 7, 3) := by decide +kernel
theorem dJ9_min_7cf53_5 : decode cJ9_min_7cf53 5 = .ok (.iload_n 0, 1) := by decide +kernel
theorem dJ9_min_7cf53_6 : decode cJ9_min_7cf53 6 = .ok (.goto 4, 3) := by decide +kernel
theorem dJ9_min_7cf53_9 : decode cJ9_min_7cf53 9 = .ok (.iload_n 1, 1) := by decide +kernel
theorem dJ9_min_7cf53_10 : decode cJ9_min_7cf53 10 = .ok (.ireturn, 1) := by decide +kernel
theorem dJ7_fill_53178_0 : decode cJ7_fill_53178 0 = .ok (.iconst 0, 1) := by decide +kernel
theorem dJ7_fill_53178_1 : decode cJ7_fill_53178 1 = .ok (.istore_n 2, 1) := by decide +kernel
theorem dJ7_fill_53178_2 : decode cJ7_fill_53178 2 = .ok (.aload_n 0, 1) := by decide +kernel
theorem dJ7_fill_53178_3 : decode cJ7_fill_53178 3 = .ok (.arraylength, 1) := by decide +kernel
theorem dJ7_fill_53178_4 : decode cJ7_fill_53178 4 = .ok (.istore_n 3, 1) := by decide +kernel
theorem dJ7_fill_53178_5 : decode cJ7_fill_53178 5 = .ok (.iload_n 2, 1) := by decide +kernel
theorem dJ7_fill_53178_6 : decode cJ7_fill_53178 6 = .ok (.iload_n 3, 1) := by decide +kernel
theorem dJ7_fill_53178_7 : decode cJ7_fill_53178 7 = .ok (.if_icmp .ge 13, 3) := by decide +kernel
theorem dJ7_fill_53178_10 : decode cJ7_fill_53178 10 = .ok (.aload_n 0, 1) := by decide +kernel
theorem dJ7_fill_53178_11 : decode cJ7_fill_53178 11 = .ok (.iload_n 2, 1) := by decide +kernel
theorem dJ7_fill_53178_12 : decode cJ7_fill_53178 12 = .ok (.iload_n 1, 1) := by decide +kernel
theorem dJ7_fill_53178_13 : decode cJ7_fill_53178 13 = .ok (.iastore, 1) := by decide +kernel
theorem dJ7_fill_53178_14 : decode cJ7_fill_53178 14 = .ok (.iinc 2 1, 3) := by decide +kernel
theorem dJ7_fill_53178_17 : decode cJ7_fill_53178 17 = .ok (.goto (-12), 3) := by decide +kernel
theorem dJ7_fill_53178_20 : decode cJ7_fill_53178 20 = .ok (.return_, 1) := by decide +kernel
theorem dL_law_0 : decode cL_law 0 = .ok (.new 7, 3) := by decide +kernel
theorem dL_law_3 : decode cL_law 3 = .ok (.dup, 1) := by decide +kernel
theorem dL_law_4 : decode cL_law 4 = .ok (.invokespecial 9, 3) := by decide +kernel
theorem dL_law_7 : decode cL_law 7 = .ok (.astore_n 1, 1) := by decide +kernel
theorem dL_law_8 : decode cL_law 8 = .ok (.new 10, 3) := by decide +kernel
theorem dL_law_11 : decode cL_law 11 = .ok (.dup, 1) := by decide +kernel
theorem dL_law_12 : decode cL_law 12 = .ok (.invokespecial 12, 3) := by decide +kernel
theorem dL_law_15 : decode cL_law 15 = .ok (.astore_n 2, 1) := by decide +kernel
theorem dL_law_16 : decode cL_law 16 = .ok (.iconst 0, 1) := by decide +kernel
theorem dL_law_17 : decode cL_law 17 = .ok (.istore_n 3, 1) := by decide +kernel
theorem dL_law_18 : decode cL_law 18 = .ok (.iload_n 3, 1) := by decide +kernel
theorem dL_law_19 : decode cL_law 19 = .ok (.aload_n 0, 1) := by decide +kernel
theorem dL_law_20 : decode cL_law 20 = .ok (.arraylength, 1) := by decide +kernel
theorem dL_law_21 : decode cL_law 21 = .ok (.iconst 5, 1) := by decide +kernel
theorem dL_law_22 : decode cL_law 22 = .ok (.isub, 1) := by decide +kernel
theorem dL_law_23 : decode cL_law 23 = .ok (.if_icmp .gt 1738, 3) := by decide +kernel
theorem dL_law_26 : decode cL_law 26 = .ok (.aload_n 0, 1) := by decide +kernel
theorem dL_law_27 : decode cL_law 27 = .ok (.iload_n 3, 1) := by decide +kernel
theorem dL_law_28 : decode cL_law 28 = .ok (.iaload, 1) := by decide +kernel
theorem dL_law_29 : decode cL_law 29 = .ok (.bipush 63, 2) := by decide +kernel
theorem dL_law_31 : decode cL_law 31 = .ok (.iand, 1) := by decide +kernel
theorem dL_law_32 : decode cL_law 32 = .ok (.tableswitch 1723 0 51 #[224, 247, 260, 293, 316, 359, 382, 415, 448, 491, 504, 517, 530, 573, 606, 639, 682, 715, 748, 781, 814, 837, 860, 894, 917, 960, 983, 1006, 1039, 1052, 1106, 1139, 1162, 1185, 1208, 1231, 1264, 1297, 1340, 1373, 1396, 1440, 1473, 1506, 1539, 1572, 1595, 1618, 1631, 1674, 1687, 1700], 224) := by decide +kernel
theorem dL_law_256 : decode cL_law 256 = .ok (.aload_n 1, 1) := by decide +kernel
theorem dL_law_257 : decode cL_law 257 = .ok (.aload_n 0, 1) := by decide +kernel
theorem dL_law_258 : decode cL_law 258 = .ok (.iload_n 3, 1) := by decide +kernel
theorem dL_law_259 : decode cL_law 259 = .ok (.iconst 1, 1) := by decide +kernel
theorem dL_law_260 : decode cL_law 260 = .ok (.iadd, 1) := by decide +kernel
theorem dL_law_261 : decode cL_law 261 = .ok (.iaload, 1) := by decide +kernel
theorem dL_law_262 : decode cL_law 262 = .ok (.invokevirtual 13, 3) := by decide +kernel
theorem dL_law_265 : decode cL_law 265 = .ok (.aload_n 2, 1) := by decide +kernel
theorem dL_law_266 : decode cL_law 266 = .ok (.aload_n 0, 1) := by decide +kernel
theorem dL_law_267 : decode cL_law 267 = .ok (.iload_n 3, 1) := by decide +kernel
theorem dL_law_268 : decode cL_law 268 = .ok (.iconst 1, 1) := by decide +kernel
theorem dL_law_269 : decode cL_law 269 = .ok (.iadd, 1) := by decide +kernel
theorem dL_law_270 : decode cL_law 270 = .ok (.iaload, 1) := by decide +kernel
theorem dL_law_271 : decode cL_law 271 = .ok (.invokevirtual 17, 3) := by decide +kernel
theorem dL_law_274 : decode cL_law 274 = .ok (.if_icmp .eq 1481, 3) := by decide +kernel
theorem dL_law_277 : decode cL_law 277 = .ok (.iconst 0, 1) := by decide +kernel
theorem dL_law_278 : decode cL_law 278 = .ok (.ireturn, 1) := by decide +kernel
theorem dL_law_279 : decode cL_law 279 = .ok (.aload_n 1, 1) := by decide +kernel
theorem dL_law_280 : decode cL_law 280 = .ok (.invokevirtual 18, 3) := by decide +kernel
theorem dL_law_283 : decode cL_law 283 = .ok (.aload_n 2, 1) := by decide +kernel
theorem dL_law_284 : decode cL_law 284 = .ok (.invokevirtual 22, 3) := by decide +kernel
theorem dL_law_287 : decode cL_law 287 = .ok (.if_icmp .eq 1468, 3) := by decide +kernel
theorem dL_law_290 : decode cL_law 290 = .ok (.iconst 0, 1) := by decide +kernel
theorem dL_law_291 : decode cL_law 291 = .ok (.ireturn, 1) := by decide +kernel
theorem dL_law_292 : decode cL_law 292 = .ok (.aload_n 1, 1) := by decide +kernel
theorem dL_law_293 : decode cL_law 293 = .ok (.aload_n 0, 1) := by decide +kernel
theorem dL_law_294 : decode cL_law 294 = .ok (.iload_n 3, 1) := by decide +kernel
theorem dL_law_295 : decode cL_law 295 = .ok (.iconst 1, 1) := by decide +kernel
theorem dL_law_296 : decode cL_law 296 = .ok (.iadd, 1) := by decide +kernel
theorem dL_law_297 : decode cL_law 297 = .ok (.iaload, 1) := by decide +kernel
theorem dL_law_298 : decode cL_law 298 = .ok (.aload_n 0, 1) := by decide +kernel
theorem dL_law_299 : decode cL_law 299 = .ok (.iload_n 3, 1) := by decide +kernel
theorem dL_law_300 : decode cL_law 300 = .ok (.iconst 2, 1) := by decide +kernel
theorem dL_law_301 : decode cL_law 301 = .ok (.iadd, 1) := by decide +kernel
theorem dL_law_302 : decode cL_law 302 = .ok (.iaload, 1) := by decide +kernel
theorem dL_law_303 : decode cL_law 303 = .ok (.invokevirtual 23, 3) := by decide +kernel
theorem dL_law_306 : decode cL_law 306 = .ok (.aload_n 2, 1) := by decide +kernel
theorem dL_law_307 : decode cL_law 307 = .ok (.aload_n 0, 1) := by decide +kernel
theorem dL_law_308 : decode cL_law 308 = .ok (.iload_n 3, 1) := by decide +kernel
theorem dL_law_309 : decode cL_law 309 = .ok (.iconst 1, 1) := by decide +kernel
theorem dL_law_310 : decode cL_law 310 = .ok (.iadd, 1) := by decide +kernel
theorem dL_law_311 : decode cL_law 311 = .ok (.iaload, 1) := by decide +kernel
theorem dL_law_312 : decode cL_law 312 = .ok (.aload_n 0, 1) := by decide +kernel
theorem dL_law_313 : decode cL_law 313 = .ok (.iload_n 3, 1) := by decide +kernel
theorem dL_law_314 : decode cL_law 314 = .ok (.iconst 2, 1) := by decide +kernel
theorem dL_law_315 : decode cL_law 315 = .ok (.iadd, 1) := by decide +kernel
theorem dL_law_316 : decode cL_law 316 = .ok (.iaload, 1) := by decide +kernel
theorem dL_law_317 : decode cL_law 317 = .ok (.invokevirtual 27, 3) := by decide +kernel
theorem dL_law_320 : decode cL_law 320 = .ok (.if_icmp .eq 1435, 3) := by decide +kernel
theorem dL_law_323 : decode cL_law 323 = .ok (.iconst 0, 1) := by decide +kernel
theorem dL_law_324 : decode cL_law 324 = .ok (.ireturn, 1) := by decide +kernel
theorem dL_law_325 : decode cL_law 325 = .ok (.aload_n 1, 1) := by decide +kernel
theorem dL_law_326 : decode cL_law 326 = .ok (.aload_n 0, 1) := by decide +kernel
theorem dL_law_327 : decode cL_law 327 = .ok (.iload_n 3, 1) := by decide +kernel
theorem dL_law_328 : decode cL_law 328 = .ok (.iconst 1, 1) := by decide +kernel
theorem dL_law_329 : decode cL_law 329 = .ok (.iadd, 1) := by decide +kernel
theorem dL_law_330 : decode cL_law 330 = .ok (.iaload, 1) := by decide +kernel
theorem dL_law_331 : decode cL_law 331 = .ok (.invokevirtual 28, 3) := by decide +kernel
theorem dL_law_334 : decode cL_law 334 = .ok (.aload_n 2, 1) := by decide +kernel
theorem dL_law_335 : decode cL_law 335 = .ok (.aload_n 0, 1) := by decide +kernel
theorem dL_law_336 : decode cL_law 336 = .ok (.iload_n 3, 1) := by decide +kernel
theorem dL_law_337 : decode cL_law 337 = .ok (.iconst 1, 1) := by decide +kernel
theorem dL_law_338 : decode cL_law 338 = .ok (.iadd, 1) := by decide +kernel
theorem dL_law_339 : decode cL_law 339 = .ok (.iaload, 1) := by decide +kernel
theorem dL_law_340 : decode cL_law 340 = .ok (.invokevirtual 31, 3) := by decide +kernel
theorem dL_law_343 : decode cL_law 343 = .ok (.if_icmp .eq 1412, 3) := by decide +kernel
theorem dL_law_346 : decode cL_law 346 = .ok (.iconst 0, 1) := by decide +kernel
theorem dL_law_347 : decode cL_law 347 = .ok (.ireturn, 1) := by decide +kernel
theorem dL_law_348 : decode cL_law 348 = .ok (.aload_n 1, 1) := by decide +kernel
theorem dL_law_349 : decode cL_law 349 = .ok (.aload_n 0, 1) := by decide +kernel
theorem dL_law_350 : decode cL_law 350 = .ok (.iload_n 3, 1) := by decide +kernel
theorem dL_law_351 : decode cL_law 351 = .ok (.iconst 1, 1) := by decide +kernel
theorem dL_law_352 : decode cL_law 352 = .ok (.iadd, 1) := by decide +kernel
theorem dL_law_353 : decode cL_law 353 = .ok (.iaload, 1) := by decide +kernel
theorem dL_law_354 : decode cL_law 354 = .ok (.aload_n 0, 1) := by decide +kernel
theorem dL_law_355 : decode cL_law 355 = .ok (.iload_n 3, 1) := by decide +kernel
theorem dL_law_356 : decode cL_law 356 = .ok (.iconst 2, 1) := by decide +kernel
theorem dL_law_357 : decode cL_law 357 = .ok (.iadd, 1) := by decide +kernel
theorem dL_law_358 : decode cL_law 358 = .ok (.iaload, 1) := by decide +kernel
theorem dL_law_359 : decode cL_law 359 = .ok (.aload_n 0, 1) := by decide +kernel
theorem dL_law_360 : decode cL_law 360 = .ok (.iload_n 3, 1) := by decide +kernel
theorem dL_law_361 : decode cL_law 361 = .ok (.iconst 3, 1) := by decide +kernel
theorem dL_law_362 : decode cL_law 362 = .ok (.iadd, 1) := by decide +kernel
theorem dL_law_363 : decode cL_law 363 = .ok (.iaload, 1) := by decide +kernel
theorem dL_law_364 : decode cL_law 364 = .ok (.invokevirtual 32, 3) := by decide +kernel
theorem dL_law_367 : decode cL_law 367 = .ok (.aload_n 2, 1) := by decide +kernel
theorem dL_law_368 : decode cL_law 368 = .ok (.aload_n 0, 1) := by decide +kernel
theorem dL_law_369 : decode cL_law 369 = .ok (.iload_n 3, 1) := by decide +kernel
theorem dL_law_370 : decode cL_law 370 = .ok (.iconst 1, 1) := by decide +kernel
theorem dL_law_371 : decode cL_law 371 = .ok (.iadd, 1) := by decide +kernel
theorem dL_law_372 : decode cL_law 372 = .ok (.iaload, 1) := by decide +kernel
theorem dL_law_373 : decode cL_law 373 = .ok (.aload_n 0, 1) := by decide +kernel
theorem dL_law_374 : decode cL_law 374 = .ok (.iload_n 3, 1) := by decide +kernel
theorem dL_law_375 : decode cL_law 375 = .ok (.iconst 2, 1) := by decide +kernel
theorem dL_law_376 : decode cL_law 376 = .ok (.iadd, 1) := by decide +kernel
theorem dL_law_377 : decode cL_law 377 = .ok (.iaload, 1) := by decide +kernel
theorem dL_law_378 : decode cL_law 378 = .ok (.aload_n 0, 1) := by decide +kernel
theorem dL_law_379 : decode cL_law 379 = .ok (.iload_n 3, 1) := by decide +kernel
theorem dL_law_380 : decode cL_law 380 = .ok (.iconst 3, 1) := by decide +kernel
theorem dL_law_381 : decode cL_law 381 = .ok (.iadd, 1) := by decide +kernel
theorem dL_law_382 : decode cL_law 382 = .ok (.iaload, 1) := by decide +kernel
theorem dL_law_383 : decode cL_law 383 = .ok (.invokevirtual 36, 3) := by decide +kernel
theorem dL_law_386 : decode cL_law 386 = .ok (.if_icmp .eq 1369, 3) := by decide +kernel
theorem dL_law_389 : decode cL_law 389 = .ok (.iconst 0, 1) := by decide +kernel
theorem dL_law_390 : decode cL_law 390 = .ok (.ireturn, 1) := by decide +kernel
theorem dL_law_391 : decode cL_law 391 = .ok (.aload_n 1, 1) := by decide +kernel
theorem dL_law_392 : decode cL_law 392 = .ok (.aload_n 0, 1) := by decide +kernel
theorem dL_law_393 : decode cL_law 393 = .ok (.iload_n 3, 1) := by decide +kernel
theorem dL_law_394 : decode cL_law 394 = .ok (.iconst 1, 1) := by decide +kernel
theorem dL_law_395 : decode cL_law 395 = .ok (.iadd, 1) := by decide +kernel
theorem dL_law_396 : decode cL_law 396 = .ok (.iaload, 1) := by decide +kernel
theorem dL_law_397 : decode cL_law 397 = .ok (.invokevirtual 37, 3) := by decide +kernel
theorem dL_law_400 : decode cL_law 400 = .ok (.aload_n 2, 1) := by decide +kernel
theorem dL_law_401 : decode cL_law 401 = .ok (.aload_n 0, 1) := by decide +kernel
theorem dL_law_402 : decode cL_law 402 = .ok (.iload_n 3, 1) := by decide +kernel
theorem dL_law_403 : decode cL_law 403 = .ok (.iconst 1, 1) := by decide +kernel
theorem dL_law_404 : decode cL_law 404 = .ok (.iadd, 1) := by decide +kernel
theorem dL_law_405 : decode cL_law 405 = .ok (.iaload, 1) := by decide +kernel
theorem dL_law_406 : decode cL_law 406 = .ok (.invokevirtual 40, 3) := by decide +kernel
theorem dL_law_409 : decode cL_law 409 = .ok (.if_icmp .eq 1346, 3) := by decide +kernel
theorem dL_law_412 : decode cL_law 412 = .ok (.iconst 0, 1) := by decide +kernel
theorem dL_law_413 : decode cL_law 413 = .ok (.ireturn, 1) := by decide +kernel
theorem dL_law_414 : decode cL_law 414 = .ok (.aload_n 1, 1) := by decide +kernel
theorem dL_law_415 : decode cL_law 415 = .ok (.aload_n 0, 1) := by decide +kernel
theorem dL_law_416 : decode cL_law 416 = .ok (.iload_n 3, 1) := by decide +kernel
theorem dL_law_417 : decode cL_law 417 = .ok (.iconst 1, 1) := by decide +kernel
theorem dL_law_418 : decode cL_law 418 = .ok (.iadd, 1) := by decide +kernel
theorem dL_law_419 : decode cL_law 419 = .ok (.iaload, 1) := by decide +kernel
theorem dL_law_420 : decode cL_law 420 = .ok (.aload_n 0, 1) := by decide +kernel
theorem dL_law_421 : decode cL_law 421 = .ok (.iload_n 3, 1) := by decide +kernel
theorem dL_law_422 : decode cL_law 422 = .ok (.iconst 2, 1) := by decide +kernel
theorem dL_law_423 : decode cL_law 423 = .ok (.iadd, 1) := by decide +kernel
theorem dL_law_424 : decode cL_law 424 = .ok (.iaload, 1) := by decide +kernel
theorem dL_law_425 : decode cL_law 425 = .ok (.invokevirtual 41, 3) := by decide +kernel
