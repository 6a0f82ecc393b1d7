theorem dX10_empty_41 : decode cX10_empty 41 = .ok (.iload 4, 2) := by decide +kernel
theorem dX10_empty_43 : decode cX10_empty 43 = .ok (.sipush 256, 3) := by decide +kernel
theorem dX10_empty_46 : decode cX10_empty 46 = .ok (.if_icmp .ge 43, 3) := by decide +kernel
theorem dX10_empty_49 : decode cX10_empty 49 = .ok (.aload_n 0, 1) := by decide +kernel
theorem dX10_empty_50 : decode cX10_empty 50 = .ok (.iload 4, 2) := by decide +kernel
theorem dX10_empty_52 : decode cX10_empty 52 = .ok (.invokevirtual 233, 3) := by decide +kernel
theorem dX10_empty_55 : decode cX10_empty 55 = .ok (.istore 5, 2) := by decide +kernel
theorem dX10_empty_57 : decode cX10_empty 57 = .ok (.iload 5, 2) := by decide +kernel
theorem dX10_empty_59 : decode cX10_empty 59 = .ok (.iload_n 3, 1) := by decide +kernel
theorem dX10_empty_60 : decode cX10_empty 60 = .ok (.if_icmp .le 8, 3) := by decide +kernel
theorem dX10_empty_63 : decode cX10_empty 63 = .ok (.iload 4, 2) := by decide +kernel
theorem dX10_empty_65 : decode cX10_empty 65 = .ok (.goto 4, 3) := by decide +kernel
theorem dX10_empty_68 : decode cX10_empty 68 = .ok (.iload_n 2, 1) := by decide +kernel
theorem dX10_empty_69 : decode cX10_empty 69 = .ok (.istore_n 2, 1) := by decide +kernel
theorem dX10_empty_70 : decode cX10_empty 70 = .ok (.iload 5, 2) := by decide +kernel
theorem dX10_empty_72 : decode cX10_empty 72 = .ok (.iload_n 3, 1) := by decide +kernel
theorem dX10_empty_73 : decode cX10_empty 73 = .ok (.if_icmp .le 8, 3) := by decide +kernel
theorem dX10_empty_76 : decode cX10_empty 76 = .ok (.iload 5, 2) := by decide +kernel
theorem dX10_empty_78 : decode cX10_empty 78 = .ok (.goto 4, 3) := by decide +kernel
theorem dX10_empty_81 : decode cX10_empty 81 = .ok (.iload_n 3, 1) := by decide +kernel
theorem dX10_empty_82 : decode cX10_empty 82 = .ok (.istore_n 3, 1) := by decide +kernel
theorem dX10_empty_83 : decode cX10_empty 83 = .ok (.iinc 4 1, 3) := by decide +kernel
theorem dX10_empty_86 : decode cX10_empty 86 = .ok (.goto (-45), 3) := by decide +kernel
theorem dX10_empty_89 : decode cX10_empty 89 = .ok (.iload_n 1, 1) := by decide +kernel
theorem dX10_empty_90 : decode cX10_empty 90 = .ok (.iconst 1, 1) := by decide +kernel
theorem dX10_empty_91 : decode cX10_empty 91 = .ok (.if_icmp .ne 7, 3) := by decide +kernel
theorem dX10_empty_94 : decode cX10_empty 94 = .ok (.iload_n 2, 1) := by decide +kernel
theorem dX10_empty_95 : decode cX10_empty 95 = .ok (.goto 4, 3) := by decide +kernel
theorem dX10_empty_98 : decode cX10_empty 98 = .ok (.iload_n 3, 1) := by decide +kernel
theorem dX10_empty_99 : decode cX10_empty 99 = .ok (.ireturn, 1) := by decide +kernel
theorem dX10_wrongRow_0 : decode cX10_wrongRow 0 = .ok (.aload_n 0, 1) := by decide +kernel
theorem dX10_wrongRow_1 : decode cX10_wrongRow 1 = .ok (.getfield 236, 3) := by decide +kernel
theorem dX10_wrongRow_4 : decode cX10_wrongRow 4 = .ok (.bipush 12, 2) := by decide +kernel
theorem dX10_wrongRow_6 : decode cX10_wrongRow 6 = .ok (.if_icmp .gt 7, 3) := by decide +kernel
theorem dX10_wrongRow_9 : decode cX10_wrongRow 9 = .ok (.iconst 1, 1) := by decide +kernel
theorem dX10_wrongRow_10 : decode cX10_wrongRow 10 = .ok (.goto 4, 3) := by decide +kernel
theorem dX10_wrongRow_13 : decode cX10_wrongRow 13 = .ok (.iconst 0, 1) := by decide +kernel
theorem dX10_wrongRow_14 : decode cX10_wrongRow 14 = .ok (.istore_n 1, 1) := by decide +kernel
theorem dX10_wrongRow_15 : decode cX10_wrongRow 15 = .ok (.iconst 0, 1) := by decide +kernel
theorem dX10_wrongRow_16 : decode cX10_wrongRow 16 = .ok (.istore_n 2, 1) := by decide +kernel
theorem dX10_wrongRow_17 : decode cX10_wrongRow 17 = .ok (.iload_n 2, 1) := by decide +kernel
theorem dX10_wrongRow_18 : decode cX10_wrongRow 18 = .ok (.aload_n 0, 1) := by decide +kernel
theorem dX10_wrongRow_19 : decode cX10_wrongRow 19 = .ok (.getfield 236, 3) := by decide +kernel
theorem dX10_wrongRow_22 : decode cX10_wrongRow 22 = .ok (.if_icmp .ge 43, 3) := by decide +kernel
theorem dX10_wrongRow_25 : decode cX10_wrongRow 25 = .ok (.iload_n 1, 1) := by decide +kernel
theorem dX10_wrongRow_26 : decode cX10_wrongRow 26 = .ok (.ifCond .eq 31, 3) := by decide +kernel
theorem dX10_wrongRow_29 : decode cX10_wrongRow 29 = .ok (.aload_n 0, 1) := by decide +kernel
theorem dX10_wrongRow_30 : decode cX10_wrongRow 30 = .ok (.getfield 62, 3) := by decide +kernel
theorem dX10_wrongRow_33 : decode cX10_wrongRow 33 = .ok (.iload_n 2, 1) := by decide +kernel
theorem dX10_wrongRow_34 : decode cX10_wrongRow 34 = .ok (.iaload, 1) := by decide +kernel
theorem dX10_wrongRow_35 : decode cX10_wrongRow 35 = .ok (.bipush 99, 2) := by decide +kernel
theorem dX10_wrongRow_37 : decode cX10_wrongRow 37 = .ok (.if_icmp .eq 16, 3) := by decide +kernel
theorem dX10_wrongRow_40 : decode cX10_wrongRow 40 = .ok (.aload_n 0, 1) := by decide +kernel
theorem dX10_wrongRow_41 : decode cX10_wrongRow 41 = .ok (.getfield 62, 3) := by decide +kernel
theorem dX10_wrongRow_44 : decode cX10_wrongRow 44 = .ok (.iload_n 2, 1) := by decide +kernel
theorem dX10_wrongRow_45 : decode cX10_wrongRow 45 = .ok (.iaload, 1) := by decide +kernel
theorem dX10_wrongRow_46 : decode cX10_wrongRow 46 = .ok (.aload_n 0, 1) := by decide +kernel
theorem dX10_wrongRow_47 : decode cX10_wrongRow 47 = .ok (.getfield 88, 3) := by decide +kernel
theorem dX10_wrongRow_50 : decode cX10_wrongRow 50 = .ok (.if_icmp .ge 7, 3) := by decide +kernel
theorem dX10_wrongRow_53 : decode cX10_wrongRow 53 = .ok (.iconst 1, 1) := by decide +kernel
theorem dX10_wrongRow_54 : decode cX10_wrongRow 54 = .ok (.goto 4, 3) := by decide +kernel
theorem dX10_wrongRow_57 : decode cX10_wrongRow 57 = .ok (.iconst 0, 1) := by decide +kernel
theorem dX10_wrongRow_58 : decode cX10_wrongRow 58 = .ok (.istore_n 1, 1) := by decide +kernel
theorem dX10_wrongRow_59 : decode cX10_wrongRow 59 = .ok (.iinc 2 1, 3) := by decide +kernel
theorem dX10_wrongRow_62 : decode cX10_wrongRow 62 = .ok (.goto (-45), 3) := by decide +kernel
theorem dX10_wrongRow_65 : decode cX10_wrongRow 65 = .ok (.iload_n 1, 1) := by decide +kernel
theorem dX10_wrongRow_66 : decode cX10_wrongRow 66 = .ok (.ifCond .eq 7, 3) := by decide +kernel
theorem dX10_wrongRow_69 : decode cX10_wrongRow 69 = .ok (.iconst 0, 1) := by decide +kernel
theorem dX10_wrongRow_70 : decode cX10_wrongRow 70 = .ok (.goto 5, 3) := by decide +kernel
theorem dX10_wrongRow_73 : decode cX10_wrongRow 73 = .ok (.bipush (-3), 2) := by decide +kernel
theorem dX10_wrongRow_75 : decode cX10_wrongRow 75 = .ok (.ireturn, 1) := by decide +kernel
theorem dX10_isRow_0 : decode cX10_isRow 0 = .ok (.aload_n 0, 1) := by decide +kernel
theorem dX10_isRow_1 : decode cX10_isRow 1 = .ok (.iload_n 1, 1) := by decide +kernel
theorem dX10_isRow_2 : decode cX10_isRow 2 = .ok (.invokevirtual 108, 3) := by decide +kernel
theorem dX10_isRow_5 : decode cX10_isRow 5 = .ok (.pop, 1) := by decide +kernel
theorem dX10_isRow_6 : decode cX10_isRow 6 = .ok (.iconst 1, 1) := by decide +kernel
theorem dX10_isRow_7 : decode cX10_isRow 7 = .ok (.istore_n 2, 1) := by decide +kernel
theorem dX10_isRow_8 : decode cX10_isRow 8 = .ok (.iconst 0, 1) := by decide +kernel
theorem dX10_isRow_9 : decode cX10_isRow 9 = .ok (.istore_n 3, 1) := by decide +kernel
theorem dX10_isRow_10 : decode cX10_isRow 10 = .ok (.iload_n 3, 1) := by decide +kernel
theorem dX10_isRow_11 : decode cX10_isRow 11 = .ok (.aload_n 0, 1) := by decide +kernel
theorem dX10_isRow_12 : decode cX10_isRow 12 = .ok (.getfield 236, 3) := by decide +kernel
theorem dX10_isRow_15 : decode cX10_isRow 15 = .ok (.if_icmp .ge 50, 3) := by decide +kernel
theorem dX10_isRow_18 : decode cX10_isRow 18 = .ok (.iload_n 2, 1) := by decide +kernel
theorem dX10_isRow_19 : decode cX10_isRow 19 = .ok (.ifCond .eq 38, 3) := by decide +kernel
theorem dX10_isRow_22 : decode cX10_isRow 22 = .ok (.aload_n 0, 1) := by decide +kernel
theorem dX10_isRow_23 : decode cX10_isRow 23 = .ok (.getfield 32, 3) := by decide +kernel
theorem dX10_isRow_26 : decode cX10_isRow 26 = .ok (.iload_n 3, 1) := by decide +kernel
theorem dX10_isRow_27 : decode cX10_isRow 27 = .ok (.iaload, 1) := by decide +kernel
theorem dX10_isRow_28 : decode cX10_isRow 28 = .ok (.aload_n 0, 1) := by decide +kernel
theorem dX10_isRow_29 : decode cX10_isRow 29 = .ok (.getfield 62, 3) := by decide +kernel
theorem dX10_isRow_32 : decode cX10_isRow 32 = .ok (.iload_n 3, 1) := by decide +kernel
theorem dX10_isRow_33 : decode cX10_isRow 33 = .ok (.iaload, 1) := by decide +kernel
theorem dX10_isRow_34 : decode cX10_isRow 34 = .ok (.bipush 99, 2) := by decide +kernel
theorem dX10_isRow_36 : decode cX10_isRow 36 = .ok (.if_icmp .ne 8, 3) := by decide +kernel
theorem dX10_isRow_39 : decode cX10_isRow 39 = .ok (.bipush (-9), 2) := by decide +kernel
theorem dX10_isRow_41 : decode cX10_isRow 41 = .ok (.goto 9, 3) := by decide +kernel
theorem dX10_isRow_44 : decode cX10_isRow 44 = .ok (.aload_n 0, 1) := by decide +kernel
theorem dX10_isRow_45 : decode cX10_isRow 45 = .ok (.getfield 62, 3) := by decide +kernel
theorem dX10_isRow_48 : decode cX10_isRow 48 = .ok (.iload_n 3, 1) := by decide +kernel
theorem dX10_isRow_49 : decode cX10_isRow 49 = .ok (.iaload, 1) := by decide +kernel
theorem dX10_isRow_50 : decode cX10_isRow 50 = .ok (.if_icmp .ne 7, 3) := by decide +kernel
theorem dX10_isRow_53 : decode cX10_isRow 53 = .ok (.iconst 1, 1) := by decide +kernel
theorem dX10_isRow_54 : decode cX10_isRow 54 = .ok (.goto 4, 3) := by decide +kernel
theorem dX10_isRow_57 : decode cX10_isRow 57 = .ok (.iconst 0, 1) := by decide +kernel
theorem dX10_isRow_58 : decode cX10_isRow 58 = .ok (.istore_n 2, 1) := by decide +kernel
theorem dX10_isRow_59 : decode cX10_isRow 59 = .ok (.iinc 3 1, 3) := by decide +kernel
theorem dX10_isRow_62 : decode cX10_isRow 62 = .ok (.goto (-52), 3) := by decide +kernel
theorem dX10_isRow_65 : decode cX10_isRow 65 = .ok (.iload_n 2, 1) := by decide +kernel
theorem dX10_isRow_66 : decode cX10_isRow 66 = .ok (.ireturn, 1) := by decide +kernel
theorem dX10_layCould_0 : decode cX10_layCould 0 = .ok (.iconst 0, 1) := by decide +kernel
theorem dX10_layCould_1 : decode cX10_layCould 1 = .ok (.istore_n 1, 1) := by decide +kernel
theorem dX10_layCould_2 : decode cX10_layCould 2 = .ok (.iconst 0, 1) := by decide +kernel
theorem dX10_layCould_3 : decode cX10_layCould 3 = .ok (.istore_n 2, 1) := by decide +kernel
theorem dX10_layCould_4 : decode cX10_layCould 4 = .ok (.iload_n 2, 1) := by decide +kernel
theorem dX10_layCould_5 : decode cX10_layCould 5 = .ok (.sipush 256, 3) := by decide +kernel
theorem dX10_layCould_8 : decode cX10_layCould 8 = .ok (.if_icmp .ge 37, 3) := by decide +kernel
theorem dX10_layCould_11 : decode cX10_layCould 11 = .ok (.aload_n 0, 1) := by decide +kernel
theorem dX10_layCould_12 : decode cX10_layCould 12 = .ok (.getfield 65, 3) := by decide +kernel
theorem dX10_layCould_15 : decode cX10_layCould 15 = .ok (.iload_n 2, 1) := by decide +kernel
theorem dX10_layCould_16 : decode cX10_layCould 16 = .ok (.aload_n 0, 1) := by decide +kernel
theorem dX10_layCould_17 : decode cX10_layCould 17 = .ok (.iload_n 2, 1) := by decide +kernel
theorem dX10_layCould_18 : decode cX10_layCould 18 = .ok (.invokevirtual 239, 3) := by decide +kernel
theorem dX10_layCould_21 : decode cX10_layCould 21 = .ok (.bastore, 1) := by decide +kernel
theorem dX10_layCould_22 : decode cX10_layCould 22 = .ok (.iload_n 1, 1) := by decide +kernel
theorem dX10_layCould_23 : decode cX10_layCould 23 = .ok (.aload_n 0, 1) := by decide +kernel
theorem dX10_layCould_24 : decode cX10_layCould 24 = .ok (.getfield 65, 3) := by decide +kernel
theorem dX10_layCould_27 : decode cX10_layCould 27 = .ok (.iload_n 2, 1) := by decide +kernel
theorem dX10_layCould_28 : decode cX10_layCould 28 = .ok (.baload, 1) := by decide +kernel
theorem dX10_layCould_29 : decode cX10_layCould 29 = .ok (.ifCond .eq 7, 3) := by decide +kernel
theorem dX10_layCould_32 : decode cX10_layCould 32 = .ok (.iconst 1, 1) := by decide +kernel
theorem dX10_layCould_33 : decode cX10_layCould 33 = .ok (.goto 4, 3) := by decide +kernel
theorem dX10_layCould_36 : decode cX10_layCould 36 = .ok (.iconst 0, 1) := by decide +kernel
theorem dX10_layCould_37 : decode cX10_layCould 37 = .ok (.iadd, 1) := by decide +kernel
theorem dX10_layCould_38 : decode cX10_layCould 38 = .ok (.istore_n 1, 1) := by decide +kernel
theorem dX10_layCould_39 : decode cX10_layCould 39 = .ok (.iinc 2 1, 3) := by decide +kernel
theorem dX10_layCould_42 : decode cX10_layCould 42 = .ok (.goto (-38), 3) := by decide +kernel
theorem dX10_layCould_45 : decode cX10_layCould 45 = .ok (.iload_n 1, 1) := by decide +kernel
theorem dX10_layCould_46 : decode cX10_layCould 46 = .ok (.ireturn, 1) := by decide +kernel
theorem dX10_had_0 : decode cX10_had 0 = .ok (.aload_n 0, 1) := by decide +kernel
theorem dX10_had_1 : decode cX10_had 1 = .ok (.iconst 0, 1) := by decide +kernel
theorem dX10_had_2 : decode cX10_had 2 = .ok (.putfield 78, 3) := by decide +kernel
theorem dX10_had_5 : decode cX10_had 5 = .ok (.iconst 0, 1) := by decide +kernel
theorem dX10_had_6 : decode cX10_had 6 = .ok (.iload_n 1, 1) := by decide +kernel
theorem dX10_had_7 : decode cX10_had 7 = .ok (.iconst 1, 1) := by decide +kernel
theorem dX10_had_8 : decode cX10_had 8 = .ok (.invokestatic 225, 3) := by decide +kernel
theorem dX10_had_11 : decode cX10_had 11 = .ok (.istore_n 2, 1) := by decide +kernel
theorem dX10_had_12 : decode cX10_had 12 = .ok (.iload_n 2, 1) := by decide +kernel
theorem dX10_had_13 : decode cX10_had 13 = .ok (.ifCond .ne 10, 3) := by decide +kernel
theorem dX10_had_16 : decode cX10_had 16 = .ok (.aload_n 0, 1) := by decide +kernel
theorem dX10_had_17 : decode cX10_had 17 = .ok (.invokevirtual 242, 3) := by decide +kernel
theorem dX10_had_20 : decode cX10_had 20 = .ok (.goto 4, 3) := by decide +kernel
theorem dX10_had_23 : decode cX10_had 23 = .ok (.iload_n 2, 1) := by decide +kernel
theorem dX10_had_24 : decode cX10_had 24 = .ok (.istore_n 2, 1) := by decide +kernel
theorem dX10_had_25 : decode cX10_had 25 = .ok (.iload_n 2, 1) := by decide +kernel
theorem dX10_had_26 : decode cX10_had 26 = .ok (.ifCond .ge 9, 3) := by decide +kernel
theorem dX10_had_29 : decode cX10_had 29 = .ok (.aload_n 0, 1) := by decide +kernel
theorem dX10_had_30 : decode cX10_had 30 = .ok (.iload_n 2, 1) := by decide +kernel
theorem dX10_had_31 : decode cX10_had 31 = .ok (.invokevirtual 121, 3) := by decide +kernel
theorem dX10_had_34 : decode cX10_had 34 = .ok (.ireturn, 1) := by decide +kernel
theorem dX10_had_35 : decode cX10_had 35 = .ok (.aload_n 0, 1) := by decide +kernel
theorem dX10_had_36 : decode cX10_had 36 = .ok (.invokevirtual 245, 3) := by decide +kernel
theorem dX10_had_39 : decode cX10_had 39 = .ok (.istore_n 3, 1) := by decide +kernel
theorem dX10_had_40 : decode cX10_had 40 = .ok (.bipush (-9), 2) := by decide +kernel
theorem dX10_had_42 : decode cX10_had 42 = .ok (.istore 4, 2) := by decide +kernel
theorem dX10_had_44 : decode cX10_had 44 = .ok (.sipush 255, 3) := by decide +kernel
theorem dX10_had_47 : decode cX10_had 47 = .ok (.istore 5, 2) := by decide +kernel
theorem dX10_had_49 : decode cX10_had 49 = .ok (.iload 5, 2) := by decide +kernel
theorem dX10_had_51 : decode cX10_had 51 = .ok (.ifCond .lt 28, 3) := by decide +kernel
theorem dX10_had_54 : decode cX10_had 54 = .ok (.aload_n 0, 1) := by decide +kernel
theorem dX10_had_55 : decode cX10_had 55 = .ok (.getfield 65, 3) := by decide +kernel
theorem dX10_had_58 : decode cX10_had 58 = .ok (.iload 5, 2) := by decide +kernel
theorem dX10_had_60 : decode cX10_had 60 = .ok (.baload, 1) := by decide +kernel
theorem dX10_had_61 : decode cX10_had 61 = .ok (.ifCond .eq 8, 3) := by decide +kernel
theorem dX10_had_64 : decode cX10_had 64 = .ok (.iload 5, 2) := by decide +kernel
theorem dX10_had_66 : decode cX10_had 66 = .ok (.goto 5, 3) := by decide +kernel
theorem dX10_had_69 : decode cX10_had 69 = .ok (.iload 4, 2) := by decide +kernel
theorem dX10_had_71 : decode cX10_had 71 = .ok (.istore 4, 2) := by decide +kernel
theorem dX10_had_73 : decode cX10_had 73 = .ok (.iinc 5 (-1), 3) := by decide +kernel
theorem dX10_had_76 : decode cX10_had 76 = .ok (.goto (-27), 3) := by decide +kernel
theorem dX10_had_79 : decode cX10_had 79 = .ok (.iload_n 1, 1) := by decide +kernel
theorem dX10_had_80 : decode cX10_had 80 = .ok (.ifCond .ne 7, 3) := by decide +kernel
theorem dX10_had_83 : decode cX10_had 83 = .ok (.iload_n 3, 1) := by decide +kernel
theorem dX10_had_84 : decode cX10_had 84 = .ok (.goto 5, 3) := by decide +kernel
theorem dX10_had_87 : decode cX10_had 87 = .ok (.iload 4, 2) := by decide +kernel
theorem dX10_had_89 : decode cX10_had 89 = .ok (.ireturn, 1) := by decide +kernel
theorem dX10_withThing_0 : decode cX10_withThing 0 = .ok (.iconst 0, 1) := by decide +kernel
theorem dX10_withThing_1 : decode cX10_withThing 1 = .ok (.istore_n 2, 1) := by decide +kernel
theorem dX10_withThing_2 : decode cX10_withThing 2 = .ok (.iconst 0, 1) := by decide +kernel
theorem dX10_withThing_3 : decode cX10_withThing 3 = .ok (.istore_n 3, 1) := by decide +kernel
theorem dX10_withThing_4 : decode cX10_withThing 4 = .ok (.iload_n 3, 1) := by decide +kernel
theorem dX10_withThing_5 : decode cX10_withThing 5 = .ok (.sipush 256, 3) := by decide +kernel
theorem dX10_withThing_8 : decode cX10_withThing 8 = .ok (.if_icmp .ge 34, 3) := by decide +kernel
theorem dX10_withThing_11 : decode cX10_withThing 11 = .ok (.iload_n 2, 1) := by decide +kernel
theorem dX10_withThing_12 : decode cX10_withThing 12 = .ok (.aload_n 0, 1) := by decide +kernel
theorem dX10_withThing_13 : decode cX10_withThing 13 = .ok (.getfield 65, 3) := by decide +kernel
theorem dX10_withThing_16 : decode cX10_withThing 16 = .ok (.iload_n 3, 1) := by decide +kernel
theorem dX10_withThing_17 : decode cX10_withThing 17 = .ok (.baload, 1) := by decide +kernel
theorem dX10_withThing_18 : decode cX10_withThing 18 = .ok (.ifCond .eq 15, 3) := by decide +kernel
theorem dX10_withThing_21 : decode cX10_withThing 21 = .ok (.iload_n 3, 1) := by decide +kernel
theorem dX10_withThing_22 : decode cX10_withThing 22 = .ok (.iload_n 1, 1) := by decide +kernel
theorem dX10_withThing_23 : decode cX10_withThing 23 = .ok (.invokestatic 93, 3) := by decide +kernel
theorem dX10_withThing_26 : decode cX10_withThing 26 = .ok (.ifCond .eq 7, 3) := by decide +kernel
theorem dX10_withThing_29 : decode cX10_withThing 29 = .ok (.iconst 1, 1) := by decide +kernel
theorem dX10_withThing_30 : decode cX10_withThing 30 = .ok (.goto 4, 3) := by decide +kernel
theorem dX10_withThing_33 : decode cX10_withThing 33 = .ok (.iconst 0, 1) := by decide +kernel
theorem dX10_withThing_34 : decode cX10_withThing 34 = .ok (.iadd, 1) := by decide +kernel
theorem dX10_withThing_35 : decode cX10_withThing 35 = .ok (.istore_n 2, 1) := by decide +kernel
theorem dX10_withThing_36 : decode cX10_withThing 36 = .ok (.iinc 3 1, 3) := by decide +kernel
theorem dX10_withThing_39 : decode cX10_withThing 39 = .ok (.goto (-35), 3) := by decide +kernel
theorem dX10_withThing_42 : decode cX10_withThing 42 = .ok (.iload_n 2, 1) := by decide +kernel
theorem dX10_withThing_43 : decode cX10_withThing 43 = .ok (.ireturn, 1) := by decide +kernel
theorem dX10_divisor_0 : decode cX10_divisor 0 = .ok (.lload_n 0, 1) := by decide +kernel
theorem dX10_divisor_1 : decode cX10_divisor 1 = .ok (.lstore 4, 2) := by decide +kernel
theorem dX10_divisor_3 : decode cX10_divisor 3 = .ok (.lload_n 2, 1) := by decide +kernel
theorem dX10_divisor_4 : decode cX10_divisor 4 = .ok (.lstore 6, 2) := by decide +kernel
theorem dX10_divisor_6 : decode cX10_divisor 6 = .ok (.lload 6, 2) := by decide +kernel
theorem dX10_divisor_8 : decode cX10_divisor 8 = .ok (.lconst 0, 1) := by decide +kernel
theorem dX10_divisor_9 : decode cX10_divisor 9 = .ok (.lcmp, 1) := by decide +kernel
theorem dX10_divisor_10 : decode cX10_divisor 10 = .ok (.ifCond .eq 21, 3) := by decide +kernel
theorem dX10_divisor_13 : decode cX10_divisor 13 = .ok (.lload 4, 2) := by decide +kernel
theorem dX10_divisor_15 : decode cX10_divisor 15 = .ok (.lload 6, 2) := by decide +kernel
theorem dX10_divisor_17 : decode cX10_divisor 17 = .ok (.lrem, 1) := by decide +kernel
theorem dX10_divisor_18 : decode cX10_divisor 18 = .ok (.lstore 8, 2) := by decide +kernel
theorem dX10_divisor_20 : decode cX10_divisor 20 = .ok (.lload 6, 2) := by decide +kernel
theorem dX10_divisor_22 : decode cX10_divisor 22 = .ok (.lstore 4, 2) := by decide +kernel
theorem dX10_divisor_24 : decode cX10_divisor 24 = .ok (.lload 8, 2) := by decide +kernel
theorem dX10_divisor_26 : decode cX10_divisor 26 = .ok (.lstore 6, 2) := by decide +kernel
theorem dX10_divisor_28 : decode cX10_divisor 28 = .ok (.goto (-22), 3) := by decide +kernel
theorem dX10_divisor_31 : decode cX10_divisor 31 = .ok (.lload 4, 2) := by decide +kernel
theorem dX10_divisor_33 : decode cX10_divisor 33 = .ok (.lreturn, 1) := by decide +kernel
theorem dX10_partOf_0 : decode cX10_partOf 0 = .ok (.lload_n 0, 1) := by decide +kernel
theorem dX10_partOf_1 : decode cX10_partOf 1 = .ok (.lconst 0, 1) := by decide +kernel
theorem dX10_partOf_2 : decode cX10_partOf 2 = .ok (.lcmp, 1) := by decide +kernel
theorem dX10_partOf_3 : decode cX10_partOf 3 = .ok (.ifCond .ne 7, 3) := by decide +kernel
theorem dX10_partOf_6 : decode cX10_partOf 6 = .ok (.iload 4, 2) := by decide +kernel
theorem dX10_partOf_8 : decode cX10_partOf 8 = .ok (.i2l, 1) := by decide +kernel
theorem dX10_partOf_9 : decode cX10_partOf 9 = .ok (.lreturn, 1) := by decide +kernel
theorem dX10_partOf_10 : decode cX10_partOf 10 = .ok (.lload_n 0, 1) := by decide +kernel
theorem dX10_partOf_11 : decode cX10_partOf 11 = .ok (.lload_n 2, 1) := by decide +kernel
theorem dX10_partOf_12 : decode cX10_partOf 12 = .ok (.invokestatic 248, 3) := by decide +kernel
theorem dX10_partOf_15 : decode cX10_partOf 15 = .ok (.lstore 5, 2) := by decide +kernel
theorem dX10_partOf_17 : decode cX10_partOf 17 = .ok (.iload 4, 2) := by decide +kernel
theorem dX10_partOf_19 : decode cX10_partOf 19 = .ok (.ifCond .ne 10, 3) := by decide +kernel
theorem dX10_partOf_22 : decode cX10_partOf 22 = .ok (.lload_n 0, 1) := by decide +kernel
theorem dX10_partOf_23 : decode cX10_partOf 23 = .ok (.lload 5, 2) := by decide +kernel
theorem dX10_partOf_25 : decode cX10_partOf 25 = .ok (.ldiv, 1) := by decide +kernel
theorem dX10_partOf_26 : decode cX10_partOf 26 = .ok (.goto 7, 3) := by decide +kernel
theorem dX10_partOf_29 : decode cX10_partOf 29 = .ok (.lload_n 2, 1) := by decide +kernel
theorem dX10_partOf_30 : decode cX10_partOf 30 = .ok (.lload 5, 2) := by decide +kernel
theorem dX10_partOf_32 : decode cX10_partOf 32 = .ok (.ldiv, 1) := by decide +kernel
theorem dX10_partOf_33 : decode cX10_partOf 33 = .ok (.lreturn, 1) := by decide +kernel
theorem dX10_inIt_0 : decode cX10_inIt 0 = .ok (.aload_n 0, 1) := by decide +kernel
theorem dX10_inIt_1 : decode cX10_inIt 1 = .ok (.iconst 0, 1) := by decide +kernel
theorem dX10_inIt_2 : decode cX10_inIt 2 = .ok (.putfield 78, 3) := by decide +kernel
theorem dX10_inIt_5 : decode cX10_inIt 5 = .ok (.iload_n 1, 1) := by decide +kernel
theorem dX10_inIt_6 : decode cX10_inIt 6 = .ok (.invokestatic 217, 3) := by decide +kernel
theorem dX10_inIt_9 : decode cX10_inIt 9 = .ok (.ifCond .eq 12, 3) := by decide +kernel
theorem dX10_inIt_12 : decode cX10_inIt 12 = .ok (.iconst 0, 1) := by decide +kernel
theorem dX10_inIt_13 : decode cX10_inIt 13 = .ok (.iload_n 2, 1) := by decide +kernel
theorem dX10_inIt_14 : decode cX10_inIt 14 = .ok (.iconst 1, 1) := by decide +kernel
theorem dX10_inIt_15 : decode cX10_inIt 15 = .ok (.invokestatic 225, 3) := by decide +kernel
theorem dX10_inIt_18 : decode cX10_inIt 18 = .ok (.goto 4, 3) := by decide +kernel
theorem dX10_inIt_21 : decode cX10_inIt 21 = .ok (.iconst (-1), 1) := by decide +kernel
theorem dX10_inIt_22 : decode cX10_inIt 22 = .ok (.istore_n 3, 1) := by decide +kernel
theorem dX10_inIt_23 : decode cX10_inIt 23 = .ok (.iload_n 3, 1) := by decide +kernel
theorem dX10_inIt_24 : decode cX10_inIt 24 = .ok (.ifCond .ne 10, 3) := by decide +kernel
theorem dX10_inIt_27 : decode cX10_inIt 27 = .ok (.aload_n 0, 1) := by decide +kernel
theorem dX10_inIt_28 : decode cX10_inIt 28 = .ok (.invokevirtual 242, 3) := by decide +kernel
theorem dX10_inIt_31 : decode cX10_inIt 31 = .ok (.goto 4, 3) := by decide +kernel
theorem dX10_inIt_34 : decode cX10_inIt 34 = .ok (.iload_n 3, 1) := by decide +kernel
theorem dX10_inIt_35 : decode cX10_inIt 35 = .ok (.istore_n 3, 1) := by decide +kernel
theorem dX10_inIt_36 : decode cX10_inIt 36 = .ok (.iload_n 3, 1) := by decide +kernel
theorem dX10_inIt_37 : decode cX10_inIt 37 = .ok (.ifCond .ge 14, 3) := by decide +kernel
theorem dX10_inIt_40 : decode cX10_inIt 40 = .ok (.ldc2_w 252, 3) := by decide +kernel
theorem dX10_inIt_43 : decode cX10_inIt 43 = .ok (.aload_n 0, 1) := by decide +kernel
theorem dX10_inIt_44 : decode cX10_inIt 44 = .ok (.iload_n 3, 1) := by decide +kernel
theorem dX10_inIt_45 : decode cX10_inIt 45 = .ok (.invokevirtual 121, 3) := by decide +kernel
theorem dX10_inIt_48 : decode cX10_inIt 48 = .ok (.i2l, 1) := by decide +kernel
theorem dX10_inIt_49 : decode cX10_inIt 49 = .ok (.lsub, 1) := by decide +kernel
theorem dX10_inIt_50 : decode cX10_inIt 50 = .ok (.lreturn, 1) := by decide +kernel
theorem dX10_inIt_51 : decode cX10_inIt 51 = .ok (.aload_n 0, 1) := by decide +kernel
theorem dX10_inIt_52 : decode cX10_inIt 52 = .ok (.invokevirtual 245, 3) := by decide +kernel
theorem dX10_inIt_55 : decode cX10_inIt 55 = .ok (.istore 4, 2) := by decide +kernel
theorem dX10_inIt_57 : decode cX10_inIt 57 = .ok (.aload_n 0, 1) := by decide +kernel
theorem dX10_inIt_58 : decode cX10_inIt 58 = .ok (.iload_n 1, 1) := by decide +kernel
theorem dX10_inIt_59 : decode cX10_inIt 59 = .ok (.invokevirtual 254, 3) := by decide +kernel
theorem dX10_inIt_62 : decode cX10_inIt 62 = .ok (.i2l, 1) := by decide +kernel
theorem dX10_inIt_63 : decode cX10_inIt 63 = .ok (.iload 4, 2) := by decide +kernel
theorem dX10_inIt_65 : decode cX10_inIt 65 = .ok (.i2l, 1) := by decide +kernel
theorem dX10_inIt_66 : decode cX10_inIt 66 = .ok (.iload_n 2, 1) := by decide +kernel
theorem dX10_inIt_67 : decode cX10_inIt 67 = .ok (.invokestatic 257, 3) := by decide +kernel
theorem dX10_inIt_70 : decode cX10_inIt 70 = .ok (.lreturn, 1) := by decide +kernel
theorem dX10_feel_0 : decode cX10_feel 0 = .ok (.aload_n 0, 1) := by decide +kernel
theorem dX10_feel_1 : decode cX10_feel 1 = .ok (.iconst 0, 1) := by decide +kernel
theorem dX10_feel_2 : decode cX10_feel 2 = .ok (.putfield 78, 3) := by decide +kernel
theorem dX10_feel_5 : decode cX10_feel 5 = .ok (.iconst 0, 1) := by decide +kernel
theorem dX10_feel_6 : decode cX10_feel 6 = .ok (.iload_n 1, 1) := by decide +kernel
theorem dX10_feel_7 : decode cX10_feel 7 = .ok (.iconst 1, 1) := by decide +kernel
theorem dX10_feel_8 : decode cX10_feel 8 = .ok (.invokestatic 225, 3) := by decide +kernel
theorem dX10_feel_11 : decode cX10_feel 11 = .ok (.istore_n 2, 1) := by decide +kernel
theorem dX10_feel_12 : decode cX10_feel 12 = .ok (.iload_n 2, 1) := by decide +kernel
theorem dX10_feel_13 : decode cX10_feel 13 = .ok (.ifCond .ne 10, 3) := by decide +kernel
theorem dX10_feel_16 : decode cX10_feel 16 = .ok (.aload_n 0, 1) := by decide +kernel
theorem dX10_feel_17 : decode cX10_feel 17 = .ok (.invokevirtual 242, 3) := by decide +kernel
theorem dX10_feel_20 : decode cX10_feel 20 = .ok (.goto 4, 3) := by decide +kernel
theorem dX10_feel_23 : decode cX10_feel 23 = .ok (.iload_n 2, 1) := by decide +kernel
theorem dX10_feel_24 : decode cX10_feel 24 = .ok (.istore_n 2, 1) := by decide +kernel
theorem dX10_feel_25 : decode cX10_feel 25 = .ok (.iload_n 2, 1) := by decide +kernel
theorem dX10_feel_26 : decode cX10_feel 26 = .ok (.ifCond .ge 9, 3) := by decide +kernel
theorem dX10_feel_29 : decode cX10_feel 29 = .ok (.aload_n 0, 1) := by decide +kernel
theorem dX10_feel_30 : decode cX10_feel 30 = .ok (.iload_n 2, 1) := by decide +kernel
theorem dX10_feel_31 : decode cX10_feel 31 = .ok (.invokevirtual 121, 3) := by decide +kernel
theorem dX10_feel_34 : decode cX10_feel 34 = .ok (.ireturn, 1) := by decide +kernel
theorem dX10_feel_35 : decode cX10_feel 35 = .ok (.aload_n 0, 1) := by decide +kernel
theorem dX10_feel_36 : decode cX10_feel 36 = .ok (.invokevirtual 245, 3) := by decide +kernel
theorem dX10_feel_39 : decode cX10_feel 39 = .ok (.istore_n 3, 1) := by decide +kernel
theorem dX10_feel_40 : decode cX10_feel 40 = .ok (.bipush (-9), 2) := by decide +kernel
theorem dX10_feel_42 : decode cX10_feel 42 = .ok (.istore 4, 2) := by decide +kernel
theorem dX10_feel_44 : decode cX10_feel 44 = .ok (.bipush (-9), 2) := by decide +kernel
theorem dX10_feel_46 : decode cX10_feel 46 = .ok (.istore 5, 2) := by decide +kernel
theorem dX10_feel_48 : decode cX10_feel 48 = .ok (.iconst 0, 1) := by decide +kernel
theorem dX10_feel_49 : decode cX10_feel 49 = .ok (.istore 6, 2) := by decide +kernel
theorem dX10_feel_51 : decode cX10_feel 51 = .ok (.iload 6, 2) := by decide +kernel
theorem dX10_feel_53 : decode cX10_feel 53 = .ok (.bipush 8, 2) := by decide +kernel
theorem dX10_feel_55 : decode cX10_feel 55 = .ok (.if_icmp .ge 73, 3) := by decide +kernel
theorem dX10_feel_58 : decode cX10_feel 58 = .ok (.iload_n 3, 1) := by decide +kernel
theorem dX10_feel_59 : decode cX10_feel 59 = .ok (.ifCond .le 69, 3) := by decide +kernel
theorem dX10_feel_62 : decode cX10_feel 62 = .ok (.aload_n 0, 1) := by decide +kernel
theorem dX10_feel_63 : decode cX10_feel 63 = .ok (.iload 6, 2) := by decide +kernel
theorem dX10_feel_65 : decode cX10_feel 65 = .ok (.invokevirtual 254, 3) := by decide +kernel
theorem dX10_feel_68 : decode cX10_feel 68 = .ok (.istore 7, 2) := by decide +kernel
theorem dX10_feel_70 : decode cX10_feel 70 = .ok (.iload 7, 2) := by decide +kernel
theorem dX10_feel_72 : decode cX10_feel 72 = .ok (.iload_n 3, 1) := by decide +kernel
theorem dX10_feel_73 : decode cX10_feel 73 = .ok (.iload 7, 2) := by decide +kernel
theorem dX10_feel_75 : decode cX10_feel 75 = .ok (.isub, 1) := by decide +kernel
theorem dX10_feel_76 : decode cX10_feel 76 = .ok (.if_icmp .ge 8, 3) := by decide +kernel
theorem dX10_feel_79 : decode cX10_feel 79 = .ok (.iload 7, 2) := by decide +kernel
theorem dX10_feel_81 : decode cX10_feel 81 = .ok (.goto 7, 3) := by decide +kernel
theorem dX10_feel_84 : decode cX10_feel 84 = .ok (.iload_n 3, 1) := by decide +kernel
theorem dX10_feel_85 : decode cX10_feel 85 = .ok (.iload 7, 2) := by decide +kernel
theorem dX10_feel_87 : decode cX10_feel 87 = .ok (.isub, 1) := by decide +kernel
theorem dX10_feel_88 : decode cX10_feel 88 = .ok (.istore 8, 2) := by decide +kernel
theorem dX10_feel_90 : decode cX10_feel 90 = .ok (.iload 8, 2) := by decide +kernel
theorem dX10_feel_92 : decode cX10_feel 92 = .ok (.iload 5, 2) := by decide +kernel
theorem dX10_feel_94 : decode cX10_feel 94 = .ok (.if_icmp .le 8, 3) := by decide +kernel
theorem dX10_feel_97 : decode cX10_feel 97 = .ok (.iload 6, 2) := by decide +kernel
theorem dX10_feel_99 : decode cX10_feel 99 = .ok (.goto 5, 3) := by decide +kernel
theorem dX10_feel_102 : decode cX10_feel 102 = .ok (.iload 4, 2) := by decide +kernel
theorem dX10_feel_104 : decode cX10_feel 104 = .ok (.istore 4, 2) := by decide +kernel
theorem dX10_feel_106 : decode cX10_feel 106 = .ok (.iload 8, 2) := by decide +kernel
theorem dX10_feel_108 : decode cX10_feel 108 = .ok (.iload 5, 2) := by decide +kernel
theorem dX10_feel_110 : decode cX10_feel 110 = .ok (.if_icmp .le 8, 3) := by decide +kernel
theorem dX10_feel_113 : decode cX10_feel 113 = .ok (.iload 8, 2) := by decide +kernel
theorem dX10_feel_115 : decode cX10_feel 115 = .ok (.goto 5, 3) := by decide +kernel
theorem dX10_feel_118 : decode cX10_feel 118 = .ok (.iload 5, 2) := by decide +kernel
theorem dX10_feel_120 : decode cX10_feel 120 = .ok (.istore 5, 2) := by decide +kernel
theorem dX10_feel_122 : decode cX10_feel 122 = .ok (.iinc 6 1, 3) := by decide +kernel
theorem dX10_feel_125 : decode cX10_feel 125 = .ok (.goto (-74), 3) := by decide +kernel
theorem dX10_feel_128 : decode cX10_feel 128 = .ok (.iload_n 1, 1) := by decide +kernel
theorem dX10_feel_129 : decode cX10_feel 129 = .ok (.ifCond .ne 8, 3) := by decide +kernel
theorem dX10_feel_132 : decode cX10_feel 132 = .ok (.iload 4, 2) := by decide +kernel
theorem dX10_feel_134 : decode cX10_feel 134 = .ok (.goto 5, 3) := by decide +kernel
theorem dX10_feel_137 : decode cX10_feel 137 = .ok (.iload 5, 2) := by decide +kernel
theorem dX10_feel_139 : decode cX10_feel 139 = .ok (.ireturn, 1) := by decide +kernel
theorem dX10_which_0 : decode cX10_which 0 = .ok (.aload_n 0, 1) := by decide +kernel
theorem dX10_which_1 : decode cX10_which 1 = .ok (.iconst 0, 1) := by decide +kernel
theorem dX10_which_2 : decode cX10_which 2 = .ok (.putfield 78, 3) := by decide +kernel
theorem dX10_which_5 : decode cX10_which 5 = .ok (.aload_n 0, 1) := by decide +kernel
theorem dX10_which_6 : decode cX10_which 6 = .ok (.iload_n 1, 1) := by decide +kernel
theorem dX10_which_7 : decode cX10_which 7 = .ok (.invokevirtual 160, 3) := by decide +kernel
theorem dX10_which_10 : decode cX10_which 10 = .ok (.ifCond .eq 20, 3) := by decide +kernel
theorem dX10_which_13 : decode cX10_which 13 = .ok (.aload_n 0, 1) := by decide +kernel
theorem dX10_which_14 : decode cX10_which 14 = .ok (.iload_n 2, 1) := by decide +kernel
theorem dX10_which_15 : decode cX10_which 15 = .ok (.invokevirtual 206, 3) := by decide +kernel
theorem dX10_which_18 : decode cX10_which 18 = .ok (.ifCond .eq 12, 3) := by decide +kernel
theorem dX10_which_21 : decode cX10_which 21 = .ok (.iconst 0, 1) := by decide +kernel
theorem dX10_which_22 : decode cX10_which 22 = .ok (.iload_n 3, 1) := by decide +kernel
theorem dX10_which_23 : decode cX10_which 23 = .ok (.iconst 2, 1) := by decide +kernel
theorem dX10_which_24 : decode cX10_which 24 = .ok (.invokestatic 225, 3) := by decide +kernel
theorem dX10_which_27 : decode cX10_which 27 = .ok (.goto 4, 3) := by decide +kernel
theorem dX10_which_30 : decode cX10_which 30 = .ok (.iconst (-1), 1) := by decide +kernel
theorem dX10_which_31 : decode cX10_which 31 = .ok (.istore 4, 2) := by decide +kernel
theorem dX10_which_33 : decode cX10_which 33 = .ok (.iload 4, 2) := by decide +kernel
theorem dX10_which_35 : decode cX10_which 35 = .ok (.ifCond .ne 10, 3) := by decide +kernel
theorem dX10_which_38 : decode cX10_which 38 = .ok (.aload_n 0, 1) := by decide +kernel
theorem dX10_which_39 : decode cX10_which 39 = .ok (.invokevirtual 242, 3) := by decide +kernel
theorem dX10_which_42 : decode cX10_which 42 = .ok (.goto 5, 3) := by decide +kernel
theorem dX10_which_45 : decode cX10_which 45 = .ok (.iload 4, 2) := by decide +kernel
theorem dX10_which_47 : decode cX10_which 47 = .ok (.istore 4, 2) := by decide +kernel
theorem dX10_which_49 : decode cX10_which 49 = .ok (.iload 4, 2) := by decide +kernel
theorem dX10_which_51 : decode cX10_which 51 = .ok (.ifCond .ge 10, 3) := by decide +kernel
theorem dX10_which_54 : decode cX10_which 54 = .ok (.aload_n 0, 1) := by decide +kernel
theorem dX10_which_55 : decode cX10_which 55 = .ok (.iload 4, 2) := by decide +kernel
theorem dX10_which_57 : decode cX10_which 57 = .ok (.invokevirtual 121, 3) := by decide +kernel
theorem dX10_which_60 : decode cX10_which 60 = .ok (.ireturn, 1) := by decide +kernel
theorem dX10_which_61 : decode cX10_which 61 = .ok (.iconst 0, 1) := by decide +kernel
theorem dX10_which_62 : decode cX10_which 62 = .ok (.istore 5, 2) := by decide +kernel
theorem dX10_which_64 : decode cX10_which 64 = .ok (.aload_n 0, 1) := by decide +kernel
theorem dX10_which_65 : decode cX10_which 65 = .ok (.invokevirtual 175, 3) := by decide +kernel
theorem dX10_which_68 : decode cX10_which 68 = .ok (.iconst 0, 1) := by decide +kernel
theorem dX10_which_69 : decode cX10_which 69 = .ok (.istore 6, 2) := by decide +kernel
theorem dX10_which_71 : decode cX10_which 71 = .ok (.iload 6, 2) := by decide +kernel
theorem dX10_which_73 : decode cX10_which 73 = .ok (.iload_n 3, 1) := by decide +kernel
theorem dX10_which_74 : decode cX10_which 74 = .ok (.ifCond .ne 8, 3) := by decide +kernel
theorem dX10_which_77 : decode cX10_which 77 = .ok (.bipush 6, 2) := by decide +kernel
theorem dX10_which_79 : decode cX10_which 79 = .ok (.goto 15, 3) := by decide +kernel
theorem dX10_which_82 : decode cX10_which 82 = .ok (.iload_n 3, 1) := by decide +kernel
theorem dX10_which_83 : decode cX10_which 83 = .ok (.iconst 1, 1) := by decide +kernel
theorem dX10_which_84 : decode cX10_which 84 = .ok (.if_icmp .ne 8, 3) := by decide +kernel
theorem dX10_which_87 : decode cX10_which 87 = .ok (.bipush 10, 2) := by decide +kernel
theorem dX10_which_89 : decode cX10_which 89 = .ok (.goto 5, 3) := by decide +kernel
theorem dX10_which_92 : decode cX10_which 92 = .ok (.bipush 8, 2) := by decide +kernel
theorem dX10_which_94 : decode cX10_which 94 = .ok (.if_icmp .ge 100, 3) := by decide +kernel
theorem dX10_which_97 : decode cX10_which 97 = .ok (.aload_n 0, 1) := by decide +kernel
theorem dX10_which_98 : decode cX10_which 98 = .ok (.getfield 7, 3) := by decide +kernel
theorem dX10_which_101 : decode cX10_which 101 = .ok (.iload_n 2, 1) := by decide +kernel
theorem dX10_which_102 : decode cX10_which 102 = .ok (.iload_n 3, 1) := by decide +kernel
theorem dX10_which_103 : decode cX10_which 103 = .ok (.ifCond .ne 8, 3) := by decide +kernel
theorem dX10_which_106 : decode cX10_which 106 = .ok (.iload 6, 2) := by decide +kernel
theorem dX10_which_108 : decode cX10_which 108 = .ok (.goto 9, 3) := by decide +kernel
theorem dX10_which_111 : decode cX10_which 111 = .ok (.aload_n 0, 1) := by decide +kernel
theorem dX10_which_112 : decode cX10_which 112 = .ok (.getfield 7, 3) := by decide +kernel
theorem dX10_which_115 : decode cX10_which 115 = .ok (.iload_n 2, 1) := by decide +kernel
theorem dX10_which_116 : decode cX10_which 116 = .ok (.iaload, 1) := by decide +kernel
theorem dX10_which_117 : decode cX10_which 117 = .ok (.iastore, 1) := by decide +kernel
theorem dX10_which_118 : decode cX10_which 118 = .ok (.aload_n 0, 1) := by decide +kernel
theorem dX10_which_119 : decode cX10_which 119 = .ok (.getfield 13, 3) := by decide +kernel
theorem dX10_which_122 : decode cX10_which 122 = .ok (.iload_n 2, 1) := by decide +kernel
theorem dX10_which_123 : decode cX10_which 123 = .ok (.iload_n 3, 1) := by decide +kernel
theorem dX10_which_124 : decode cX10_which 124 = .ok (.iconst 1, 1) := by decide +kernel
theorem dX10_which_125 : decode cX10_which 125 = .ok (.if_icmp .ne 8, 3) := by decide +kernel
theorem dX10_which_128 : decode cX10_which 128 = .ok (.iload 6, 2) := by decide +kernel
theorem dX10_which_130 : decode cX10_which 130 = .ok (.goto 9, 3) := by decide +kernel
theorem dX10_which_133 : decode cX10_which 133 = .ok (.aload_n 0, 1) := by decide +kernel
theorem dX10_which_134 : decode cX10_which 134 = .ok (.getfield 13, 3) := by decide +kernel
theorem dX10_which_137 : decode cX10_which 137 = .ok (.iload_n 2, 1) := by decide +kernel
theorem dX10_which_138 : decode cX10_which 138 = .ok (.iaload, 1) := by decide +kernel
theorem dX10_which_139 : decode cX10_which 139 = .ok (.iastore, 1) := by decide +kernel
theorem dX10_which_140 : decode cX10_which 140 = .ok (.aload_n 0, 1) := by decide +kernel
theorem dX10_which_141 : decode cX10_which 141 = .ok (.getfield 16, 3) := by decide +kernel
theorem dX10_which_144 : decode cX10_which 144 = .ok (.iload_n 2, 1) := by decide +kernel
theorem dX10_which_145 : decode cX10_which 145 = .ok (.iload_n 3, 1) := by decide +kernel
theorem dX10_which_146 : decode cX10_which 146 = .ok (.iconst 2, 1) := by decide +kernel
theorem dX10_which_147 : decode cX10_which 147 = .ok (.if_icmp .ne 8, 3) := by decide +kernel
theorem dX10_which_150 : decode cX10_which 150 = .ok (.iload 6, 2) := by decide +kernel
theorem dX10_which_152 : decode cX10_which 152 = .ok (.goto 9, 3) := by decide +kernel
theorem dX10_which_155 : decode cX10_which 155 = .ok (.aload_n 0, 1) := by decide +kernel
theorem dX10_which_156 : decode cX10_which 156 = .ok (.getfield 16, 3) := by decide +kernel
theorem dX10_which_159 : decode cX10_which 159 = .ok (.iload_n 2, 1) := by decide +kernel
theorem dX10_which_160 : decode cX10_which 160 = .ok (.iaload, 1) := by decide +kernel
theorem dX10_which_161 : decode cX10_which 161 = .ok (.iastore, 1) := by decide +kernel
theorem dX10_which_162 : decode cX10_which 162 = .ok (.iload 5, 2) := by decide +kernel
theorem dX10_which_164 : decode cX10_which 164 = .ok (.aload_n 0, 1) := by decide +kernel
theorem dX10_which_165 : decode cX10_which 165 = .ok (.aload_n 0, 1) := by decide +kernel
theorem dX10_which_166 : decode cX10_which 166 = .ok (.getfield 22, 3) := by decide +kernel
theorem dX10_which_169 : decode cX10_which 169 = .ok (.iload_n 1, 1) := by decide +kernel
theorem dX10_which_170 : decode cX10_which 170 = .ok (.iaload, 1) := by decide +kernel
theorem dX10_which_171 : decode cX10_which 171 = .ok (.invokevirtual 239, 3) := by decide +kernel
theorem dX10_which_174 : decode cX10_which 174 = .ok (.ifCond .eq 10, 3) := by decide +kernel
theorem dX10_which_177 : decode cX10_which 177 = .ok (.iconst 1, 1) := by decide +kernel
theorem dX10_which_178 : decode cX10_which 178 = .ok (.iload 6, 2) := by decide +kernel
theorem dX10_which_180 : decode cX10_which 180 = .ok (.ishl, 1) := by decide +kernel
theorem dX10_which_181 : decode cX10_which 181 = .ok (.goto 4, 3) := by decide +kernel
theorem dX10_which_184 : decode cX10_which 184 = .ok (.iconst 0, 1) := by decide +kernel
theorem dX10_which_185 : decode cX10_which 185 = .ok (.ior, 1) := by decide +kernel
theorem dX10_which_186 : decode cX10_which 186 = .ok (.istore 5, 2) := by decide +kernel
theorem dX10_which_188 : decode cX10_which 188 = .ok (.iinc 6 1, 3) := by decide +kernel
theorem dX10_which_191 : decode cX10_which 191 = .ok (.goto (-120), 3) := by decide +kernel
theorem dX10_which_194 : decode cX10_which 194 = .ok (.aload_n 0, 1) := by decide +kernel
theorem dX10_which_195 : decode cX10_which 195 = .ok (.invokevirtual 181, 3) := by decide +kernel
theorem dX10_which_198 : decode cX10_which 198 = .ok (.iload 5, 2) := by decide +kernel
theorem dX10_which_200 : decode cX10_which 200 = .ok (.ireturn, 1) := by decide +kernel
theorem dX10_moreBy_0 : decode cX10_moreBy 0 = .ok (.aload_n 0, 1) := by decide +kernel
theorem dX10_moreBy_1 : decode cX10_moreBy 1 = .ok (.aload_n 0, 1) := by decide +kernel
theorem dX10_moreBy_2 : decode cX10_moreBy 2 = .ok (.getfield 22, 3) := by decide +kernel
theorem dX10_moreBy_5 : decode cX10_moreBy 5 = .ok (.iload_n 1, 1) := by decide +kernel
theorem dX10_moreBy_6 : decode cX10_moreBy 6 = .ok (.iaload, 1) := by decide +kernel
theorem dX10_moreBy_7 : decode cX10_moreBy 7 = .ok (.invokevirtual 233, 3) := by decide +kernel
theorem dX10_moreBy_10 : decode cX10_moreBy 10 = .ok (.istore_n 2, 1) := by decide +kernel
theorem dX10_moreBy_11 : decode cX10_moreBy 11 = .ok (.iconst 0, 1) := by decide +kernel
theorem dX10_moreBy_12 : decode cX10_moreBy 12 = .ok (.istore_n 3, 1) := by decide +kernel
theorem dX10_moreBy_13 : decode cX10_moreBy 13 = .ok (.iconst 0, 1) := by decide +kernel
theorem dX10_moreBy_14 : decode cX10_moreBy 14 = .ok (.istore 4, 2) := by decide +kernel
theorem dX10_moreBy_16 : decode cX10_moreBy 16 = .ok (.iload 4, 2) := by decide +kernel
theorem dX10_moreBy_18 : decode cX10_moreBy 18 = .ok (.bipush 8, 2) := by decide +kernel
theorem dX10_moreBy_20 : decode cX10_moreBy 20 = .ok (.if_icmp .ge 51, 3) := by decide +kernel
theorem dX10_moreBy_23 : decode cX10_moreBy 23 = .ok (.iload_n 3, 1) := by decide +kernel
theorem dX10_moreBy_24 : decode cX10_moreBy 24 = .ok (.aload_n 0, 1) := by decide +kernel
theorem dX10_moreBy_25 : decode cX10_moreBy 25 = .ok (.getfield 97, 3) := by decide +kernel
theorem dX10_moreBy_28 : decode cX10_moreBy 28 = .ok (.iload 4, 2) := by decide +kernel
theorem dX10_moreBy_30 : decode cX10_moreBy 30 = .ok (.invokestatic 93, 3) := by decide +kernel
theorem dX10_moreBy_33 : decode cX10_moreBy 33 = .ok (.ifCond .eq 29, 3) := by decide +kernel
theorem dX10_moreBy_36 : decode cX10_moreBy 36 = .ok (.aload_n 0, 1) := by decide +kernel
theorem dX10_moreBy_37 : decode cX10_moreBy 37 = .ok (.aload_n 0, 1) := by decide +kernel
theorem dX10_moreBy_38 : decode cX10_moreBy 38 = .ok (.getfield 22, 3) := by decide +kernel
theorem dX10_moreBy_41 : decode cX10_moreBy 41 = .ok (.iload_n 1, 1) := by decide +kernel
theorem dX10_moreBy_42 : decode cX10_moreBy 42 = .ok (.iaload, 1) := by decide +kernel
theorem dX10_moreBy_43 : decode cX10_moreBy 43 = .ok (.iconst 1, 1) := by decide +kernel
theorem dX10_moreBy_44 : decode cX10_moreBy 44 = .ok (.iload 4, 2) := by decide +kernel
theorem dX10_moreBy_46 : decode cX10_moreBy 46 = .ok (.ishl, 1) := by decide +kernel
theorem dX10_moreBy_47 : decode cX10_moreBy 47 = .ok (.ior, 1) := by decide +kernel
theorem dX10_moreBy_48 : decode cX10_moreBy 48 = .ok (.invokevirtual 233, 3) := by decide +kernel
theorem dX10_moreBy_51 : decode cX10_moreBy 51 = .ok (.iload_n 2, 1) := by decide +kernel
theorem dX10_moreBy_52 : decode cX10_moreBy 52 = .ok (.if_icmp .le 10, 3) := by decide +kernel
theorem dX10_moreBy_55 : decode cX10_moreBy 55 = .ok (.iconst 1, 1) := by decide +kernel
theorem dX10_moreBy_56 : decode cX10_moreBy 56 = .ok (.iload 4, 2) := by decide +kernel
theorem dX10_moreBy_58 : decode cX10_moreBy 58 = .ok (.ishl, 1) := by decide +kernel
theorem dX10_moreBy_59 : decode cX10_moreBy 59 = .ok (.goto 4, 3) := by decide +kernel
theorem dX10_moreBy_62 : decode cX10_moreBy 62 = .ok (.iconst 0, 1) := by decide +kernel
theorem dX10_moreBy_63 : decode cX10_moreBy 63 = .ok (.ior, 1) := by decide +kernel
theorem dX10_moreBy_64 : decode cX10_moreBy 64 = .ok (.istore_n 3, 1) := by decide +kernel
theorem dX10_moreBy_65 : decode cX10_moreBy 65 = .ok (.iinc 4 1, 3) := by decide +kernel
theorem dX10_moreBy_68 : decode cX10_moreBy 68 = .ok (.goto (-52), 3) := by decide +kernel
theorem dX10_moreBy_71 : decode cX10_moreBy 71 = .ok (.iload_n 3, 1) := by decide +kernel
theorem dX10_moreBy_72 : decode cX10_moreBy 72 = .ok (.ireturn, 1) := by decide +kernel
theorem dX10_mostGiven_0 : decode cX10_mostGiven 0 = .ok (.iconst 0, 1) := by decide +kernel
theorem dX10_mostGiven_1 : decode cX10_mostGiven 1 = .ok (.istore_n 1, 1) := by decide +kernel
theorem dX10_mostGiven_2 : decode cX10_mostGiven 2 = .ok (.iload_n 1, 1) := by decide +kernel
theorem dX10_mostGiven_3 : decode cX10_mostGiven 3 = .ok (.sipush 256, 3) := by decide +kernel
theorem dX10_mostGiven_6 : decode cX10_mostGiven 6 = .ok (.if_icmp .ge 24, 3) := by decide +kernel
theorem dX10_mostGiven_9 : decode cX10_mostGiven 9 = .ok (.aload_n 0, 1) := by decide +kernel
theorem dX10_mostGiven_10 : decode cX10_mostGiven 10 = .ok (.getfield 69, 3) := by decide +kernel
theorem dX10_mostGiven_13 : decode cX10_mostGiven 13 = .ok (.iload_n 1, 1) := by decide +kernel
theorem dX10_mostGiven_14 : decode cX10_mostGiven 14 = .ok (.iload_n 1, 1) := by decide +kernel
theorem dX10_mostGiven_15 : decode cX10_mostGiven 15 = .ok (.ifCond .ne 7, 3) := by decide +kernel
theorem dX10_mostGiven_18 : decode cX10_mostGiven 18 = .ok (.iconst 0, 1) := by decide +kernel
theorem dX10_mostGiven_19 : decode cX10_mostGiven 19 = .ok (.goto 4, 3) := by decide +kernel
theorem dX10_mostGiven_22 : decode cX10_mostGiven 22 = .ok (.iconst (-1), 1) := by decide +kernel
theorem dX10_mostGiven_23 : decode cX10_mostGiven 23 = .ok (.iastore, 1) := by decide +kernel
theorem dX10_mostGiven_24 : decode cX10_mostGiven 24 = .ok (.iinc 1 1, 3) := by decide +kernel
theorem dX10_mostGiven_27 : decode cX10_mostGiven 27 = .ok (.goto (-25), 3) := by decide +kernel
theorem dX10_mostGiven_30 : decode cX10_mostGiven 30 = .ok (.iconst 0, 1) := by decide +kernel
theorem dX10_mostGiven_31 : decode cX10_mostGiven 31 = .ok (.istore_n 1, 1) := by decide +kernel
theorem dX10_mostGiven_32 : decode cX10_mostGiven 32 = .ok (.iload_n 1, 1) := by decide +kernel
theorem dX10_mostGiven_33 : decode cX10_mostGiven 33 = .ok (.aload_n 0, 1) := by decide +kernel
theorem dX10_mostGiven_34 : decode cX10_mostGiven 34 = .ok (.getfield 81, 3) := by decide +kernel
theorem dX10_mostGiven_37 : decode cX10_mostGiven 37 = .ok (.if_icmp .ge 137, 3) := by decide +kernel
theorem dX10_mostGiven_40 : decode cX10_mostGiven 40 = .ok (.aload_n 0, 1) := by decide +kernel
theorem dX10_mostGiven_41 : decode cX10_mostGiven 41 = .ok (.iload_n 1, 1) := by decide +kernel
theorem dX10_mostGiven_42 : decode cX10_mostGiven 42 = .ok (.invokevirtual 261, 3) := by decide +kernel
theorem dX10_mostGiven_45 : decode cX10_mostGiven 45 = .ok (.istore_n 2, 1) := by decide +kernel
theorem dX10_mostGiven_46 : decode cX10_mostGiven 46 = .ok (.sipush 255, 3) := by decide +kernel
theorem dX10_mostGiven_49 : decode cX10_mostGiven 49 = .ok (.istore_n 3, 1) := by decide +kernel
theorem dX10_mostGiven_50 : decode cX10_mostGiven 50 = .ok (.iload_n 3, 1) := by decide +kernel
theorem dX10_mostGiven_51 : decode cX10_mostGiven 51 = .ok (.ifCond .le 117, 3) := by decide +kernel
theorem dX10_mostGiven_54 : decode cX10_mostGiven 54 = .ok (.iconst 0, 1) := by decide +kernel
theorem dX10_mostGiven_55 : decode cX10_mostGiven 55 = .ok (.istore 4, 2) := by decide +kernel
theorem dX10_mostGiven_57 : decode cX10_mostGiven 57 = .ok (.iload 4, 2) := by decide +kernel
theorem dX10_mostGiven_59 : decode cX10_mostGiven 59 = .ok (.bipush 8, 2) := by decide +kernel
theorem dX10_mostGiven_61 : decode cX10_mostGiven 61 = .ok (.if_icmp .ge 101, 3) := by decide +kernel
theorem dX10_mostGiven_64 : decode cX10_mostGiven 64 = .ok (.iload_n 3, 1) := by decide +kernel
theorem dX10_mostGiven_65 : decode cX10_mostGiven 65 = .ok (.iconst 1, 1) := by decide +kernel
theorem dX10_mostGiven_66 : decode cX10_mostGiven 66 = .ok (.iload 4, 2) := by decide +kernel
theorem dX10_mostGiven_68 : decode cX10_mostGiven 68 = .ok (.ishl, 1) := by decide +kernel
theorem dX10_mostGiven_69 : decode cX10_mostGiven 69 = .ok (.iconst (-1), 1) := by decide +kernel
theorem dX10_mostGiven_70 : decode cX10_mostGiven 70 = .ok (.ixor, 1) := by decide +kernel
theorem dX10_mostGiven_71 : decode cX10_mostGiven 71 = .ok (.iand, 1) := by decide +kernel
theorem dX10_mostGiven_72 : decode cX10_mostGiven 72 = .ok (.istore 5, 2) := by decide +kernel
theorem dX10_mostGiven_74 : decode cX10_mostGiven 74 = .ok (.iload_n 3, 1) := by decide +kernel
theorem dX10_mostGiven_75 : decode cX10_mostGiven 75 = .ok (.iload 4, 2) := by decide +kernel
theorem dX10_mostGiven_77 : decode cX10_mostGiven 77 = .ok (.invokestatic 93, 3) := by decide +kernel
theorem dX10_mostGiven_80 : decode cX10_mostGiven 80 = .ok (.ifCond .eq 26, 3) := by decide +kernel
theorem dX10_mostGiven_83 : decode cX10_mostGiven 83 = .ok (.iload_n 2, 1) := by decide +kernel
theorem dX10_mostGiven_84 : decode cX10_mostGiven 84 = .ok (.iload 4, 2) := by decide +kernel
theorem dX10_mostGiven_86 : decode cX10_mostGiven 86 = .ok (.invokestatic 93, 3) := by decide +kernel
theorem dX10_mostGiven_89 : decode cX10_mostGiven 89 = .ok (.ifCond .eq 17, 3) := by decide +kernel
theorem dX10_mostGiven_92 : decode cX10_mostGiven 92 = .ok (.aload_n 0, 1) := by decide +kernel
theorem dX10_mostGiven_93 : decode cX10_mostGiven 93 = .ok (.getfield 69, 3) := by decide +kernel
theorem dX10_mostGiven_96 : decode cX10_mostGiven 96 = .ok (.iload 5, 2) := by decide +kernel
theorem dX10_mostGiven_98 : decode cX10_mostGiven 98 = .ok (.iaload, 1) := by decide +kernel
theorem dX10_mostGiven_99 : decode cX10_mostGiven 99 = .ok (.ifCond .lt 7, 3) := by decide +kernel
theorem dX10_mostGiven_102 : decode cX10_mostGiven 102 = .ok (.iconst 1, 1) := by decide +kernel
theorem dX10_mostGiven_103 : decode cX10_mostGiven 103 = .ok (.goto 4, 3) := by decide +kernel
theorem dX10_mostGiven_106 : decode cX10_mostGiven 106 = .ok (.iconst 0, 1) := by decide +kernel
theorem dX10_mostGiven_107 : decode cX10_mostGiven 107 = .ok (.istore 6, 2) := by decide +kernel
theorem dX10_mostGiven_109 : decode cX10_mostGiven 109 = .ok (.aload_n 0, 1) := by decide +kernel
theorem dX10_mostGiven_110 : decode cX10_mostGiven 110 = .ok (.getfield 69, 3) := by decide +kernel
theorem dX10_mostGiven_113 : decode cX10_mostGiven 113 = .ok (.iload_n 3, 1) := by decide +kernel
theorem dX10_mostGiven_114 : decode cX10_mostGiven 114 = .ok (.iload 6, 2) := by decide +kernel
theorem dX10_mostGiven_116 : decode cX10_mostGiven 116 = .ok (.ifCond .eq 33, 3) := by decide +kernel
theorem dX10_mostGiven_119 : decode cX10_mostGiven 119 = .ok (.aload_n 0, 1) := by decide +kernel
theorem dX10_mostGiven_120 : decode cX10_mostGiven 120 = .ok (.getfield 69, 3) := by decide +kernel
theorem dX10_mostGiven_123 : decode cX10_mostGiven 123 = .ok (.iload 5, 2) := by decide +kernel
theorem dX10_mostGiven_125 : decode cX10_mostGiven 125 = .ok (.iaload, 1) := by decide +kernel
theorem dX10_mostGiven_126 : decode cX10_mostGiven 126 = .ok (.iconst 1, 1) := by decide +kernel
theorem dX10_mostGiven_127 : decode cX10_mostGiven 127 = .ok (.iadd, 1) := by decide +kernel
theorem dX10_mostGiven_128 : decode cX10_mostGiven 128 = .ok (.aload_n 0, 1) := by decide +kernel
theorem dX10_mostGiven_129 : decode cX10_mostGiven 129 = .ok (.getfield 69, 3) := by decide +kernel
theorem dX10_mostGiven_132 : decode cX10_mostGiven 132 = .ok (.iload_n 3, 1) := by decide +kernel
theorem dX10_mostGiven_133 : decode cX10_mostGiven 133 = .ok (.iaload, 1) := by decide +kernel
theorem dX10_mostGiven_134 : decode cX10_mostGiven 134 = .ok (.if_icmp .le 15, 3) := by decide +kernel
theorem dX10_mostGiven_137 : decode cX10_mostGiven 137 = .ok (.aload_n 0, 1) := by decide +kernel
theorem dX10_mostGiven_138 : decode cX10_mostGiven 138 = .ok (.getfield 69, 3) := by decide +kernel
theorem dX10_mostGiven_141 : decode cX10_mostGiven 141 = .ok (.iload 5, 2) := by decide +kernel
theorem dX10_mostGiven_143 : decode cX10_mostGiven 143 = .ok (.iaload, 1) := by decide +kernel
theorem dX10_mostGiven_144 : decode cX10_mostGiven 144 = .ok (.iconst 1, 1) := by decide +kernel
theorem dX10_mostGiven_145 : decode cX10_mostGiven 145 = .ok (.iadd, 1) := by decide +kernel
theorem dX10_mostGiven_146 : decode cX10_mostGiven 146 = .ok (.goto 9, 3) := by decide +kernel
theorem dX10_mostGiven_149 : decode cX10_mostGiven 149 = .ok (.aload_n 0, 1) := by decide +kernel
theorem dX10_mostGiven_150 : decode cX10_mostGiven 150 = .ok (.getfield 69, 3) := by decide +kernel
theorem dX10_mostGiven_153 : decode cX10_mostGiven 153 = .ok (.iload_n 3, 1) := by decide +kernel
theorem dX10_mostGiven_154 : decode cX10_mostGiven 154 = .ok (.iaload, 1) := by decide +kernel
theorem dX10_mostGiven_155 : decode cX10_mostGiven 155 = .ok (.iastore, 1) := by decide +kernel
theorem dX10_mostGiven_156 : decode cX10_mostGiven 156 = .ok (.iinc 4 1, 3) := by decide +kernel
theorem dX10_mostGiven_159 : decode cX10_mostGiven 159 = .ok (.goto (-102), 3) := by decide +kernel
theorem dX10_mostGiven_162 : decode cX10_mostGiven 162 = .ok (.iinc 3 (-1), 3) := by decide +kernel
theorem dX10_mostGiven_165 : decode cX10_mostGiven 165 = .ok (.goto (-115), 3) := by decide +kernel
theorem dX10_mostGiven_168 : decode cX10_mostGiven 168 = .ok (.iinc 1 1, 3) := by decide +kernel
theorem dX10_mostGiven_171 : decode cX10_mostGiven 171 = .ok (.goto (-139), 3) := by decide +kernel
theorem dX10_mostGiven_174 : decode cX10_mostGiven 174 = .ok (.iconst 0, 1) := by decide +kernel
theorem dX10_mostGiven_175 : decode cX10_mostGiven 175 = .ok (.istore_n 1, 1) := by decide +kernel
theorem dX10_mostGiven_176 : decode cX10_mostGiven 176 = .ok (.iconst 0, 1) := by decide +kernel
theorem dX10_mostGiven_177 : decode cX10_mostGiven 177 = .ok (.istore_n 2, 1) := by decide +kernel
theorem dX10_mostGiven_178 : decode cX10_mostGiven 178 = .ok (.iload_n 2, 1) := by decide +kernel
theorem dX10_mostGiven_179 : decode cX10_mostGiven 179 = .ok (.sipush 256, 3) := by decide +kernel
theorem dX10_mostGiven_182 : decode cX10_mostGiven 182 = .ok (.if_icmp .ge 30, 3) := by decide +kernel
theorem dX10_mostGiven_185 : decode cX10_mostGiven 185 = .ok (.aload_n 0, 1) := by decide +kernel
theorem dX10_mostGiven_186 : decode cX10_mostGiven 186 = .ok (.getfield 69, 3) := by decide +kernel
theorem dX10_mostGiven_189 : decode cX10_mostGiven 189 = .ok (.iload_n 2, 1) := by decide +kernel
theorem dX10_mostGiven_190 : decode cX10_mostGiven 190 = .ok (.iaload, 1) := by decide +kernel
theorem dX10_mostGiven_191 : decode cX10_mostGiven 191 = .ok (.iload_n 1, 1) := by decide +kernel
theorem dX10_mostGiven_192 : decode cX10_mostGiven 192 = .ok (.if_icmp .le 12, 3) := by decide +kernel
theorem dX10_mostGiven_195 : decode cX10_mostGiven 195 = .ok (.aload_n 0, 1) := by decide +kernel
theorem dX10_mostGiven_196 : decode cX10_mostGiven 196 = .ok (.getfield 69, 3) := by decide +kernel
theorem dX10_mostGiven_199 : decode cX10_mostGiven 199 = .ok (.iload_n 2, 1) := by decide +kernel
theorem dX10_mostGiven_200 : decode cX10_mostGiven 200 = .ok (.iaload, 1) := by decide +kernel
theorem dX10_mostGiven_201 : decode cX10_mostGiven 201 = .ok (.goto 4, 3) := by decide +kernel
theorem dX10_mostGiven_204 : decode cX10_mostGiven 204 = .ok (.iload_n 1, 1) := by decide +kernel
theorem dX10_mostGiven_205 : decode cX10_mostGiven 205 = .ok (.istore_n 1, 1) := by decide +kernel
theorem dX10_mostGiven_206 : decode cX10_mostGiven 206 = .ok (.iinc 2 1, 3) := by decide +kernel
theorem dX10_mostGiven_209 : decode cX10_mostGiven 209 = .ok (.goto (-31), 3) := by decide +kernel
theorem dX10_mostGiven_212 : decode cX10_mostGiven 212 = .ok (.iload_n 1, 1) := by decide +kernel
theorem dX10_mostGiven_213 : decode cX10_mostGiven 213 = .ok (.ireturn, 1) := by decide +kernel
theorem dX10_tray_0 : decode cX10_tray 0 = .ok (.aload_n 0, 1) := by decide +kernel
theorem dX10_tray_1 : decode cX10_tray 1 = .ok (.iconst 0, 1) := by decide +kernel
theorem dX10_tray_2 : decode cX10_tray 2 = .ok (.putfield 78, 3) := by decide +kernel
theorem dX10_tray_5 : decode cX10_tray 5 = .ok (.iload_n 1, 1) := by decide +kernel
theorem dX10_tray_6 : decode cX10_tray 6 = .ok (.i2l, 1) := by decide +kernel
theorem dX10_tray_7 : decode cX10_tray 7 = .ok (.lconst 0, 1) := by decide +kernel
theorem dX10_tray_8 : decode cX10_tray 8 = .ok (.lconst 1, 1) := by decide +kernel
theorem dX10_tray_9 : decode cX10_tray 9 = .ok (.invokestatic 84, 3) := by decide +kernel
theorem dX10_tray_12 : decode cX10_tray 12 = .ok (.ifCond .ne 10, 3) := by decide +kernel
theorem dX10_tray_15 : decode cX10_tray 15 = .ok (.aload_n 0, 1) := by decide +kernel
theorem dX10_tray_16 : decode cX10_tray 16 = .ok (.bipush (-2), 2) := by decide +kernel
theorem dX10_tray_18 : decode cX10_tray 18 = .ok (.invokevirtual 121, 3) := by decide +kernel
theorem dX10_tray_21 : decode cX10_tray 21 = .ok (.ireturn, 1) := by decide +kernel
theorem dX10_tray_22 : decode cX10_tray 22 = .ok (.iload_n 1, 1) := by decide +kernel
theorem dX10_tray_23 : decode cX10_tray 23 = .ok (.ifCond .ne 10, 3) := by decide +kernel
theorem dX10_tray_26 : decode cX10_tray 26 = .ok (.aload_n 0, 1) := by decide +kernel
theorem dX10_tray_27 : decode cX10_tray 27 = .ok (.getfield 97, 3) := by decide +kernel
theorem dX10_tray_30 : decode cX10_tray 30 = .ok (.goto 7, 3) := by decide +kernel
theorem dX10_tray_33 : decode cX10_tray 33 = .ok (.aload_n 0, 1) := by decide +kernel
theorem dX10_tray_34 : decode cX10_tray 34 = .ok (.invokevirtual 264, 3) := by decide +kernel
theorem dX10_tray_37 : decode cX10_tray 37 = .ok (.ireturn, 1) := by decide +kernel
theorem dX10_onTray_0 : decode cX10_onTray 0 = .ok (.aload_n 0, 1) := by decide +kernel
theorem dX10_onTray_1 : decode cX10_onTray 1 = .ok (.iconst 0, 1) := by decide +kernel
theorem dX10_onTray_2 : decode cX10_onTray 2 = .ok (.putfield 78, 3) := by decide +kernel
theorem dX10_onTray_5 : decode cX10_onTray 5 = .ok (.aload_n 0, 1) := by decide +kernel
theorem dX10_onTray_6 : decode cX10_onTray 6 = .ok (.iload_n 1, 1) := by decide +kernel
theorem dX10_onTray_7 : decode cX10_onTray 7 = .ok (.invokevirtual 160, 3) := by decide +kernel
theorem dX10_onTray_10 : decode cX10_onTray 10 = .ok (.ifCond .eq 11, 3) := by decide +kernel
theorem dX10_onTray_13 : decode cX10_onTray 13 = .ok (.aload_n 0, 1) := by decide +kernel
theorem dX10_onTray_14 : decode cX10_onTray 14 = .ok (.iload_n 1, 1) := by decide +kernel
theorem dX10_onTray_15 : decode cX10_onTray 15 = .ok (.invokevirtual 261, 3) := by decide +kernel
theorem dX10_onTray_18 : decode cX10_onTray 18 = .ok (.goto 8, 3) := by decide +kernel
theorem dX10_onTray_21 : decode cX10_onTray 21 = .ok (.aload_n 0, 1) := by decide +kernel
theorem dX10_onTray_22 : decode cX10_onTray 22 = .ok (.iconst (-1), 1) := by decide +kernel
theorem dX10_onTray_23 : decode cX10_onTray 23 = .ok (.invokevirtual 121, 3) := by decide +kernel
theorem dX10_onTray_26 : decode cX10_onTray 26 = .ok (.ireturn, 1) := by decide +kernel
theorem dX10_strikes_0 : decode cX10_strikes 0 = .ok (.iload_n 2, 1) := by decide +kernel
theorem dX10_strikes_1 : decode cX10_strikes 1 = .ok (.bipush 8, 2) := by decide +kernel
theorem dX10_strikes_3 : decode cX10_strikes 3 = .ok (.if_icmp .ne 12, 3) := by decide +kernel
theorem dX10_strikes_6 : decode cX10_strikes 6 = .ok (.aload_n 0, 1) := by decide +kernel
theorem dX10_strikes_7 : decode cX10_strikes 7 = .ok (.getfield 22, 3) := by decide +kernel
theorem dX10_strikes_10 : decode cX10_strikes 10 = .ok (.iload_n 1, 1) := by decide +kernel
theorem dX10_strikes_11 : decode cX10_strikes 11 = .ok (.iaload, 1) := by decide +kernel
theorem dX10_strikes_12 : decode cX10_strikes 12 = .ok (.goto 15, 3) := by decide +kernel
theorem dX10_strikes_15 : decode cX10_strikes 15 = .ok (.aload_n 0, 1) := by decide +kernel
theorem dX10_strikes_16 : decode cX10_strikes 16 = .ok (.getfield 22, 3) := by decide +kernel
theorem dX10_strikes_19 : decode cX10_strikes 19 = .ok (.iload_n 1, 1) := by decide +kernel
theorem dX10_strikes_20 : decode cX10_strikes 20 = .ok (.iaload, 1) := by decide +kernel
theorem dX10_strikes_21 : decode cX10_strikes 21 = .ok (.iconst 1, 1) := by decide +kernel
theorem dX10_strikes_22 : decode cX10_strikes 22 = .ok (.iload_n 2, 1) := by decide +kernel
theorem dX10_strikes_23 : decode cX10_strikes 23 = .ok (.ishl, 1) := by decide +kernel
theorem dX10_strikes_24 : decode cX10_strikes 24 = .ok (.iconst (-1), 1) := by decide +kernel
theorem dX10_strikes_25 : decode cX10_strikes 25 = .ok (.ixor, 1) := by decide +kernel
theorem dX10_strikes_26 : decode cX10_strikes 26 = .ok (.iand, 1) := by decide +kernel
theorem dX10_strikes_27 : decode cX10_strikes 27 = .ok (.istore_n 3, 1) := by decide +kernel
theorem dX10_strikes_28 : decode cX10_strikes 28 = .ok (.aload_n 0, 1) := by decide +kernel
theorem dX10_strikes_29 : decode cX10_strikes 29 = .ok (.iload_n 3, 1) := by decide +kernel
theorem dX10_strikes_30 : decode cX10_strikes 30 = .ok (.invokevirtual 233, 3) := by decide +kernel
theorem dX10_strikes_33 : decode cX10_strikes 33 = .ok (.istore 4, 2) := by decide +kernel
theorem dX10_strikes_35 : decode cX10_strikes 35 = .ok (.iconst 0, 1) := by decide +kernel
theorem dX10_strikes_36 : decode cX10_strikes 36 = .ok (.istore 5, 2) := by decide +kernel
theorem dX10_strikes_38 : decode cX10_strikes 38 = .ok (.iload 5, 2) := by decide +kernel
theorem dX10_strikes_40 : decode cX10_strikes 40 = .ok (.bipush 8, 2) := by decide +kernel
theorem dX10_strikes_42 : decode cX10_strikes 42 = .ok (.if_icmp .ge 47, 3) := by decide +kernel
theorem dX10_strikes_45 : decode cX10_strikes 45 = .ok (.iload 5, 2) := by decide +kernel
theorem dX10_strikes_47 : decode cX10_strikes 47 = .ok (.iload_n 2, 1) := by decide +kernel
theorem dX10_strikes_48 : decode cX10_strikes 48 = .ok (.if_icmp .ne 7, 3) := by decide +kernel
theorem dX10_strikes_51 : decode cX10_strikes 51 = .ok (.iconst 0, 1) := by decide +kernel
theorem dX10_strikes_52 : decode cX10_strikes 52 = .ok (.goto 13, 3) := by decide +kernel
theorem dX10_strikes_55 : decode cX10_strikes 55 = .ok (.aload_n 0, 1) := by decide +kernel
theorem dX10_strikes_56 : decode cX10_strikes 56 = .ok (.iload_n 3, 1) := by decide +kernel
theorem dX10_strikes_57 : decode cX10_strikes 57 = .ok (.iconst 1, 1) := by decide +kernel
theorem dX10_strikes_58 : decode cX10_strikes 58 = .ok (.iload 5, 2) := by decide +kernel
theorem dX10_strikes_60 : decode cX10_strikes 60 = .ok (.ishl, 1) := by decide +kernel
theorem dX10_strikes_61 : decode cX10_strikes 61 = .ok (.ior, 1) := by decide +kernel
theorem dX10_strikes_62 : decode cX10_strikes 62 = .ok (.invokevirtual 233, 3) := by decide +kernel
theorem dX10_strikes_65 : decode cX10_strikes 65 = .ok (.istore 6, 2) := by decide +kernel
theorem dX10_strikes_67 : decode cX10_strikes 67 = .ok (.iload 6, 2) := by decide +kernel
theorem dX10_strikes_69 : decode cX10_strikes 69 = .ok (.iload 4, 2) := by decide +kernel
theorem dX10_strikes_71 : decode cX10_strikes 71 = .ok (.if_icmp .le 8, 3) := by decide +kernel
theorem dX10_strikes_74 : decode cX10_strikes 74 = .ok (.iload 6, 2) := by decide +kernel
theorem dX10_strikes_76 : decode cX10_strikes 76 = .ok (.goto 5, 3) := by decide +kernel
theorem dX10_strikes_79 : decode cX10_strikes 79 = .ok (.iload 4, 2) := by decide +kernel
theorem dX10_strikes_81 : decode cX10_strikes 81 = .ok (.istore 4, 2) := by decide +kernel
theorem dX10_strikes_83 : decode cX10_strikes 83 = .ok (.iinc 5 1, 3) := by decide +kernel
theorem dX10_strikes_86 : decode cX10_strikes 86 = .ok (.goto (-48), 3) := by decide +kernel
theorem dX10_strikes_89 : decode cX10_strikes 89 = .ok (.iload 4, 2) := by decide +kernel
theorem dX10_strikes_91 : decode cX10_strikes 91 = .ok (.ireturn, 1) := by decide +kernel
theorem dX10_guard_0 : decode cX10_guard 0 = .ok (.aload_n 0, 1) := by decide +kernel
theorem dX10_guard_1 : decode cX10_guard 1 = .ok (.iconst 0, 1) := by decide +kernel
theorem dX10_guard_2 : decode cX10_guard 2 = .ok (.putfield 78, 3) := by decide +kernel
theorem dX10_guard_5 : decode cX10_guard 5 = .ok (.aload_n 0, 1) := by decide +kernel
theorem dX10_guard_6 : decode cX10_guard 6 = .ok (.iload_n 1, 1) := by decide +kernel
theorem dX10_guard_7 : decode cX10_guard 7 = .ok (.invokevirtual 160, 3) := by decide +kernel
theorem dX10_guard_10 : decode cX10_guard 10 = .ok (.ifCond .eq 12, 3) := by decide +kernel
theorem dX10_guard_13 : decode cX10_guard 13 = .ok (.iconst 0, 1) := by decide +kernel
theorem dX10_guard_14 : decode cX10_guard 14 = .ok (.iload_n 2, 1) := by decide +kernel
theorem dX10_guard_15 : decode cX10_guard 15 = .ok (.iconst 1, 1) := by decide +kernel
theorem dX10_guard_16 : decode cX10_guard 16 = .ok (.invokestatic 225, 3) := by decide +kernel
theorem dX10_guard_19 : decode cX10_guard 19 = .ok (.goto 4, 3) := by decide +kernel
theorem dX10_guard_22 : decode cX10_guard 22 = .ok (.iconst (-1), 1) := by decide +kernel
theorem dX10_guard_23 : decode cX10_guard 23 = .ok (.istore_n 3, 1) := by decide +kernel
theorem dX10_guard_24 : decode cX10_guard 24 = .ok (.iload_n 3, 1) := by decide +kernel
theorem dX10_guard_25 : decode cX10_guard 25 = .ok (.ifCond .ge 9, 3) := by decide +kernel
theorem dX10_guard_28 : decode cX10_guard 28 = .ok (.aload_n 0, 1) := by decide +kernel
theorem dX10_guard_29 : decode cX10_guard 29 = .ok (.iload_n 3, 1) := by decide +kernel
theorem dX10_guard_30 : decode cX10_guard 30 = .ok (.invokevirtual 121, 3) := by decide +kernel
theorem dX10_guard_33 : decode cX10_guard 33 = .ok (.ireturn, 1) := by decide +kernel
theorem dX10_guard_34 : decode cX10_guard 34 = .ok (.bipush (-9), 2) := by decide +kernel
theorem dX10_guard_36 : decode cX10_guard 36 = .ok (.istore 4, 2) := by decide +kernel
theorem dX10_guard_38 : decode cX10_guard 38 = .ok (.bipush 99, 2) := by decide +kernel
theorem dX10_guard_40 : decode cX10_guard 40 = .ok (.istore 5, 2) := by decide +kernel
theorem dX10_guard_42 : decode cX10_guard 42 = .ok (.iconst 0, 1) := by decide +kernel
theorem dX10_guard_43 : decode cX10_guard 43 = .ok (.istore 6, 2) := by decide +kernel
theorem dX10_guard_45 : decode cX10_guard 45 = .ok (.iload 6, 2) := by decide +kernel
theorem dX10_guard_47 : decode cX10_guard 47 = .ok (.bipush 8, 2) := by decide +kernel
theorem dX10_guard_49 : decode cX10_guard 49 = .ok (.if_icmp .gt 71, 3) := by decide +kernel
theorem dX10_guard_52 : decode cX10_guard 52 = .ok (.iload 6, 2) := by decide +kernel
theorem dX10_guard_54 : decode cX10_guard 54 = .ok (.bipush 8, 2) := by decide +kernel
theorem dX10_guard_56 : decode cX10_guard 56 = .ok (.if_icmp .eq 17, 3) := by decide +kernel
theorem dX10_guard_59 : decode cX10_guard 59 = .ok (.aload_n 0, 1) := by decide +kernel
theorem dX10_guard_60 : decode cX10_guard 60 = .ok (.getfield 22, 3) := by decide +kernel
theorem dX10_guard_63 : decode cX10_guard 63 = .ok (.iload_n 1, 1) := by decide +kernel
theorem dX10_guard_64 : decode cX10_guard 64 = .ok (.iaload, 1) := by decide +kernel
theorem dX10_guard_65 : decode cX10_guard 65 = .ok (.iload 6, 2) := by decide +kernel
theorem dX10_guard_67 : decode cX10_guard 67 = .ok (.invokestatic 93, 3) := by decide +kernel
theorem dX10_guard_70 : decode cX10_guard 70 = .ok (.ifCond .eq 44, 3) := by decide +kernel
theorem dX10_guard_73 : decode cX10_guard 73 = .ok (.aload_n 0, 1) := by decide +kernel
theorem dX10_guard_74 : decode cX10_guard 74 = .ok (.iload_n 1, 1) := by decide +kernel
theorem dX10_guard_75 : decode cX10_guard 75 = .ok (.iload 6, 2) := by decide +kernel
theorem dX10_guard_77 : decode cX10_guard 77 = .ok (.invokevirtual 267, 3) := by decide +kernel
theorem dX10_guard_80 : decode cX10_guard 80 = .ok (.istore 7, 2) := by decide +kernel
theorem dX10_guard_82 : decode cX10_guard 82 = .ok (.iload 7, 2) := by decide +kernel
theorem dX10_guard_84 : decode cX10_guard 84 = .ok (.iload 5, 2) := by decide +kernel
theorem dX10_guard_86 : decode cX10_guard 86 = .ok (.if_icmp .ge 8, 3) := by decide +kernel
theorem dX10_guard_89 : decode cX10_guard 89 = .ok (.iload 6, 2) := by decide +kernel
theorem dX10_guard_91 : decode cX10_guard 91 = .ok (.goto 5, 3) := by decide +kernel
theorem dX10_guard_94 : decode cX10_guard 94 = .ok (.iload 4, 2) := by decide +kernel
theorem dX10_guard_96 : decode cX10_guard 96 = .ok (.istore 4, 2) := by decide +kernel
theorem dX10_guard_98 : decode cX10_guard 98 = .ok (.iload 7, 2) := by decide +kernel
theorem dX10_guard_100 : decode cX10_guard 100 = .ok (.iload 5, 2) := by decide +kernel
theorem dX10_guard_102 : decode cX10_guard 102 = .ok (.if_icmp .ge 8, 3) := by decide +kernel
theorem dX10_guard_105 : decode cX10_guard 105 = .ok (.iload 7, 2) := by decide +kernel
theorem dX10_guard_107 : decode cX10_guard 107 = .ok (.goto 5, 3) := by decide +kernel
theorem dX10_guard_110 : decode cX10_guard 110 = .ok (.iload 5, 2) := by decide +kernel
theorem dX10_guard_112 : decode cX10_guard 112 = .ok (.istore 5, 2) := by decide +kernel
theorem dX10_guard_114 : decode cX10_guard 114 = .ok (.iinc 6 1, 3) := by decide +kernel
theorem dX10_guard_117 : decode cX10_guard 117 = .ok (.goto (-72), 3) := by decide +kernel
theorem dX10_guard_120 : decode cX10_guard 120 = .ok (.iload_n 2, 1) := by decide +kernel
theorem dX10_guard_121 : decode cX10_guard 121 = .ok (.ifCond .ne 8, 3) := by decide +kernel
theorem dX10_guard_124 : decode cX10_guard 124 = .ok (.iload 5, 2) := by decide +kernel
theorem dX10_guard_126 : decode cX10_guard 126 = .ok (.goto 5, 3) := by decide +kernel
theorem dX10_guard_129 : decode cX10_guard 129 = .ok (.iload 4, 2) := by decide +kernel
theorem dX10_guard_131 : decode cX10_guard 131 = .ok (.ireturn, 1) := by decide +kernel
theorem dX10_rounds_0 : decode cX10_rounds 0 = .ok (.aload_n 0, 1) := by decide +kernel
theorem dX10_rounds_1 : decode cX10_rounds 1 = .ok (.iconst 0, 1) := by decide +kernel
theorem dX10_rounds_2 : decode cX10_rounds 2 = .ok (.putfield 78, 3) := by decide +kernel
theorem dX10_rounds_5 : decode cX10_rounds 5 = .ok (.bipush (-9), 2) := by decide +kernel
theorem dX10_rounds_7 : decode cX10_rounds 7 = .ok (.istore_n 1, 1) := by decide +kernel
theorem dX10_rounds_8 : decode cX10_rounds 8 = .ok (.aload_n 0, 1) := by decide +kernel
theorem dX10_rounds_9 : decode cX10_rounds 9 = .ok (.invokevirtual 175, 3) := by decide +kernel
theorem dX10_rounds_12 : decode cX10_rounds 12 = .ok (.iconst 0, 1) := by decide +kernel
theorem dX10_rounds_13 : decode cX10_rounds 13 = .ok (.istore_n 2, 1) := by decide +kernel
theorem dX10_rounds_14 : decode cX10_rounds 14 = .ok (.iload_n 2, 1) := by decide +kernel
theorem dX10_rounds_15 : decode cX10_rounds 15 = .ok (.bipush 60, 2) := by decide +kernel
theorem dX10_rounds_17 : decode cX10_rounds 17 = .ok (.if_icmp .gt 135, 3) := by decide +kernel
theorem dX10_rounds_20 : decode cX10_rounds 20 = .ok (.iload_n 1, 1) := by decide +kernel
theorem dX10_rounds_21 : decode cX10_rounds 21 = .ok (.ifCond .ge 131, 3) := by decide +kernel
theorem dX10_rounds_24 : decode cX10_rounds 24 = .ok (.iconst 0, 1) := by decide +kernel
theorem dX10_rounds_25 : decode cX10_rounds 25 = .ok (.istore_n 3, 1) := by decide +kernel
theorem dX10_rounds_26 : decode cX10_rounds 26 = .ok (.iload_n 3, 1) := by decide +kernel
theorem dX10_rounds_27 : decode cX10_rounds 27 = .ok (.iload_n 2, 1) := by decide +kernel
theorem dX10_rounds_28 : decode cX10_rounds 28 = .ok (.if_icmp .ge 80, 3) := by decide +kernel
theorem dX10_rounds_31 : decode cX10_rounds 31 = .ok (.iload_n 1, 1) := by decide +kernel
theorem dX10_rounds_32 : decode cX10_rounds 32 = .ok (.ifCond .ge 76, 3) := by decide +kernel
theorem dX10_rounds_35 : decode cX10_rounds 35 = .ok (.iconst 1, 1) := by decide +kernel
theorem dX10_rounds_36 : decode cX10_rounds 36 = .ok (.istore 4, 2) := by decide +kernel
theorem dX10_rounds_38 : decode cX10_rounds 38 = .ok (.iconst 0, 1) := by decide +kernel
theorem dX10_rounds_39 : decode cX10_rounds 39 = .ok (.istore 5, 2) := by decide +kernel
theorem dX10_rounds_41 : decode cX10_rounds 41 = .ok (.iload 5, 2) := by decide +kernel
theorem dX10_rounds_43 : decode cX10_rounds 43 = .ok (.aload_n 0, 1) := by decide +kernel
theorem dX10_rounds_44 : decode cX10_rounds 44 = .ok (.getfield 81, 3) := by decide +kernel
theorem dX10_rounds_47 : decode cX10_rounds 47 = .ok (.if_icmp .ge 43, 3) := by decide +kernel
theorem dX10_rounds_50 : decode cX10_rounds 50 = .ok (.iload 4, 2) := by decide +kernel
theorem dX10_rounds_52 : decode cX10_rounds 52 = .ok (.ifCond .eq 29, 3) := by decide +kernel
theorem dX10_rounds_55 : decode cX10_rounds 55 = .ok (.aload_n 0, 1) := by decide +kernel
theorem dX10_rounds_56 : decode cX10_rounds 56 = .ok (.getfield 72, 3) := by decide +kernel
theorem dX10_rounds_59 : decode cX10_rounds 59 = .ok (.bipush 6, 2) := by decide +kernel
theorem dX10_rounds_61 : decode cX10_rounds 61 = .ok (.iload_n 3, 1) := by decide +kernel
theorem dX10_rounds_62 : decode cX10_rounds 62 = .ok (.imul, 1) := by decide +kernel
theorem dX10_rounds_63 : decode cX10_rounds 63 = .ok (.iload 5, 2) := by decide +kernel
theorem dX10_rounds_65 : decode cX10_rounds 65 = .ok (.iadd, 1) := by decide +kernel
theorem dX10_rounds_66 : decode cX10_rounds 66 = .ok (.iaload, 1) := by decide +kernel
theorem dX10_rounds_67 : decode cX10_rounds 67 = .ok (.aload_n 0, 1) := by decide +kernel
theorem dX10_rounds_68 : decode cX10_rounds 68 = .ok (.getfield 22, 3) := by decide +kernel
theorem dX10_rounds_71 : decode cX10_rounds 71 = .ok (.iload 5, 2) := by decide +kernel
theorem dX10_rounds_73 : decode cX10_rounds 73 = .ok (.iaload, 1) := by decide +kernel
theorem dX10_rounds_74 : decode cX10_rounds 74 = .ok (.if_icmp .ne 7, 3) := by decide +kernel
theorem dX10_rounds_77 : decode cX10_rounds 77 = .ok (.iconst 1, 1) := by decide +kernel
theorem dX10_rounds_78 : decode cX10_rounds 78 = .ok (.goto 4, 3) := by decide +kernel
theorem dX10_rounds_81 : decode cX10_rounds 81 = .ok (.iconst 0, 1) := by decide +kernel
theorem dX10_rounds_82 : decode cX10_rounds 82 = .ok (.istore 4, 2) := by decide +kernel
theorem dX10_rounds_84 : decode cX10_rounds 84 = .ok (.iinc 5 1, 3) := by decide +kernel
theorem dX10_rounds_87 : decode cX10_rounds 87 = .ok (.goto (-46), 3) := by decide +kernel
theorem dX10_rounds_90 : decode cX10_rounds 90 = .ok (.iload 4, 2) := by decide +kernel
theorem dX10_rounds_92 : decode cX10_rounds 92 = .ok (.ifCond .eq 7, 3) := by decide +kernel
theorem dX10_rounds_95 : decode cX10_rounds 95 = .ok (.iload_n 2, 1) := by decide +kernel
theorem dX10_rounds_96 : decode cX10_rounds 96 = .ok (.goto 5, 3) := by decide +kernel
theorem dX10_rounds_99 : decode cX10_rounds 99 = .ok (.bipush (-9), 2) := by decide +kernel
theorem dX10_rounds_101 : decode cX10_rounds 101 = .ok (.istore_n 1, 1) := by decide +kernel
theorem dX10_rounds_102 : decode cX10_rounds 102 = .ok (.iinc 3 1, 3) := by decide +kernel
theorem dX10_rounds_105 : decode cX10_rounds 105 = .ok (.goto (-79), 3) := by decide +kernel
theorem dX10_rounds_108 : decode cX10_rounds 108 = .ok (.iconst 0, 1) := by decide +kernel
theorem dX10_rounds_109 : decode cX10_rounds 109 = .ok (.istore_n 3, 1) := by decide +kernel
theorem dX10_rounds_110 : decode cX10_rounds 110 = .ok (.iload_n 3, 1) := by decide +kernel
theorem dX10_rounds_111 : decode cX10_rounds 111 = .ok (.aload_n 0, 1) := by decide +kernel
theorem dX10_rounds_112 : decode cX10_rounds 112 = .ok (.getfield 81, 3) := by decide +kernel
theorem dX10_rounds_115 : decode cX10_rounds 115 = .ok (.if_icmp .ge 26, 3) := by decide +kernel
theorem dX10_rounds_118 : decode cX10_rounds 118 = .ok (.aload_n 0, 1) := by decide +kernel
theorem dX10_rounds_119 : decode cX10_rounds 119 = .ok (.getfield 72, 3) := by decide +kernel
theorem dX10_rounds_122 : decode cX10_rounds 122 = .ok (.bipush 6, 2) := by decide +kernel
theorem dX10_rounds_124 : decode cX10_rounds 124 = .ok (.iload_n 2, 1) := by decide +kernel
theorem dX10_rounds_125 : decode cX10_rounds 125 = .ok (.imul, 1) := by decide +kernel
theorem dX10_rounds_126 : decode cX10_rounds 126 = .ok (.iload_n 3, 1) := by decide +kernel
theorem dX10_rounds_127 : decode cX10_rounds 127 = .ok (.iadd, 1) := by decide +kernel
theorem dX10_rounds_128 : decode cX10_rounds 128 = .ok (.aload_n 0, 1) := by decide +kernel
theorem dX10_rounds_129 : decode cX10_rounds 129 = .ok (.getfield 22, 3) := by decide +kernel
theorem dX10_rounds_132 : decode cX10_rounds 132 = .ok (.iload_n 3, 1) := by decide +kernel
theorem dX10_rounds_133 : decode cX10_rounds 133 = .ok (.iaload, 1) := by decide +kernel
theorem dX10_rounds_134 : decode cX10_rounds 134 = .ok (.iastore, 1) := by decide +kernel
theorem dX10_rounds_135 : decode cX10_rounds 135 = .ok (.iinc 3 1, 3) := by decide +kernel
theorem dX10_rounds_138 : decode cX10_rounds 138 = .ok (.goto (-28), 3) := by decide +kernel
theorem dX10_rounds_141 : decode cX10_rounds 141 = .ok (.aload_n 0, 1) := by decide +kernel
theorem dX10_rounds_142 : decode cX10_rounds 142 = .ok (.invokevirtual 169, 3) := by decide +kernel
theorem dX10_rounds_145 : decode cX10_rounds 145 = .ok (.pop, 1) := by decide +kernel
theorem dX10_rounds_146 : decode cX10_rounds 146 = .ok (.iinc 2 1, 3) := by decide +kernel
theorem dX10_rounds_149 : decode cX10_rounds 149 = .ok (.goto (-135), 3) := by decide +kernel
theorem dX10_rounds_152 : decode cX10_rounds 152 = .ok (.aload_n 0, 1) := by decide +kernel
theorem dX10_rounds_153 : decode cX10_rounds 153 = .ok (.invokevirtual 181, 3) := by decide +kernel
theorem dX10_rounds_156 : decode cX10_rounds 156 = .ok (.iload_n 1, 1) := by decide +kernel
theorem dX10_rounds_157 : decode cX10_rounds 157 = .ok (.ireturn, 1) := by decide +kernel
theorem dX10_chance_0 : decode cX10_chance 0 = .ok (.aload_n 0, 1) := by decide +kernel
theorem dX10_chance_1 : decode cX10_chance 1 = .ok (.iconst 0, 1) := by decide +kernel
theorem dX10_chance_2 : decode cX10_chance 2 = .ok (.putfield 78, 3) := by decide +kernel
theorem dX10_chance_5 : decode cX10_chance 5 = .ok (.aload_n 0, 1) := by decide +kernel
theorem dX10_chance_6 : decode cX10_chance 6 = .ok (.iload_n 1, 1) := by decide +kernel
theorem dX10_chance_7 : decode cX10_chance 7 = .ok (.invokevirtual 160, 3) := by decide +kernel
theorem dX10_chance_10 : decode cX10_chance 10 = .ok (.ifCond .eq 21, 3) := by decide +kernel
theorem dX10_chance_13 : decode cX10_chance 13 = .ok (.aload_n 0, 1) := by decide +kernel
theorem dX10_chance_14 : decode cX10_chance 14 = .ok (.iload_n 2, 1) := by decide +kernel
theorem dX10_chance_15 : decode cX10_chance 15 = .ok (.invokevirtual 206, 3) := by decide +kernel
theorem dX10_chance_18 : decode cX10_chance 18 = .ok (.ifCond .eq 13, 3) := by decide +kernel
theorem dX10_chance_21 : decode cX10_chance 21 = .ok (.iload_n 3, 1) := by decide +kernel
theorem dX10_chance_22 : decode cX10_chance 22 = .ok (.iconst 2, 1) := by decide +kernel
theorem dX10_chance_23 : decode cX10_chance 23 = .ok (.bipush 20, 2) := by decide +kernel
theorem dX10_chance_25 : decode cX10_chance 25 = .ok (.invokestatic 213, 3) := by decide +kernel
theorem dX10_chance_28 : decode cX10_chance 28 = .ok (.goto 4, 3) := by decide +kernel
theorem dX10_chance_31 : decode cX10_chance 31 = .ok (.iconst (-1), 1) := by decide +kernel
theorem dX10_chance_32 : decode cX10_chance 32 = .ok (.iload 4, 2) := by decide +kernel
theorem dX10_chance_34 : decode cX10_chance 34 = .ok (.iconst 1, 1) := by decide +kernel
theorem dX10_chance_35 : decode cX10_chance 35 = .ok (.invokestatic 225, 3) := by decide +kernel
theorem dX10_chance_38 : decode cX10_chance 38 = .ok (.istore 5, 2) := by decide +kernel
theorem dX10_chance_40 : decode cX10_chance 40 = .ok (.iload 5, 2) := by decide +kernel
theorem dX10_chance_42 : decode cX10_chance 42 = .ok (.ifCond .ge 15, 3) := by decide +kernel
theorem dX10_chance_45 : decode cX10_chance 45 = .ok (.ldc2_w 252, 3) := by decide +kernel
theorem dX10_chance_48 : decode cX10_chance 48 = .ok (.aload_n 0, 1) := by decide +kernel
theorem dX10_chance_49 : decode cX10_chance 49 = .ok (.iload 5, 2) := by decide +kernel
theorem dX10_chance_51 : decode cX10_chance 51 = .ok (.invokevirtual 121, 3) := by decide +kernel
theorem dX10_chance_54 : decode cX10_chance 54 = .ok (.i2l, 1) := by decide +kernel
theorem dX10_chance_55 : decode cX10_chance 55 = .ok (.lsub, 1) := by decide +kernel
theorem dX10_chance_56 : decode cX10_chance 56 = .ok (.lreturn, 1) := by decide +kernel
theorem dX10_chance_57 : decode cX10_chance 57 = .ok (.lconst 0, 1) := by decide +kernel
theorem dX10_chance_58 : decode cX10_chance 58 = .ok (.lstore 6, 2) := by decide +kernel
theorem dX10_chance_60 : decode cX10_chance 60 = .ok (.lconst 1, 1) := by decide +kernel
theorem dX10_chance_61 : decode cX10_chance 61 = .ok (.lstore 8, 2) := by decide +kernel
theorem dX10_chance_63 : decode cX10_chance 63 = .ok (.iconst 0, 1) := by decide +kernel
theorem dX10_chance_64 : decode cX10_chance 64 = .ok (.istore 10, 2) := by decide +kernel
theorem dX10_chance_66 : decode cX10_chance 66 = .ok (.iload 10, 2) := by decide +kernel
theorem dX10_chance_68 : decode cX10_chance 68 = .ok (.aload_n 0, 1) := by decide +kernel
theorem dX10_chance_69 : decode cX10_chance 69 = .ok (.getfield 22, 3) := by decide +kernel
theorem dX10_chance_72 : decode cX10_chance 72 = .ok (.iload_n 1, 1) := by decide +kernel
theorem dX10_chance_73 : decode cX10_chance 73 = .ok (.iaload, 1) := by decide +kernel
theorem dX10_chance_74 : decode cX10_chance 74 = .ok (.invokestatic 112, 3) := by decide +kernel
theorem dX10_chance_77 : decode cX10_chance 77 = .ok (.if_icmp .ge 16, 3) := by decide +kernel
theorem dX10_chance_80 : decode cX10_chance 80 = .ok (.lload 8, 2) := by decide +kernel
theorem dX10_chance_82 : decode cX10_chance 82 = .ok (.iload_n 3, 1) := by decide +kernel
theorem dX10_chance_83 : decode cX10_chance 83 = .ok (.i2l, 1) := by decide +kernel
theorem dX10_chance_84 : decode cX10_chance 84 = .ok (.lmul, 1) := by decide +kernel
theorem dX10_chance_85 : decode cX10_chance 85 = .ok (.lstore 8, 2) := by decide +kernel
theorem dX10_chance_87 : decode cX10_chance 87 = .ok (.iinc 10 1, 3) := by decide +kernel
theorem dX10_chance_90 : decode cX10_chance 90 = .ok (.goto (-24), 3) := by decide +kernel
theorem dX10_chance_93 : decode cX10_chance 93 = .ok (.iconst 0, 1) := by decide +kernel
theorem dX10_chance_94 : decode cX10_chance 94 = .ok (.istore 10, 2) := by decide +kernel
theorem dX10_chance_96 : decode cX10_chance 96 = .ok (.iload 10, 2) := by decide +kernel
theorem dX10_chance_98 : decode cX10_chance 98 = .ok (.sipush 256, 3) := by decide +kernel
theorem dX10_chance_101 : decode cX10_chance 101 = .ok (.if_icmp .ge 107, 3) := by decide +kernel
theorem dX10_chance_104 : decode cX10_chance 104 = .ok (.iload 10, 2) := by decide +kernel
theorem dX10_chance_106 : decode cX10_chance 106 = .ok (.aload_n 0, 1) := by decide +kernel
theorem dX10_chance_107 : decode cX10_chance 107 = .ok (.getfield 22, 3) := by decide +kernel
theorem dX10_chance_110 : decode cX10_chance 110 = .ok (.iload_n 1, 1) := by decide +kernel
theorem dX10_chance_111 : decode cX10_chance 111 = .ok (.iaload, 1) := by decide +kernel
theorem dX10_chance_112 : decode cX10_chance 112 = .ok (.iconst (-1), 1) := by decide +kernel
theorem dX10_chance_113 : decode cX10_chance 113 = .ok (.ixor, 1) := by decide +kernel
theorem dX10_chance_114 : decode cX10_chance 114 = .ok (.iand, 1) := by decide +kernel
theorem dX10_chance_115 : decode cX10_chance 115 = .ok (.ifCond .ne 87, 3) := by decide +kernel
theorem dX10_chance_118 : decode cX10_chance 118 = .ok (.lconst 1, 1) := by decide +kernel
theorem dX10_chance_119 : decode cX10_chance 119 = .ok (.lstore 11, 2) := by decide +kernel
theorem dX10_chance_121 : decode cX10_chance 121 = .ok (.iconst 0, 1) := by decide +kernel
theorem dX10_chance_122 : decode cX10_chance 122 = .ok (.istore 13, 2) := by decide +kernel
theorem dX10_chance_124 : decode cX10_chance 124 = .ok (.iload 13, 2) := by decide +kernel
theorem dX10_chance_126 : decode cX10_chance 126 = .ok (.bipush 8, 2) := by decide +kernel
theorem dX10_chance_128 : decode cX10_chance 128 = .ok (.if_icmp .ge 41, 3) := by decide +kernel
theorem dX10_chance_131 : decode cX10_chance 131 = .ok (.lload 11, 2) := by decide +kernel
theorem dX10_chance_133 : decode cX10_chance 133 = .ok (.aload_n 0, 1) := by decide +kernel
theorem dX10_chance_134 : decode cX10_chance 134 = .ok (.getfield 22, 3) := by decide +kernel
theorem dX10_chance_137 : decode cX10_chance 137 = .ok (.iload_n 1, 1) := by decide +kernel
theorem dX10_chance_138 : decode cX10_chance 138 = .ok (.iaload, 1) := by decide +kernel
theorem dX10_chance_139 : decode cX10_chance 139 = .ok (.iload 10, 2) := by decide +kernel
theorem dX10_chance_141 : decode cX10_chance 141 = .ok (.iconst (-1), 1) := by decide +kernel
theorem dX10_chance_142 : decode cX10_chance 142 = .ok (.ixor, 1) := by decide +kernel
theorem dX10_chance_143 : decode cX10_chance 143 = .ok (.iand, 1) := by decide +kernel
theorem dX10_chance_144 : decode cX10_chance 144 = .ok (.iload 13, 2) := by decide +kernel
theorem dX10_chance_146 : decode cX10_chance 146 = .ok (.invokestatic 93, 3) := by decide +kernel
theorem dX10_chance_149 : decode cX10_chance 149 = .ok (.ifCond .eq 10, 3) := by decide +kernel
theorem dX10_chance_152 : decode cX10_chance 152 = .ok (.iload_n 3, 1) := by decide +kernel
theorem dX10_chance_153 : decode cX10_chance 153 = .ok (.iconst 1, 1) := by decide +kernel
theorem dX10_chance_154 : decode cX10_chance 154 = .ok (.isub, 1) := by decide +kernel
theorem dX10_chance_155 : decode cX10_chance 155 = .ok (.i2l, 1) := by decide +kernel
theorem dX10_chance_156 : decode cX10_chance 156 = .ok (.goto 4, 3) := by decide +kernel
theorem dX10_chance_159 : decode cX10_chance 159 = .ok (.lconst 1, 1) := by decide +kernel
theorem dX10_chance_160 : decode cX10_chance 160 = .ok (.lmul, 1) := by decide +kernel
theorem dX10_chance_161 : decode cX10_chance 161 = .ok (.lstore 11, 2) := by decide +kernel
theorem dX10_chance_163 : decode cX10_chance 163 = .ok (.iinc 13 1, 3) := by decide +kernel
theorem dX10_chance_166 : decode cX10_chance 166 = .ok (.goto (-42), 3) := by decide +kernel
theorem dX10_chance_169 : decode cX10_chance 169 = .ok (.lload 6, 2) := by decide +kernel
theorem dX10_chance_171 : decode cX10_chance 171 = .ok (.aload_n 0, 1) := by decide +kernel
theorem dX10_chance_172 : decode cX10_chance 172 = .ok (.aload_n 0, 1) := by decide +kernel
theorem dX10_chance_173 : decode cX10_chance 173 = .ok (.getfield 22, 3) := by decide +kernel
theorem dX10_chance_176 : decode cX10_chance 176 = .ok (.iload_n 1, 1) := by decide +kernel
theorem dX10_chance_177 : decode cX10_chance 177 = .ok (.iaload, 1) := by decide +kernel
theorem dX10_chance_178 : decode cX10_chance 178 = .ok (.iload 10, 2) := by decide +kernel
theorem dX10_chance_180 : decode cX10_chance 180 = .ok (.iconst (-1), 1) := by decide +kernel
theorem dX10_chance_181 : decode cX10_chance 181 = .ok (.ixor, 1) := by decide +kernel
theorem dX10_chance_182 : decode cX10_chance 182 = .ok (.iand, 1) := by decide +kernel
theorem dX10_chance_183 : decode cX10_chance 183 = .ok (.invokevirtual 108, 3) := by decide +kernel
theorem dX10_chance_186 : decode cX10_chance 186 = .ok (.iload_n 2, 1) := by decide +kernel
theorem dX10_chance_187 : decode cX10_chance 187 = .ok (.invokestatic 93, 3) := by decide +kernel
theorem dX10_chance_190 : decode cX10_chance 190 = .ok (.ifCond .eq 8, 3) := by decide +kernel
theorem dX10_chance_193 : decode cX10_chance 193 = .ok (.lload 11, 2) := by decide +kernel
theorem dX10_chance_195 : decode cX10_chance 195 = .ok (.goto 4, 3) := by decide +kernel
theorem dX10_chance_198 : decode cX10_chance 198 = .ok (.lconst 0, 1) := by decide +kernel
theorem dX10_chance_199 : decode cX10_chance 199 = .ok (.ladd, 1) := by decide +kernel
theorem dX10_chance_200 : decode cX10_chance 200 = .ok (.lstore 6, 2) := by decide +kernel
theorem dX10_chance_202 : decode cX10_chance 202 = .ok (.iinc 10 1, 3) := by decide +kernel
theorem dX10_chance_205 : decode cX10_chance 205 = .ok (.goto (-109), 3) := by decide +kernel
theorem dX10_chance_208 : decode cX10_chance 208 = .ok (.lload 6, 2) := by decide +kernel
theorem dX10_chance_210 : decode cX10_chance 210 = .ok (.lload 8, 2) := by decide +kernel
theorem dX10_chance_212 : decode cX10_chance 212 = .ok (.iload 4, 2) := by decide +kernel
theorem dX10_chance_214 : decode cX10_chance 214 = .ok (.invokestatic 257, 3) := by decide +kernel
theorem dX10_chance_217 : decode cX10_chance 217 = .ok (.lreturn, 1) := by decide +kernel
theorem dX10_idle_0 : decode cX10_idle 0 = .ok (.aload_n 0, 1) := by decide +kernel
theorem dX10_idle_1 : decode cX10_idle 1 = .ok (.iconst 0, 1) := by decide +kernel
theorem dX10_idle_2 : decode cX10_idle 2 = .ok (.putfield 78, 3) := by decide +kernel
theorem dX10_idle_5 : decode cX10_idle 5 = .ok (.aload_n 0, 1) := by decide +kernel
theorem dX10_idle_6 : decode cX10_idle 6 = .ok (.iload_n 1, 1) := by decide +kernel
theorem dX10_idle_7 : decode cX10_idle 7 = .ok (.invokevirtual 160, 3) := by decide +kernel
theorem dX10_idle_10 : decode cX10_idle 10 = .ok (.ifCond .eq 12, 3) := by decide +kernel
theorem dX10_idle_13 : decode cX10_idle 13 = .ok (.iconst 0, 1) := by decide +kernel
theorem dX10_idle_14 : decode cX10_idle 14 = .ok (.iload_n 2, 1) := by decide +kernel
theorem dX10_idle_15 : decode cX10_idle 15 = .ok (.iconst 1, 1) := by decide +kernel
theorem dX10_idle_16 : decode cX10_idle 16 = .ok (.invokestatic 225, 3) := by decide +kernel
theorem dX10_idle_19 : decode cX10_idle 19 = .ok (.goto 4, 3) := by decide +kernel
theorem dX10_idle_22 : decode cX10_idle 22 = .ok (.iconst (-1), 1) := by decide +kernel
theorem dX10_idle_23 : decode cX10_idle 23 = .ok (.istore_n 3, 1) := by decide +kernel
theorem dX10_idle_24 : decode cX10_idle 24 = .ok (.iload_n 3, 1) := by decide +kernel
theorem dX10_idle_25 : decode cX10_idle 25 = .ok (.ifCond .ge 9, 3) := by decide +kernel
theorem dX10_idle_28 : decode cX10_idle 28 = .ok (.aload_n 0, 1) := by decide +kernel
theorem dX10_idle_29 : decode cX10_idle 29 = .ok (.iload_n 3, 1) := by decide +kernel
theorem dX10_idle_30 : decode cX10_idle 30 = .ok (.invokevirtual 121, 3) := by decide +kernel
theorem dX10_idle_33 : decode cX10_idle 33 = .ok (.ireturn, 1) := by decide +kernel
theorem dX10_idle_34 : decode cX10_idle 34 = .ok (.aload_n 0, 1) := by decide +kernel
theorem dX10_idle_35 : decode cX10_idle 35 = .ok (.iload_n 1, 1) := by decide +kernel
theorem dX10_idle_36 : decode cX10_idle 36 = .ok (.invokevirtual 115, 3) := by decide +kernel
theorem dX10_idle_39 : decode cX10_idle 39 = .ok (.pop, 1) := by decide +kernel
theorem dX10_idle_40 : decode cX10_idle 40 = .ok (.iconst 0, 1) := by decide +kernel
theorem dX10_idle_41 : decode cX10_idle 41 = .ok (.istore 4, 2) := by decide +kernel
theorem dX10_idle_43 : decode cX10_idle 43 = .ok (.bipush (-9), 2) := by decide +kernel
theorem dX10_idle_45 : decode cX10_idle 45 = .ok (.istore 5, 2) := by decide +kernel
theorem dX10_idle_47 : decode cX10_idle 47 = .ok (.bipush 11, 2) := by decide +kernel
theorem dX10_idle_49 : decode cX10_idle 49 = .ok (.istore 6, 2) := by decide +kernel
theorem dX10_idle_51 : decode cX10_idle 51 = .ok (.iload 6, 2) := by decide +kernel
theorem dX10_idle_53 : decode cX10_idle 53 = .ok (.ifCond .lt 48, 3) := by decide +kernel
theorem dX10_idle_56 : decode cX10_idle 56 = .ok (.iload 4, 2) := by decide +kernel
theorem dX10_idle_58 : decode cX10_idle 58 = .ok (.aload_n 0, 1) := by decide +kernel
theorem dX10_idle_59 : decode cX10_idle 59 = .ok (.getfield 32, 3) := by decide +kernel
theorem dX10_idle_62 : decode cX10_idle 62 = .ok (.iload 6, 2) := by decide +kernel
theorem dX10_idle_64 : decode cX10_idle 64 = .ok (.iaload, 1) := by decide +kernel
theorem dX10_idle_65 : decode cX10_idle 65 = .ok (.ifCond .ge 7, 3) := by decide +kernel
theorem dX10_idle_68 : decode cX10_idle 68 = .ok (.iconst 1, 1) := by decide +kernel
theorem dX10_idle_69 : decode cX10_idle 69 = .ok (.goto 4, 3) := by decide +kernel
theorem dX10_idle_72 : decode cX10_idle 72 = .ok (.iconst 0, 1) := by decide +kernel
theorem dX10_idle_73 : decode cX10_idle 73 = .ok (.iadd, 1) := by decide +kernel
theorem dX10_idle_74 : decode cX10_idle 74 = .ok (.istore 4, 2) := by decide +kernel
theorem dX10_idle_76 : decode cX10_idle 76 = .ok (.aload_n 0, 1) := by decide +kernel
theorem dX10_idle_77 : decode cX10_idle 77 = .ok (.getfield 32, 3) := by decide +kernel
theorem dX10_idle_80 : decode cX10_idle 80 = .ok (.iload 6, 2) := by decide +kernel
theorem dX10_idle_82 : decode cX10_idle 82 = .ok (.iaload, 1) := by decide +kernel
theorem dX10_idle_83 : decode cX10_idle 83 = .ok (.ifCond .ge 8, 3) := by decide +kernel
theorem dX10_idle_86 : decode cX10_idle 86 = .ok (.iload 6, 2) := by decide +kernel
theorem dX10_idle_88 : decode cX10_idle 88 = .ok (.goto 5, 3) := by decide +kernel
theorem dX10_idle_91 : decode cX10_idle 91 = .ok (.iload 5, 2) := by decide +kernel
theorem dX10_idle_93 : decode cX10_idle 93 = .ok (.istore 5, 2) := by decide +kernel
theorem dX10_idle_95 : decode cX10_idle 95 = .ok (.iinc 6 (-1), 3) := by decide +kernel
theorem dX10_idle_98 : decode cX10_idle 98 = .ok (.goto (-47), 3) := by decide +kernel
theorem dX10_idle_101 : decode cX10_idle 101 = .ok (.iload_n 2, 1) := by decide +kernel
theorem dX10_idle_102 : decode cX10_idle 102 = .ok (.ifCond .ne 8, 3) := by decide +kernel
theorem dX10_idle_105 : decode cX10_idle 105 = .ok (.iload 4, 2) := by decide +kernel
theorem dX10_idle_107 : decode cX10_idle 107 = .ok (.goto 5, 3) := by decide +kernel
theorem dX10_idle_110 : decode cX10_idle 110 = .ok (.iload 5, 2) := by decide +kernel
theorem dX10_idle_112 : decode cX10_idle 112 = .ok (.ireturn, 1) := by decide +kernel
theorem dX10_never_0 : decode cX10_never 0 = .ok (.aload_n 0, 1) := by decide +kernel
theorem dX10_never_1 : decode cX10_never 1 = .ok (.iconst 0, 1) := by decide +kernel
theorem dX10_never_2 : decode cX10_never 2 = .ok (.putfield 78, 3) := by decide +kernel
theorem dX10_never_5 : decode cX10_never 5 = .ok (.iload_n 1, 1) := by decide +kernel
theorem dX10_never_6 : decode cX10_never 6 = .ok (.i2l, 1) := by decide +kernel
theorem dX10_never_7 : decode cX10_never 7 = .ok (.lconst 0, 1) := by decide +kernel
theorem dX10_never_8 : decode cX10_never 8 = .ok (.lconst 1, 1) := by decide +kernel
theorem dX10_never_9 : decode cX10_never 9 = .ok (.invokestatic 84, 3) := by decide +kernel
theorem dX10_never_12 : decode cX10_never 12 = .ok (.ifCond .ne 10, 3) := by decide +kernel
theorem dX10_never_15 : decode cX10_never 15 = .ok (.aload_n 0, 1) := by decide +kernel
theorem dX10_never_16 : decode cX10_never 16 = .ok (.bipush (-2), 2) := by decide +kernel
theorem dX10_never_18 : decode cX10_never 18 = .ok (.invokevirtual 121, 3) := by decide +kernel
theorem dX10_never_21 : decode cX10_never 21 = .ok (.ireturn, 1) := by decide +kernel
theorem dX10_never_22 : decode cX10_never 22 = .ok (.iconst 0, 1) := by decide +kernel
theorem dX10_never_23 : decode cX10_never 23 = .ok (.istore_n 2, 1) := by decide +kernel
theorem dX10_never_24 : decode cX10_never 24 = .ok (.aload_n 0, 1) := by decide +kernel
theorem dX10_never_25 : decode cX10_never 25 = .ok (.getfield 81, 3) := by decide +kernel
theorem dX10_never_28 : decode cX10_never 28 = .ok (.ifCond .ne 7, 3) := by decide +kernel
theorem dX10_never_31 : decode cX10_never 31 = .ok (.iconst 0, 1) := by decide +kernel
theorem dX10_never_32 : decode cX10_never 32 = .ok (.goto 11, 3) := by decide +kernel
theorem dX10_never_35 : decode cX10_never 35 = .ok (.iconst 1, 1) := by decide +kernel
theorem dX10_never_36 : decode cX10_never 36 = .ok (.aload_n 0, 1) := by decide +kernel
theorem dX10_never_37 : decode cX10_never 37 = .ok (.getfield 88, 3) := by decide +kernel
theorem dX10_never_40 : decode cX10_never 40 = .ok (.ishl, 1) := by decide +kernel
theorem dX10_never_41 : decode cX10_never 41 = .ok (.iconst 1, 1) := by decide +kernel
theorem dX10_never_42 : decode cX10_never 42 = .ok (.isub, 1) := by decide +kernel
theorem dX10_never_43 : decode cX10_never 43 = .ok (.istore_n 3, 1) := by decide +kernel
theorem dX10_never_44 : decode cX10_never 44 = .ok (.iconst 0, 1) := by decide +kernel
theorem dX10_never_45 : decode cX10_never 45 = .ok (.istore 4, 2) := by decide +kernel
theorem dX10_never_47 : decode cX10_never 47 = .ok (.iload 4, 2) := by decide +kernel
theorem dX10_never_49 : decode cX10_never 49 = .ok (.aload_n 0, 1) := by decide +kernel
theorem dX10_never_50 : decode cX10_never 50 = .ok (.getfield 81, 3) := by decide +kernel
theorem dX10_never_53 : decode cX10_never 53 = .ok (.if_icmp .ge 27, 3) := by decide +kernel
theorem dX10_never_56 : decode cX10_never 56 = .ok (.aload_n 0, 1) := by decide +kernel
theorem dX10_never_57 : decode cX10_never 57 = .ok (.iload 4, 2) := by decide +kernel
theorem dX10_never_59 : decode cX10_never 59 = .ok (.invokevirtual 115, 3) := by decide +kernel
theorem dX10_never_62 : decode cX10_never 62 = .ok (.istore 5, 2) := by decide +kernel
theorem dX10_never_64 : decode cX10_never 64 = .ok (.iload_n 2, 1) := by decide +kernel
theorem dX10_never_65 : decode cX10_never 65 = .ok (.iload 5, 2) := by decide +kernel
theorem dX10_never_67 : decode cX10_never 67 = .ok (.ior, 1) := by decide +kernel
theorem dX10_never_68 : decode cX10_never 68 = .ok (.istore_n 2, 1) := by decide +kernel
theorem dX10_never_69 : decode cX10_never 69 = .ok (.iload_n 3, 1) := by decide +kernel
theorem dX10_never_70 : decode cX10_never 70 = .ok (.iload 5, 2) := by decide +kernel
theorem dX10_never_72 : decode cX10_never 72 = .ok (.iand, 1) := by decide +kernel
theorem dX10_never_73 : decode cX10_never 73 = .ok (.istore_n 3, 1) := by decide +kernel
theorem dX10_never_74 : decode cX10_never 74 = .ok (.iinc 4 1, 3) := by decide +kernel
theorem dX10_never_77 : decode cX10_never 77 = .ok (.goto (-30), 3) := by decide +kernel
theorem dX10_never_80 : decode cX10_never 80 = .ok (.iload_n 1, 1) := by decide +kernel
theorem dX10_never_81 : decode cX10_never 81 = .ok (.ifCond .ne 18, 3) := by decide +kernel
theorem dX10_never_84 : decode cX10_never 84 = .ok (.iconst 1, 1) := by decide +kernel
theorem dX10_never_85 : decode cX10_never 85 = .ok (.aload_n 0, 1) := by decide +kernel
theorem dX10_never_86 : decode cX10_never 86 = .ok (.getfield 88, 3) := by decide +kernel
theorem dX10_never_89 : decode cX10_never 89 = .ok (.ishl, 1) := by decide +kernel
theorem dX10_never_90 : decode cX10_never 90 = .ok (.iconst 1, 1) := by decide +kernel
theorem dX10_never_91 : decode cX10_never 91 = .ok (.isub, 1) := by decide +kernel
theorem dX10_never_92 : decode cX10_never 92 = .ok (.iload_n 2, 1) := by decide +kernel
theorem dX10_never_93 : decode cX10_never 93 = .ok (.iconst (-1), 1) := by decide +kernel
theorem dX10_never_94 : decode cX10_never 94 = .ok (.ixor, 1) := by decide +kernel
theorem dX10_never_95 : decode cX10_never 95 = .ok (.iand, 1) := by decide +kernel
theorem dX10_never_96 : decode cX10_never 96 = .ok (.goto 4, 3) := by decide +kernel
theorem dX10_never_99 : decode cX10_never 99 = .ok (.iload_n 3, 1) := by decide +kernel
theorem dX10_never_100 : decode cX10_never 100 = .ok (.ireturn, 1) := by decide +kernel
theorem dX10_alike_0 : decode cX10_alike 0 = .ok (.aload_n 0, 1) := by decide +kernel
theorem dX10_alike_1 : decode cX10_alike 1 = .ok (.iconst 0, 1) := by decide +kernel
theorem dX10_alike_2 : decode cX10_alike 2 = .ok (.putfield 78, 3) := by decide +kernel
theorem dX10_alike_5 : decode cX10_alike 5 = .ok (.iload_n 1, 1) := by decide +kernel
theorem dX10_alike_6 : decode cX10_alike 6 = .ok (.i2l, 1) := by decide +kernel
theorem dX10_alike_7 : decode cX10_alike 7 = .ok (.lconst 0, 1) := by decide +kernel
theorem dX10_alike_8 : decode cX10_alike 8 = .ok (.lconst 1, 1) := by decide +kernel
theorem dX10_alike_9 : decode cX10_alike 9 = .ok (.invokestatic 84, 3) := by decide +kernel
theorem dX10_alike_12 : decode cX10_alike 12 = .ok (.ifCond .ne 10, 3) := by decide +kernel
theorem dX10_alike_15 : decode cX10_alike 15 = .ok (.aload_n 0, 1) := by decide +kernel
theorem dX10_alike_16 : decode cX10_alike 16 = .ok (.bipush (-2), 2) := by decide +kernel
theorem dX10_alike_18 : decode cX10_alike 18 = .ok (.invokevirtual 121, 3) := by decide +kernel
theorem dX10_alike_21 : decode cX10_alike 21 = .ok (.ireturn, 1) := by decide +kernel
theorem dX10_alike_22 : decode cX10_alike 22 = .ok (.bipush (-9), 2) := by decide +kernel
theorem dX10_alike_24 : decode cX10_alike 24 = .ok (.istore_n 2, 1) := by decide +kernel
theorem dX10_alike_25 : decode cX10_alike 25 = .ok (.bipush (-9), 2) := by decide +kernel
theorem dX10_alike_27 : decode cX10_alike 27 = .ok (.istore_n 3, 1) := by decide +kernel
theorem dX10_alike_28 : decode cX10_alike 28 = .ok (.iconst 0, 1) := by decide +kernel
theorem dX10_alike_29 : decode cX10_alike 29 = .ok (.istore 4, 2) := by decide +kernel
theorem dX10_alike_31 : decode cX10_alike 31 = .ok (.iload 4, 2) := by decide +kernel
theorem dX10_alike_33 : decode cX10_alike 33 = .ok (.aload_n 0, 1) := by decide +kernel
theorem dX10_alike_34 : decode cX10_alike 34 = .ok (.getfield 81, 3) := by decide +kernel
theorem dX10_alike_37 : decode cX10_alike 37 = .ok (.if_icmp .ge 84, 3) := by decide +kernel
theorem dX10_alike_40 : decode cX10_alike 40 = .ok (.iload 4, 2) := by decide +kernel
theorem dX10_alike_42 : decode cX10_alike 42 = .ok (.iconst 1, 1) := by decide +kernel
theorem dX10_alike_43 : decode cX10_alike 43 = .ok (.iadd, 1) := by decide +kernel
theorem dX10_alike_44 : decode cX10_alike 44 = .ok (.istore 5, 2) := by decide +kernel
theorem dX10_alike_46 : decode cX10_alike 46 = .ok (.iload 5, 2) := by decide +kernel
theorem dX10_alike_48 : decode cX10_alike 48 = .ok (.aload_n 0, 1) := by decide +kernel
theorem dX10_alike_49 : decode cX10_alike 49 = .ok (.getfield 81, 3) := by decide +kernel
theorem dX10_alike_52 : decode cX10_alike 52 = .ok (.if_icmp .ge 63, 3) := by decide +kernel
theorem dX10_alike_55 : decode cX10_alike 55 = .ok (.aload_n 0, 1) := by decide +kernel
theorem dX10_alike_56 : decode cX10_alike 56 = .ok (.iload 4, 2) := by decide +kernel
theorem dX10_alike_58 : decode cX10_alike 58 = .ok (.invokevirtual 115, 3) := by decide +kernel
theorem dX10_alike_61 : decode cX10_alike 61 = .ok (.istore 6, 2) := by decide +kernel
theorem dX10_alike_63 : decode cX10_alike 63 = .ok (.iload 6, 2) := by decide +kernel
theorem dX10_alike_65 : decode cX10_alike 65 = .ok (.aload_n 0, 1) := by decide +kernel
theorem dX10_alike_66 : decode cX10_alike 66 = .ok (.iload 5, 2) := by decide +kernel
theorem dX10_alike_68 : decode cX10_alike 68 = .ok (.invokevirtual 115, 3) := by decide +kernel
theorem dX10_alike_71 : decode cX10_alike 71 = .ok (.iand, 1) := by decide +kernel
theorem dX10_alike_72 : decode cX10_alike 72 = .ok (.invokestatic 112, 3) := by decide +kernel
theorem dX10_alike_75 : decode cX10_alike 75 = .ok (.istore 7, 2) := by decide +kernel
theorem dX10_alike_77 : decode cX10_alike 77 = .ok (.iload 7, 2) := by decide +kernel
theorem dX10_alike_79 : decode cX10_alike 79 = .ok (.iload_n 3, 1) := by decide +kernel
theorem dX10_alike_80 : decode cX10_alike 80 = .ok (.if_icmp .le 14, 3) := by decide +kernel
theorem dX10_alike_83 : decode cX10_alike 83 = .ok (.bipush 10, 2) := by decide +kernel
theorem dX10_alike_85 : decode cX10_alike 85 = .ok (.iload 4, 2) := by decide +kernel
theorem dX10_alike_87 : decode cX10_alike 87 = .ok (.imul, 1) := by decide +kernel
theorem dX10_alike_88 : decode cX10_alike 88 = .ok (.iload 5, 2) := by decide +kernel
theorem dX10_alike_90 : decode cX10_alike 90 = .ok (.iadd, 1) := by decide +kernel
theorem dX10_alike_91 : decode cX10_alike 91 = .ok (.goto 4, 3) := by decide +kernel
theorem dX10_alike_94 : decode cX10_alike 94 = .ok (.iload_n 2, 1) := by decide +kernel
theorem dX10_alike_95 : decode cX10_alike 95 = .ok (.istore_n 2, 1) := by decide +kernel
theorem dX10_alike_96 : decode cX10_alike 96 = .ok (.iload 7, 2) := by decide +kernel
theorem dX10_alike_98 : decode cX10_alike 98 = .ok (.iload_n 3, 1) := by decide +kernel
theorem dX10_alike_99 : decode cX10_alike 99 = .ok (.if_icmp .le 8, 3) := by decide +kernel
theorem dX10_alike_102 : decode cX10_alike 102 = .ok (.iload 7, 2) := by decide +kernel
theorem dX10_alike_104 : decode cX10_alike 104 = .ok (.goto 4, 3) := by decide +kernel
theorem dX10_alike_107 : decode cX10_alike 107 = .ok (.iload_n 3, 1) := by decide +kernel
theorem dX10_alike_108 : decode cX10_alike 108 = .ok (.istore_n 3, 1) := by decide +kernel
theorem dX10_alike_109 : decode cX10_alike 109 = .ok (.iinc 5 1, 3) := by decide +kernel
theorem dX10_alike_112 : decode cX10_alike 112 = .ok (.goto (-66), 3) := by decide +kernel
theorem dX10_alike_115 : decode cX10_alike 115 = .ok (.iinc 4 1, 3) := by decide +kernel
theorem dX10_alike_118 : decode cX10_alike 118 = .ok (.goto (-87), 3) := by decide +kernel
theorem dX10_alike_121 : decode cX10_alike 121 = .ok (.iload_n 1, 1) := by decide +kernel
theorem dX10_alike_122 : decode cX10_alike 122 = .ok (.ifCond .ne 7, 3) := by decide +kernel
theorem dX10_alike_125 : decode cX10_alike 125 = .ok (.iload_n 2, 1) := by decide +kernel
theorem dX10_alike_126 : decode cX10_alike 126 = .ok (.goto 4, 3) := by decide +kernel
theorem dX10_alike_129 : decode cX10_alike 129 = .ok (.iload_n 3, 1) := by decide +kernel
theorem dX10_alike_130 : decode cX10_alike 130 = .ok (.ireturn, 1) := by decide +kernel
theorem dX10_dropped_0 : decode cX10_dropped 0 = .ok (.aload_n 0, 1) := by decide +kernel
theorem dX10_dropped_1 : decode cX10_dropped 1 = .ok (.iconst 0, 1) := by decide +kernel
theorem dX10_dropped_2 : decode cX10_dropped 2 = .ok (.putfield 78, 3) := by decide +kernel
theorem dX10_dropped_5 : decode cX10_dropped 5 = .ok (.aload_n 0, 1) := by decide +kernel
theorem dX10_dropped_6 : decode cX10_dropped 6 = .ok (.iload_n 1, 1) := by decide +kernel
theorem dX10_dropped_7 : decode cX10_dropped 7 = .ok (.invokevirtual 160, 3) := by decide +kernel
theorem dX10_dropped_10 : decode cX10_dropped 10 = .ok (.ifCond .ne 9, 3) := by decide +kernel
theorem dX10_dropped_13 : decode cX10_dropped 13 = .ok (.aload_n 0, 1) := by decide +kernel
theorem dX10_dropped_14 : decode cX10_dropped 14 = .ok (.iconst (-1), 1) := by decide +kernel
theorem dX10_dropped_15 : decode cX10_dropped 15 = .ok (.invokevirtual 121, 3) := by decide +kernel
theorem dX10_dropped_18 : decode cX10_dropped 18 = .ok (.ireturn, 1) := by decide +kernel
theorem dX10_dropped_19 : decode cX10_dropped 19 = .ok (.aload_n 0, 1) := by decide +kernel
theorem dX10_dropped_20 : decode cX10_dropped 20 = .ok (.iload_n 1, 1) := by decide +kernel
theorem dX10_dropped_21 : decode cX10_dropped 21 = .ok (.invokevirtual 115, 3) := by decide +kernel
theorem dX10_dropped_24 : decode cX10_dropped 24 = .ok (.istore_n 2, 1) := by decide +kernel
theorem dX10_dropped_25 : decode cX10_dropped 25 = .ok (.bipush (-9), 2) := by decide +kernel
theorem dX10_dropped_27 : decode cX10_dropped 27 = .ok (.istore_n 3, 1) := by decide +kernel
theorem dX10_dropped_28 : decode cX10_dropped 28 = .ok (.bipush 99, 2) := by decide +kernel
theorem dX10_dropped_30 : decode cX10_dropped 30 = .ok (.istore 4, 2) := by decide +kernel
theorem dX10_dropped_32 : decode cX10_dropped 32 = .ok (.iconst 0, 1) := by decide +kernel
theorem dX10_dropped_33 : decode cX10_dropped 33 = .ok (.istore 5, 2) := by decide +kernel
theorem dX10_dropped_35 : decode cX10_dropped 35 = .ok (.iload 5, 2) := by decide +kernel
theorem dX10_dropped_37 : decode cX10_dropped 37 = .ok (.aload_n 0, 1) := by decide +kernel
theorem dX10_dropped_38 : decode cX10_dropped 38 = .ok (.getfield 88, 3) := by decide +kernel
theorem dX10_dropped_41 : decode cX10_dropped 41 = .ok (.if_icmp .ge 67, 3) := by decide +kernel
theorem dX10_dropped_44 : decode cX10_dropped 44 = .ok (.iload_n 2, 1) := by decide +kernel
theorem dX10_dropped_45 : decode cX10_dropped 45 = .ok (.iload 5, 2) := by decide +kernel
theorem dX10_dropped_47 : decode cX10_dropped 47 = .ok (.invokestatic 93, 3) := by decide +kernel
theorem dX10_dropped_50 : decode cX10_dropped 50 = .ok (.ifCond .ne 6, 3) := by decide +kernel
theorem dX10_dropped_53 : decode cX10_dropped 53 = .ok (.goto 49, 3) := by decide +kernel
theorem dX10_dropped_56 : decode cX10_dropped 56 = .ok (.aload_n 0, 1) := by decide +kernel
theorem dX10_dropped_57 : decode cX10_dropped 57 = .ok (.iload 5, 2) := by decide +kernel
theorem dX10_dropped_59 : decode cX10_dropped 59 = .ok (.putfield 28, 3) := by decide +kernel
theorem dX10_dropped_62 : decode cX10_dropped 62 = .ok (.aload_n 0, 1) := by decide +kernel
theorem dX10_dropped_63 : decode cX10_dropped 63 = .ok (.iload_n 1, 1) := by decide +kernel
theorem dX10_dropped_64 : decode cX10_dropped 64 = .ok (.invokevirtual 115, 3) := by decide +kernel
theorem dX10_dropped_67 : decode cX10_dropped 67 = .ok (.invokestatic 112, 3) := by decide +kernel
theorem dX10_dropped_70 : decode cX10_dropped 70 = .ok (.istore 6, 2) := by decide +kernel
theorem dX10_dropped_72 : decode cX10_dropped 72 = .ok (.iload 6, 2) := by decide +kernel
theorem dX10_dropped_74 : decode cX10_dropped 74 = .ok (.iload 4, 2) := by decide +kernel
theorem dX10_dropped_76 : decode cX10_dropped 76 = .ok (.if_icmp .ge 8, 3) := by decide +kernel
theorem dX10_dropped_79 : decode cX10_dropped 79 = .ok (.iload 5, 2) := by decide +kernel
theorem dX10_dropped_81 : decode cX10_dropped 81 = .ok (.goto 4, 3) := by decide +kernel
theorem dX10_dropped_84 : decode cX10_dropped 84 = .ok (.iload_n 3, 1) := by decide +kernel
theorem dX10_dropped_85 : decode cX10_dropped 85 = .ok (.istore_n 3, 1) := by decide +kernel
theorem dX10_dropped_86 : decode cX10_dropped 86 = .ok (.iload 6, 2) := by decide +kernel
theorem dX10_dropped_88 : decode cX10_dropped 88 = .ok (.iload 4, 2) := by decide +kernel
theorem dX10_dropped_90 : decode cX10_dropped 90 = .ok (.if_icmp .ge 8, 3) := by decide +kernel
theorem dX10_dropped_93 : decode cX10_dropped 93 = .ok (.iload 6, 2) := by decide +kernel
theorem dX10_dropped_95 : decode cX10_dropped 95 = .ok (.goto 5, 3) := by decide +kernel
theorem dX10_dropped_98 : decode cX10_dropped 98 = .ok (.iload 4, 2) := by decide +kernel
theorem dX10_dropped_100 : decode cX10_dropped 100 = .ok (.istore 4, 2) := by decide +kernel
theorem dX10_dropped_102 : decode cX10_dropped 102 = .ok (.iinc 5 1, 3) := by decide +kernel
theorem dX10_dropped_105 : decode cX10_dropped 105 = .ok (.goto (-70), 3) := by decide +kernel
theorem dX10_dropped_108 : decode cX10_dropped 108 = .ok (.aload_n 0, 1) := by decide +kernel
theorem dX10_dropped_109 : decode cX10_dropped 109 = .ok (.iconst (-1), 1) := by decide +kernel
theorem dX10_dropped_110 : decode cX10_dropped 110 = .ok (.putfield 28, 3) := by decide +kernel
theorem dX10_dropped_113 : decode cX10_dropped 113 = .ok (.iload_n 3, 1) := by decide +kernel
theorem dX10_dropped_114 : decode cX10_dropped 114 = .ok (.ireturn, 1) := by decide +kernel
theorem dX10_key_0 : decode cX10_key 0 = .ok (.aload_n 0, 1) := by decide +kernel
theorem dX10_key_1 : decode cX10_key 1 = .ok (.iconst 0, 1) := by decide +kernel
theorem dX10_key_2 : decode cX10_key 2 = .ok (.putfield 78, 3) := by decide +kernel
theorem dX10_key_5 : decode cX10_key 5 = .ok (.iload_n 1, 1) := by decide +kernel
theorem dX10_key_6 : decode cX10_key 6 = .ok (.i2l, 1) := by decide +kernel
theorem dX10_key_7 : decode cX10_key 7 = .ok (.lconst 0, 1) := by decide +kernel
theorem dX10_key_8 : decode cX10_key 8 = .ok (.lconst 1, 1) := by decide +kernel
theorem dX10_key_9 : decode cX10_key 9 = .ok (.invokestatic 84, 3) := by decide +kernel
theorem dX10_key_12 : decode cX10_key 12 = .ok (.ifCond .ne 10, 3) := by decide +kernel
theorem dX10_key_15 : decode cX10_key 15 = .ok (.aload_n 0, 1) := by decide +kernel
theorem dX10_key_16 : decode cX10_key 16 = .ok (.bipush (-2), 2) := by decide +kernel
theorem dX10_key_18 : decode cX10_key 18 = .ok (.invokevirtual 121, 3) := by decide +kernel
theorem dX10_key_21 : decode cX10_key 21 = .ok (.ireturn, 1) := by decide +kernel
theorem dX10_key_22 : decode cX10_key 22 = .ok (.iconst 0, 1) := by decide +kernel
theorem dX10_key_23 : decode cX10_key 23 = .ok (.istore_n 2, 1) := by decide +kernel
theorem dX10_key_24 : decode cX10_key 24 = .ok (.sipush 999, 3) := by decide +kernel
theorem dX10_key_27 : decode cX10_key 27 = .ok (.istore_n 3, 1) := by decide +kernel
theorem dX10_key_28 : decode cX10_key 28 = .ok (.iconst 0, 1) := by decide +kernel
theorem dX10_key_29 : decode cX10_key 29 = .ok (.istore 4, 2) := by decide +kernel
theorem dX10_key_31 : decode cX10_key 31 = .ok (.iload 4, 2) := by decide +kernel
theorem dX10_key_33 : decode cX10_key 33 = .ok (.bipush 8, 2) := by decide +kernel
theorem dX10_key_35 : decode cX10_key 35 = .ok (.if_icmp .ge 79, 3) := by decide +kernel
theorem dX10_key_38 : decode cX10_key 38 = .ok (.iconst 0, 1) := by decide +kernel
theorem dX10_key_39 : decode cX10_key 39 = .ok (.istore 5, 2) := by decide +kernel
theorem dX10_key_41 : decode cX10_key 41 = .ok (.iconst 0, 1) := by decide +kernel
theorem dX10_key_42 : decode cX10_key 42 = .ok (.istore 6, 2) := by decide +kernel
theorem dX10_key_44 : decode cX10_key 44 = .ok (.iload 6, 2) := by decide +kernel
theorem dX10_key_46 : decode cX10_key 46 = .ok (.aload_n 0, 1) := by decide +kernel
theorem dX10_key_47 : decode cX10_key 47 = .ok (.getfield 81, 3) := by decide +kernel
theorem dX10_key_50 : decode cX10_key 50 = .ok (.if_icmp .ge 32, 3) := by decide +kernel
theorem dX10_key_53 : decode cX10_key 53 = .ok (.iload 5, 2) := by decide +kernel
theorem dX10_key_55 : decode cX10_key 55 = .ok (.aload_n 0, 1) := by decide +kernel
theorem dX10_key_56 : decode cX10_key 56 = .ok (.aload_n 0, 1) := by decide +kernel
theorem dX10_key_57 : decode cX10_key 57 = .ok (.getfield 22, 3) := by decide +kernel
theorem dX10_key_60 : decode cX10_key 60 = .ok (.iload 6, 2) := by decide +kernel
theorem dX10_key_62 : decode cX10_key 62 = .ok (.iaload, 1) := by decide +kernel
theorem dX10_key_63 : decode cX10_key 63 = .ok (.iconst 1, 1) := by decide +kernel
theorem dX10_key_64 : decode cX10_key 64 = .ok (.iload 4, 2) := by decide +kernel
theorem dX10_key_66 : decode cX10_key 66 = .ok (.ishl, 1) := by decide +kernel
theorem dX10_key_67 : decode cX10_key 67 = .ok (.iconst (-1), 1) := by decide +kernel
theorem dX10_key_68 : decode cX10_key 68 = .ok (.ixor, 1) := by decide +kernel
theorem dX10_key_69 : decode cX10_key 69 = .ok (.iand, 1) := by decide +kernel
theorem dX10_key_70 : decode cX10_key 70 = .ok (.invokevirtual 233, 3) := by decide +kernel
theorem dX10_key_73 : decode cX10_key 73 = .ok (.iadd, 1) := by decide +kernel
theorem dX10_key_74 : decode cX10_key 74 = .ok (.istore 5, 2) := by decide +kernel
theorem dX10_key_76 : decode cX10_key 76 = .ok (.iinc 6 1, 3) := by decide +kernel
theorem dX10_key_79 : decode cX10_key 79 = .ok (.goto (-35), 3) := by decide +kernel
theorem dX10_key_82 : decode cX10_key 82 = .ok (.iload 5, 2) := by decide +kernel
theorem dX10_key_84 : decode cX10_key 84 = .ok (.iload_n 3, 1) := by decide +kernel
theorem dX10_key_85 : decode cX10_key 85 = .ok (.if_icmp .ge 8, 3) := by decide +kernel
theorem dX10_key_88 : decode cX10_key 88 = .ok (.iload 4, 2) := by decide +kernel
theorem dX10_key_90 : decode cX10_key 90 = .ok (.goto 4, 3) := by decide +kernel
theorem dX10_key_93 : decode cX10_key 93 = .ok (.iload_n 2, 1) := by decide +kernel
theorem dX10_key_94 : decode cX10_key 94 = .ok (.istore_n 2, 1) := by decide +kernel
theorem dX10_key_95 : decode cX10_key 95 = .ok (.iload 5, 2) := by decide +kernel
