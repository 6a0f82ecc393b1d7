theorem dX9_adds_75 : decode cX9_adds 75 = .ok (.invokevirtual 316, 3) := by decide +kernel
theorem dX9_adds_78 : decode cX9_adds 78 = .ok (.iload 4, 2) := by decide +kernel
theorem dX9_adds_80 : decode cX9_adds 80 = .ok (.invokestatic 190, 3) := by decide +kernel
theorem dX9_adds_83 : decode cX9_adds 83 = .ok (.invokestatic 320, 3) := by decide +kernel
theorem dX9_adds_86 : decode cX9_adds 86 = .ok (.iload_n 3, 1) := by decide +kernel
theorem dX9_adds_87 : decode cX9_adds 87 = .ok (.invokestatic 245, 3) := by decide +kernel
theorem dX9_adds_90 : decode cX9_adds 90 = .ok (.lreturn, 1) := by decide +kernel
theorem dX9_ways_0 : decode cX9_ways 0 = .ok (.aload_n 0, 1) := by decide +kernel
theorem dX9_ways_1 : decode cX9_ways 1 = .ok (.getfield 10, 3) := by decide +kernel
theorem dX9_ways_4 : decode cX9_ways 4 = .ok (.iload_n 1, 1) := by decide +kernel
theorem dX9_ways_5 : decode cX9_ways 5 = .ok (.invokevirtual 111, 3) := by decide +kernel
theorem dX9_ways_8 : decode cX9_ways 8 = .ok (.ifCond .ne 9, 3) := by decide +kernel
theorem dX9_ways_11 : decode cX9_ways 11 = .ok (.aload_n 0, 1) := by decide +kernel
theorem dX9_ways_12 : decode cX9_ways 12 = .ok (.iconst (-1), 1) := by decide +kernel
theorem dX9_ways_13 : decode cX9_ways 13 = .ok (.invokevirtual 79, 3) := by decide +kernel
theorem dX9_ways_16 : decode cX9_ways 16 = .ok (.ireturn, 1) := by decide +kernel
theorem dX9_ways_17 : decode cX9_ways 17 = .ok (.iload_n 2, 1) := by decide +kernel
theorem dX9_ways_18 : decode cX9_ways 18 = .ok (.invokestatic 174, 3) := by decide +kernel
theorem dX9_ways_21 : decode cX9_ways 21 = .ok (.ifCond .eq 10, 3) := by decide +kernel
theorem dX9_ways_24 : decode cX9_ways 24 = .ok (.aload_n 0, 1) := by decide +kernel
theorem dX9_ways_25 : decode cX9_ways 25 = .ok (.bipush (-2), 2) := by decide +kernel
theorem dX9_ways_27 : decode cX9_ways 27 = .ok (.invokevirtual 79, 3) := by decide +kernel
theorem dX9_ways_30 : decode cX9_ways 30 = .ok (.ireturn, 1) := by decide +kernel
theorem dX9_ways_31 : decode cX9_ways 31 = .ok (.iload_n 2, 1) := by decide +kernel
theorem dX9_ways_32 : decode cX9_ways 32 = .ok (.ifCond .ne 18, 3) := by decide +kernel
theorem dX9_ways_35 : decode cX9_ways 35 = .ok (.aload_n 0, 1) := by decide +kernel
theorem dX9_ways_36 : decode cX9_ways 36 = .ok (.getfield 61, 3) := by decide +kernel
theorem dX9_ways_39 : decode cX9_ways 39 = .ok (.aload_n 0, 1) := by decide +kernel
theorem dX9_ways_40 : decode cX9_ways 40 = .ok (.getfield 10, 3) := by decide +kernel
theorem dX9_ways_43 : decode cX9_ways 43 = .ok (.iload_n 1, 1) := by decide +kernel
theorem dX9_ways_44 : decode cX9_ways 44 = .ok (.invokevirtual 323, 3) := by decide +kernel
theorem dX9_ways_47 : decode cX9_ways 47 = .ok (.goto 16, 3) := by decide +kernel
theorem dX9_ways_50 : decode cX9_ways 50 = .ok (.aload_n 0, 1) := by decide +kernel
theorem dX9_ways_51 : decode cX9_ways 51 = .ok (.getfield 61, 3) := by decide +kernel
theorem dX9_ways_54 : decode cX9_ways 54 = .ok (.aload_n 0, 1) := by decide +kernel
theorem dX9_ways_55 : decode cX9_ways 55 = .ok (.getfield 10, 3) := by decide +kernel
theorem dX9_ways_58 : decode cX9_ways 58 = .ok (.iconst 0, 1) := by decide +kernel
theorem dX9_ways_59 : decode cX9_ways 59 = .ok (.iload_n 1, 1) := by decide +kernel
theorem dX9_ways_60 : decode cX9_ways 60 = .ok (.invokevirtual 214, 3) := by decide +kernel
theorem dX9_ways_63 : decode cX9_ways 63 = .ok (.ireturn, 1) := by decide +kernel
theorem dX9_behind_0 : decode cX9_behind 0 = .ok (.aload_n 0, 1) := by decide +kernel
theorem dX9_behind_1 : decode cX9_behind 1 = .ok (.getfield 10, 3) := by decide +kernel
theorem dX9_behind_4 : decode cX9_behind 4 = .ok (.iload_n 1, 1) := by decide +kernel
theorem dX9_behind_5 : decode cX9_behind 5 = .ok (.invokevirtual 119, 3) := by decide +kernel
theorem dX9_behind_8 : decode cX9_behind 8 = .ok (.ifCond .ne 9, 3) := by decide +kernel
theorem dX9_behind_11 : decode cX9_behind 11 = .ok (.aload_n 0, 1) := by decide +kernel
theorem dX9_behind_12 : decode cX9_behind 12 = .ok (.iconst (-1), 1) := by decide +kernel
theorem dX9_behind_13 : decode cX9_behind 13 = .ok (.invokevirtual 79, 3) := by decide +kernel
theorem dX9_behind_16 : decode cX9_behind 16 = .ok (.ireturn, 1) := by decide +kernel
theorem dX9_behind_17 : decode cX9_behind 17 = .ok (.iload_n 2, 1) := by decide +kernel
theorem dX9_behind_18 : decode cX9_behind 18 = .ok (.ifCond .ge 10, 3) := by decide +kernel
theorem dX9_behind_21 : decode cX9_behind 21 = .ok (.aload_n 0, 1) := by decide +kernel
theorem dX9_behind_22 : decode cX9_behind 22 = .ok (.bipush (-4), 2) := by decide +kernel
theorem dX9_behind_24 : decode cX9_behind 24 = .ok (.invokevirtual 79, 3) := by decide +kernel
theorem dX9_behind_27 : decode cX9_behind 27 = .ok (.ireturn, 1) := by decide +kernel
theorem dX9_behind_28 : decode cX9_behind 28 = .ok (.iload_n 2, 1) := by decide +kernel
theorem dX9_behind_29 : decode cX9_behind 29 = .ok (.bipush 60, 2) := by decide +kernel
theorem dX9_behind_31 : decode cX9_behind 31 = .ok (.if_icmp .le 10, 3) := by decide +kernel
theorem dX9_behind_34 : decode cX9_behind 34 = .ok (.aload_n 0, 1) := by decide +kernel
theorem dX9_behind_35 : decode cX9_behind 35 = .ok (.bipush (-6), 2) := by decide +kernel
theorem dX9_behind_37 : decode cX9_behind 37 = .ok (.invokevirtual 79, 3) := by decide +kernel
theorem dX9_behind_40 : decode cX9_behind 40 = .ok (.ireturn, 1) := by decide +kernel
theorem dX9_behind_41 : decode cX9_behind 41 = .ok (.aload_n 0, 1) := by decide +kernel
theorem dX9_behind_42 : decode cX9_behind 42 = .ok (.getfield 68, 3) := by decide +kernel
theorem dX9_behind_45 : decode cX9_behind 45 = .ok (.aload_n 0, 1) := by decide +kernel
theorem dX9_behind_46 : decode cX9_behind 46 = .ok (.getfield 10, 3) := by decide +kernel
theorem dX9_behind_49 : decode cX9_behind 49 = .ok (.aload_n 0, 1) := by decide +kernel
theorem dX9_behind_50 : decode cX9_behind 50 = .ok (.getfield 10, 3) := by decide +kernel
theorem dX9_behind_53 : decode cX9_behind 53 = .ok (.iload_n 1, 1) := by decide +kernel
theorem dX9_behind_54 : decode cX9_behind 54 = .ok (.invokevirtual 122, 3) := by decide +kernel
theorem dX9_behind_57 : decode cX9_behind 57 = .ok (.iload_n 2, 1) := by decide +kernel
theorem dX9_behind_58 : decode cX9_behind 58 = .ok (.invokevirtual 326, 3) := by decide +kernel
theorem dX9_behind_61 : decode cX9_behind 61 = .ok (.ireturn, 1) := by decide +kernel
theorem dX9_give_0 : decode cX9_give 0 = .ok (.aload_n 0, 1) := by decide +kernel
theorem dX9_give_1 : decode cX9_give 1 = .ok (.getfield 10, 3) := by decide +kernel
theorem dX9_give_4 : decode cX9_give 4 = .ok (.iload_n 1, 1) := by decide +kernel
theorem dX9_give_5 : decode cX9_give 5 = .ok (.invokevirtual 119, 3) := by decide +kernel
theorem dX9_give_8 : decode cX9_give 8 = .ok (.ifCond .eq 19, 3) := by decide +kernel
theorem dX9_give_11 : decode cX9_give 11 = .ok (.aload_n 0, 1) := by decide +kernel
theorem dX9_give_12 : decode cX9_give 12 = .ok (.getfield 10, 3) := by decide +kernel
theorem dX9_give_15 : decode cX9_give 15 = .ok (.iload_n 2, 1) := by decide +kernel
theorem dX9_give_16 : decode cX9_give 16 = .ok (.invokevirtual 119, 3) := by decide +kernel
theorem dX9_give_19 : decode cX9_give 19 = .ok (.ifCond .eq 8, 3) := by decide +kernel
theorem dX9_give_22 : decode cX9_give 22 = .ok (.iload_n 1, 1) := by decide +kernel
theorem dX9_give_23 : decode cX9_give 23 = .ok (.iload_n 2, 1) := by decide +kernel
theorem dX9_give_24 : decode cX9_give 24 = .ok (.if_icmp .ne 9, 3) := by decide +kernel
theorem dX9_give_27 : decode cX9_give 27 = .ok (.aload_n 0, 1) := by decide +kernel
theorem dX9_give_28 : decode cX9_give 28 = .ok (.iconst (-1), 1) := by decide +kernel
theorem dX9_give_29 : decode cX9_give 29 = .ok (.invokevirtual 79, 3) := by decide +kernel
theorem dX9_give_32 : decode cX9_give 32 = .ok (.ireturn, 1) := by decide +kernel
theorem dX9_give_33 : decode cX9_give 33 = .ok (.aload_n 0, 1) := by decide +kernel
theorem dX9_give_34 : decode cX9_give 34 = .ok (.getfield 75, 3) := by decide +kernel
theorem dX9_give_37 : decode cX9_give 37 = .ok (.aload_n 0, 1) := by decide +kernel
theorem dX9_give_38 : decode cX9_give 38 = .ok (.getfield 10, 3) := by decide +kernel
theorem dX9_give_41 : decode cX9_give 41 = .ok (.aload_n 0, 1) := by decide +kernel
theorem dX9_give_42 : decode cX9_give 42 = .ok (.getfield 10, 3) := by decide +kernel
theorem dX9_give_45 : decode cX9_give 45 = .ok (.iload_n 1, 1) := by decide +kernel
theorem dX9_give_46 : decode cX9_give 46 = .ok (.invokevirtual 122, 3) := by decide +kernel
theorem dX9_give_49 : decode cX9_give 49 = .ok (.aload_n 0, 1) := by decide +kernel
theorem dX9_give_50 : decode cX9_give 50 = .ok (.getfield 10, 3) := by decide +kernel
theorem dX9_give_53 : decode cX9_give 53 = .ok (.iload_n 2, 1) := by decide +kernel
theorem dX9_give_54 : decode cX9_give 54 = .ok (.invokevirtual 122, 3) := by decide +kernel
theorem dX9_give_57 : decode cX9_give 57 = .ok (.invokevirtual 329, 3) := by decide +kernel
theorem dX9_give_60 : decode cX9_give 60 = .ok (.ireturn, 1) := by decide +kernel
theorem dX9_ever_0 : decode cX9_ever 0 = .ok (.aload_n 0, 1) := by decide +kernel
theorem dX9_ever_1 : decode cX9_ever 1 = .ok (.getfield 10, 3) := by decide +kernel
theorem dX9_ever_4 : decode cX9_ever 4 = .ok (.iload_n 1, 1) := by decide +kernel
theorem dX9_ever_5 : decode cX9_ever 5 = .ok (.invokevirtual 119, 3) := by decide +kernel
theorem dX9_ever_8 : decode cX9_ever 8 = .ok (.ifCond .ne 9, 3) := by decide +kernel
theorem dX9_ever_11 : decode cX9_ever 11 = .ok (.aload_n 0, 1) := by decide +kernel
theorem dX9_ever_12 : decode cX9_ever 12 = .ok (.iconst (-1), 1) := by decide +kernel
theorem dX9_ever_13 : decode cX9_ever 13 = .ok (.invokevirtual 79, 3) := by decide +kernel
theorem dX9_ever_16 : decode cX9_ever 16 = .ok (.ireturn, 1) := by decide +kernel
theorem dX9_ever_17 : decode cX9_ever 17 = .ok (.iload_n 2, 1) := by decide +kernel
theorem dX9_ever_18 : decode cX9_ever 18 = .ok (.iconst 1, 1) := by decide +kernel
theorem dX9_ever_19 : decode cX9_ever 19 = .ok (.if_icmp .ge 10, 3) := by decide +kernel
theorem dX9_ever_22 : decode cX9_ever 22 = .ok (.aload_n 0, 1) := by decide +kernel
theorem dX9_ever_23 : decode cX9_ever 23 = .ok (.bipush (-4), 2) := by decide +kernel
theorem dX9_ever_25 : decode cX9_ever 25 = .ok (.invokevirtual 79, 3) := by decide +kernel
theorem dX9_ever_28 : decode cX9_ever 28 = .ok (.ireturn, 1) := by decide +kernel
theorem dX9_ever_29 : decode cX9_ever 29 = .ok (.iload_n 2, 1) := by decide +kernel
theorem dX9_ever_30 : decode cX9_ever 30 = .ok (.bipush 60, 2) := by decide +kernel
theorem dX9_ever_32 : decode cX9_ever 32 = .ok (.if_icmp .le 10, 3) := by decide +kernel
theorem dX9_ever_35 : decode cX9_ever 35 = .ok (.aload_n 0, 1) := by decide +kernel
theorem dX9_ever_36 : decode cX9_ever 36 = .ok (.bipush (-6), 2) := by decide +kernel
theorem dX9_ever_38 : decode cX9_ever 38 = .ok (.invokevirtual 79, 3) := by decide +kernel
theorem dX9_ever_41 : decode cX9_ever 41 = .ok (.ireturn, 1) := by decide +kernel
theorem dX9_ever_42 : decode cX9_ever 42 = .ok (.aload_n 0, 1) := by decide +kernel
theorem dX9_ever_43 : decode cX9_ever 43 = .ok (.getfield 68, 3) := by decide +kernel
theorem dX9_ever_46 : decode cX9_ever 46 = .ok (.aload_n 0, 1) := by decide +kernel
theorem dX9_ever_47 : decode cX9_ever 47 = .ok (.getfield 10, 3) := by decide +kernel
theorem dX9_ever_50 : decode cX9_ever 50 = .ok (.aload_n 0, 1) := by decide +kernel
theorem dX9_ever_51 : decode cX9_ever 51 = .ok (.getfield 10, 3) := by decide +kernel
theorem dX9_ever_54 : decode cX9_ever 54 = .ok (.iload_n 1, 1) := by decide +kernel
theorem dX9_ever_55 : decode cX9_ever 55 = .ok (.invokevirtual 122, 3) := by decide +kernel
theorem dX9_ever_58 : decode cX9_ever 58 = .ok (.iload_n 2, 1) := by decide +kernel
theorem dX9_ever_59 : decode cX9_ever 59 = .ok (.invokevirtual 332, 3) := by decide +kernel
theorem dX9_ever_62 : decode cX9_ever 62 = .ok (.ireturn, 1) := by decide +kernel
theorem dX9_row_0 : decode cX9_row 0 = .ok (.iload_n 1, 1) := by decide +kernel
theorem dX9_row_1 : decode cX9_row 1 = .ok (.ifCond .ge 10, 3) := by decide +kernel
theorem dX9_row_4 : decode cX9_row 4 = .ok (.aload_n 0, 1) := by decide +kernel
theorem dX9_row_5 : decode cX9_row 5 = .ok (.bipush (-4), 2) := by decide +kernel
theorem dX9_row_7 : decode cX9_row 7 = .ok (.invokevirtual 79, 3) := by decide +kernel
theorem dX9_row_10 : decode cX9_row 10 = .ok (.ireturn, 1) := by decide +kernel
theorem dX9_row_11 : decode cX9_row 11 = .ok (.iload_n 1, 1) := by decide +kernel
theorem dX9_row_12 : decode cX9_row 12 = .ok (.bipush 99, 2) := by decide +kernel
theorem dX9_row_14 : decode cX9_row 14 = .ok (.if_icmp .gt 13, 3) := by decide +kernel
theorem dX9_row_17 : decode cX9_row 17 = .ok (.aload_n 0, 1) := by decide +kernel
theorem dX9_row_18 : decode cX9_row 18 = .ok (.getfield 36, 3) := by decide +kernel
theorem dX9_row_21 : decode cX9_row 21 = .ok (.invokevirtual 335, 3) := by decide +kernel
theorem dX9_row_24 : decode cX9_row 24 = .ok (.ifCond .eq 10, 3) := by decide +kernel
theorem dX9_row_27 : decode cX9_row 27 = .ok (.aload_n 0, 1) := by decide +kernel
theorem dX9_row_28 : decode cX9_row 28 = .ok (.bipush (-6), 2) := by decide +kernel
theorem dX9_row_30 : decode cX9_row 30 = .ok (.invokevirtual 79, 3) := by decide +kernel
theorem dX9_row_33 : decode cX9_row 33 = .ok (.ireturn, 1) := by decide +kernel
theorem dX9_row_34 : decode cX9_row 34 = .ok (.aload_n 0, 1) := by decide +kernel
theorem dX9_row_35 : decode cX9_row 35 = .ok (.getfield 36, 3) := by decide +kernel
theorem dX9_row_38 : decode cX9_row 38 = .ok (.iload_n 1, 1) := by decide +kernel
theorem dX9_row_39 : decode cX9_row 39 = .ok (.invokevirtual 336, 3) := by decide +kernel
theorem dX9_row_42 : decode cX9_row 42 = .ok (.ireturn, 1) := by decide +kernel
theorem dX9_judge_0 : decode cX9_judge 0 = .ok (.aload_n 0, 1) := by decide +kernel
theorem dX9_judge_1 : decode cX9_judge 1 = .ok (.getfield 10, 3) := by decide +kernel
theorem dX9_judge_4 : decode cX9_judge 4 = .ok (.iload_n 1, 1) := by decide +kernel
theorem dX9_judge_5 : decode cX9_judge 5 = .ok (.invokevirtual 119, 3) := by decide +kernel
theorem dX9_judge_8 : decode cX9_judge 8 = .ok (.ifCond .ne 9, 3) := by decide +kernel
theorem dX9_judge_11 : decode cX9_judge 11 = .ok (.aload_n 0, 1) := by decide +kernel
theorem dX9_judge_12 : decode cX9_judge 12 = .ok (.iconst (-1), 1) := by decide +kernel
theorem dX9_judge_13 : decode cX9_judge 13 = .ok (.invokevirtual 79, 3) := by decide +kernel
theorem dX9_judge_16 : decode cX9_judge 16 = .ok (.ireturn, 1) := by decide +kernel
theorem dX9_judge_17 : decode cX9_judge 17 = .ok (.aload_n 0, 1) := by decide +kernel
theorem dX9_judge_18 : decode cX9_judge 18 = .ok (.iload_n 1, 1) := by decide +kernel
theorem dX9_judge_19 : decode cX9_judge 19 = .ok (.invokevirtual 177, 3) := by decide +kernel
theorem dX9_judge_22 : decode cX9_judge 22 = .ok (.aload_n 0, 1) := by decide +kernel
theorem dX9_judge_23 : decode cX9_judge 23 = .ok (.getfield 36, 3) := by decide +kernel
theorem dX9_judge_26 : decode cX9_judge 26 = .ok (.aload_n 0, 1) := by decide +kernel
theorem dX9_judge_27 : decode cX9_judge 27 = .ok (.getfield 47, 3) := by decide +kernel
theorem dX9_judge_30 : decode cX9_judge 30 = .ok (.invokevirtual 337, 3) := by decide +kernel
theorem dX9_judge_33 : decode cX9_judge 33 = .ok (.istore_n 2, 1) := by decide +kernel
theorem dX9_judge_34 : decode cX9_judge 34 = .ok (.aload_n 0, 1) := by decide +kernel
theorem dX9_judge_35 : decode cX9_judge 35 = .ok (.getfield 36, 3) := by decide +kernel
theorem dX9_judge_38 : decode cX9_judge 38 = .ok (.invokevirtual 340, 3) := by decide +kernel
theorem dX9_judge_41 : decode cX9_judge 41 = .ok (.pop, 1) := by decide +kernel
theorem dX9_judge_42 : decode cX9_judge 42 = .ok (.iload_n 2, 1) := by decide +kernel
theorem dX9_judge_43 : decode cX9_judge 43 = .ok (.ireturn, 1) := by decide +kernel
theorem dX9_clear_0 : decode cX9_clear 0 = .ok (.aload_n 0, 1) := by decide +kernel
theorem dX9_clear_1 : decode cX9_clear 1 = .ok (.getfield 36, 3) := by decide +kernel
theorem dX9_clear_4 : decode cX9_clear 4 = .ok (.invokevirtual 340, 3) := by decide +kernel
theorem dX9_clear_7 : decode cX9_clear 7 = .ok (.ireturn, 1) := by decide +kernel
theorem dX9_lots_0 : decode cX9_lots 0 = .ok (.iload_n 1, 1) := by decide +kernel
theorem dX9_lots_1 : decode cX9_lots 1 = .ok (.iconst 1, 1) := by decide +kernel
theorem dX9_lots_2 : decode cX9_lots 2 = .ok (.if_icmp .ge 10, 3) := by decide +kernel
theorem dX9_lots_5 : decode cX9_lots 5 = .ok (.aload_n 0, 1) := by decide +kernel
theorem dX9_lots_6 : decode cX9_lots 6 = .ok (.bipush (-4), 2) := by decide +kernel
theorem dX9_lots_8 : decode cX9_lots 8 = .ok (.invokevirtual 79, 3) := by decide +kernel
theorem dX9_lots_11 : decode cX9_lots 11 = .ok (.ireturn, 1) := by decide +kernel
theorem dX9_lots_12 : decode cX9_lots 12 = .ok (.iload_n 1, 1) := by decide +kernel
theorem dX9_lots_13 : decode cX9_lots 13 = .ok (.bipush 20, 2) := by decide +kernel
theorem dX9_lots_15 : decode cX9_lots 15 = .ok (.if_icmp .le 10, 3) := by decide +kernel
theorem dX9_lots_18 : decode cX9_lots 18 = .ok (.aload_n 0, 1) := by decide +kernel
theorem dX9_lots_19 : decode cX9_lots 19 = .ok (.bipush (-6), 2) := by decide +kernel
theorem dX9_lots_21 : decode cX9_lots 21 = .ok (.invokevirtual 79, 3) := by decide +kernel
theorem dX9_lots_24 : decode cX9_lots 24 = .ok (.ireturn, 1) := by decide +kernel
theorem dX9_lots_25 : decode cX9_lots 25 = .ok (.iload_n 3, 1) := by decide +kernel
theorem dX9_lots_26 : decode cX9_lots 26 = .ok (.invokestatic 174, 3) := by decide +kernel
theorem dX9_lots_29 : decode cX9_lots 29 = .ok (.ifCond .eq 10, 3) := by decide +kernel
theorem dX9_lots_32 : decode cX9_lots 32 = .ok (.aload_n 0, 1) := by decide +kernel
theorem dX9_lots_33 : decode cX9_lots 33 = .ok (.bipush (-2), 2) := by decide +kernel
theorem dX9_lots_35 : decode cX9_lots 35 = .ok (.invokevirtual 79, 3) := by decide +kernel
theorem dX9_lots_38 : decode cX9_lots 38 = .ok (.ireturn, 1) := by decide +kernel
theorem dX9_lots_39 : decode cX9_lots 39 = .ok (.aload_n 0, 1) := by decide +kernel
theorem dX9_lots_40 : decode cX9_lots 40 = .ok (.getfield 75, 3) := by decide +kernel
theorem dX9_lots_43 : decode cX9_lots 43 = .ok (.aload_n 0, 1) := by decide +kernel
theorem dX9_lots_44 : decode cX9_lots 44 = .ok (.getfield 10, 3) := by decide +kernel
theorem dX9_lots_47 : decode cX9_lots 47 = .ok (.iload_n 1, 1) := by decide +kernel
theorem dX9_lots_48 : decode cX9_lots 48 = .ok (.iload_n 2, 1) := by decide +kernel
theorem dX9_lots_49 : decode cX9_lots 49 = .ok (.iload_n 3, 1) := by decide +kernel
theorem dX9_lots_50 : decode cX9_lots 50 = .ok (.invokevirtual 342, 3) := by decide +kernel
theorem dX9_lots_53 : decode cX9_lots 53 = .ok (.ireturn, 1) := by decide +kernel
theorem dX9_image_0 : decode cX9_image 0 = .ok (.aload_n 0, 1) := by decide +kernel
theorem dX9_image_1 : decode cX9_image 1 = .ok (.getfield 16, 3) := by decide +kernel
theorem dX9_image_4 : decode cX9_image 4 = .ok (.aload_n 0, 1) := by decide +kernel
theorem dX9_image_5 : decode cX9_image 5 = .ok (.getfield 10, 3) := by decide +kernel
theorem dX9_image_8 : decode cX9_image 8 = .ok (.invokevirtual 345, 3) := by decide +kernel
theorem dX9_image_11 : decode cX9_image 11 = .ok (.aload_n 0, 1) := by decide +kernel
theorem dX9_image_12 : decode cX9_image 12 = .ok (.iconst 1, 1) := by decide +kernel
theorem dX9_image_13 : decode cX9_image 13 = .ok (.putfield 348, 3) := by decide +kernel
theorem dX9_image_16 : decode cX9_image 16 = .ok (.aload_n 0, 1) := by decide +kernel
theorem dX9_image_17 : decode cX9_image 17 = .ok (.getfield 10, 3) := by decide +kernel
theorem dX9_image_20 : decode cX9_image 20 = .ok (.invokevirtual 161, 3) := by decide +kernel
theorem dX9_image_23 : decode cX9_image 23 = .ok (.ireturn, 1) := by decide +kernel
theorem dX9_restore_0 : decode cX9_restore 0 = .ok (.aload_n 0, 1) := by decide +kernel
theorem dX9_restore_1 : decode cX9_restore 1 = .ok (.getfield 348, 3) := by decide +kernel
theorem dX9_restore_4 : decode cX9_restore 4 = .ok (.ifCond .ne 10, 3) := by decide +kernel
theorem dX9_restore_7 : decode cX9_restore 7 = .ok (.aload_n 0, 1) := by decide +kernel
theorem dX9_restore_8 : decode cX9_restore 8 = .ok (.bipush (-3), 2) := by decide +kernel
theorem dX9_restore_10 : decode cX9_restore 10 = .ok (.invokevirtual 79, 3) := by decide +kernel
theorem dX9_restore_13 : decode cX9_restore 13 = .ok (.ireturn, 1) := by decide +kernel
theorem dX9_restore_14 : decode cX9_restore 14 = .ok (.aload_n 0, 1) := by decide +kernel
theorem dX9_restore_15 : decode cX9_restore 15 = .ok (.getfield 10, 3) := by decide +kernel
theorem dX9_restore_18 : decode cX9_restore 18 = .ok (.aload_n 0, 1) := by decide +kernel
theorem dX9_restore_19 : decode cX9_restore 19 = .ok (.getfield 16, 3) := by decide +kernel
theorem dX9_restore_22 : decode cX9_restore 22 = .ok (.invokevirtual 345, 3) := by decide +kernel
theorem dX9_restore_25 : decode cX9_restore 25 = .ok (.aload_n 0, 1) := by decide +kernel
theorem dX9_restore_26 : decode cX9_restore 26 = .ok (.getfield 22, 3) := by decide +kernel
theorem dX9_restore_29 : decode cX9_restore 29 = .ok (.invokevirtual 105, 3) := by decide +kernel
theorem dX9_restore_32 : decode cX9_restore 32 = .ok (.aload_n 0, 1) := by decide +kernel
theorem dX9_restore_33 : decode cX9_restore 33 = .ok (.getfield 10, 3) := by decide +kernel
theorem dX9_restore_36 : decode cX9_restore 36 = .ok (.invokevirtual 161, 3) := by decide +kernel
theorem dX9_restore_39 : decode cX9_restore 39 = .ok (.ireturn, 1) := by decide +kernel
theorem dX9_count_0 : decode cX9_count 0 = .ok (.iload_n 1, 1) := by decide +kernel
theorem dX9_count_1 : decode cX9_count 1 = .ok (.tableswitch 131 0 8 #[51, 59, 67, 75, 86, 94, 107, 115, 123], 51) := by decide +kernel
theorem dX9_count_52 : decode cX9_count 52 = .ok (.aload_n 0, 1) := by decide +kernel
theorem dX9_count_53 : decode cX9_count 53 = .ok (.getfield 10, 3) := by decide +kernel
theorem dX9_count_56 : decode cX9_count 56 = .ok (.invokevirtual 352, 3) := by decide +kernel
theorem dX9_count_59 : decode cX9_count 59 = .ok (.ireturn, 1) := by decide +kernel
theorem dX9_count_60 : decode cX9_count 60 = .ok (.aload_n 0, 1) := by decide +kernel
theorem dX9_count_61 : decode cX9_count 61 = .ok (.getfield 10, 3) := by decide +kernel
theorem dX9_count_64 : decode cX9_count 64 = .ok (.invokevirtual 355, 3) := by decide +kernel
theorem dX9_count_67 : decode cX9_count 67 = .ok (.ireturn, 1) := by decide +kernel
theorem dX9_count_68 : decode cX9_count 68 = .ok (.aload_n 0, 1) := by decide +kernel
theorem dX9_count_69 : decode cX9_count 69 = .ok (.getfield 10, 3) := by decide +kernel
theorem dX9_count_72 : decode cX9_count 72 = .ok (.invokevirtual 161, 3) := by decide +kernel
theorem dX9_count_75 : decode cX9_count 75 = .ok (.ireturn, 1) := by decide +kernel
theorem dX9_count_76 : decode cX9_count 76 = .ok (.aload_n 0, 1) := by decide +kernel
theorem dX9_count_77 : decode cX9_count 77 = .ok (.getfield 10, 3) := by decide +kernel
theorem dX9_count_80 : decode cX9_count 80 = .ok (.invokevirtual 259, 3) := by decide +kernel
theorem dX9_count_83 : decode cX9_count 83 = .ok (.invokestatic 190, 3) := by decide +kernel
theorem dX9_count_86 : decode cX9_count 86 = .ok (.ireturn, 1) := by decide +kernel
theorem dX9_count_87 : decode cX9_count 87 = .ok (.aload_n 0, 1) := by decide +kernel
theorem dX9_count_88 : decode cX9_count 88 = .ok (.getfield 10, 3) := by decide +kernel
theorem dX9_count_91 : decode cX9_count 91 = .ok (.invokevirtual 358, 3) := by decide +kernel
theorem dX9_count_94 : decode cX9_count 94 = .ok (.ireturn, 1) := by decide +kernel
theorem dX9_count_95 : decode cX9_count 95 = .ok (.aload_n 0, 1) := by decide +kernel
theorem dX9_count_96 : decode cX9_count 96 = .ok (.getfield 75, 3) := by decide +kernel
theorem dX9_count_99 : decode cX9_count 99 = .ok (.aload_n 0, 1) := by decide +kernel
theorem dX9_count_100 : decode cX9_count 100 = .ok (.getfield 10, 3) := by decide +kernel
theorem dX9_count_103 : decode cX9_count 103 = .ok (.iconst 0, 1) := by decide +kernel
theorem dX9_count_104 : decode cX9_count 104 = .ok (.invokevirtual 361, 3) := by decide +kernel
theorem dX9_count_107 : decode cX9_count 107 = .ok (.ireturn, 1) := by decide +kernel
theorem dX9_count_108 : decode cX9_count 108 = .ok (.aload_n 0, 1) := by decide +kernel
theorem dX9_count_109 : decode cX9_count 109 = .ok (.getfield 29, 3) := by decide +kernel
theorem dX9_count_112 : decode cX9_count 112 = .ok (.invokevirtual 364, 3) := by decide +kernel
theorem dX9_count_115 : decode cX9_count 115 = .ok (.ireturn, 1) := by decide +kernel
theorem dX9_count_116 : decode cX9_count 116 = .ok (.aload_n 0, 1) := by decide +kernel
theorem dX9_count_117 : decode cX9_count 117 = .ok (.getfield 36, 3) := by decide +kernel
theorem dX9_count_120 : decode cX9_count 120 = .ok (.invokevirtual 365, 3) := by decide +kernel
theorem dX9_count_123 : decode cX9_count 123 = .ok (.ireturn, 1) := by decide +kernel
theorem dX9_count_124 : decode cX9_count 124 = .ok (.aload_n 0, 1) := by decide +kernel
theorem dX9_count_125 : decode cX9_count 125 = .ok (.getfield 22, 3) := by decide +kernel
theorem dX9_count_128 : decode cX9_count 128 = .ok (.invokevirtual 168, 3) := by decide +kernel
theorem dX9_count_131 : decode cX9_count 131 = .ok (.ireturn, 1) := by decide +kernel
theorem dX9_count_132 : decode cX9_count 132 = .ok (.iload_n 1, 1) := by decide +kernel
theorem dX9_count_133 : decode cX9_count 133 = .ok (.bipush 11, 2) := by decide +kernel
theorem dX9_count_135 : decode cX9_count 135 = .ok (.if_icmp .lt 23, 3) := by decide +kernel
theorem dX9_count_138 : decode cX9_count 138 = .ok (.iload_n 1, 1) := by decide +kernel
theorem dX9_count_139 : decode cX9_count 139 = .ok (.bipush 16, 2) := by decide +kernel
theorem dX9_count_141 : decode cX9_count 141 = .ok (.if_icmp .gt 17, 3) := by decide +kernel
theorem dX9_count_144 : decode cX9_count 144 = .ok (.aload_n 0, 1) := by decide +kernel
theorem dX9_count_145 : decode cX9_count 145 = .ok (.getfield 40, 3) := by decide +kernel
theorem dX9_count_148 : decode cX9_count 148 = .ok (.iload_n 1, 1) := by decide +kernel
theorem dX9_count_149 : decode cX9_count 149 = .ok (.bipush 10, 2) := by decide +kernel
theorem dX9_count_151 : decode cX9_count 151 = .ok (.isub, 1) := by decide +kernel
theorem dX9_count_152 : decode cX9_count 152 = .ok (.invokestatic 366, 3) := by decide +kernel
theorem dX9_count_155 : decode cX9_count 155 = .ok (.goto 5, 3) := by decide +kernel
theorem dX9_count_158 : decode cX9_count 158 = .ok (.bipush (-9), 2) := by decide +kernel
theorem dX9_count_160 : decode cX9_count 160 = .ok (.ireturn, 1) := by decide +kernel
theorem dX9_refuse_0 : decode cX9_refuse 0 = .ok (.aload_n 0, 1) := by decide +kernel
theorem dX9_refuse_1 : decode cX9_refuse 1 = .ok (.getfield 40, 3) := by decide +kernel
theorem dX9_refuse_4 : decode cX9_refuse 4 = .ok (.iload_n 1, 1) := by decide +kernel
theorem dX9_refuse_5 : decode cX9_refuse 5 = .ok (.ineg, 1) := by decide +kernel
theorem dX9_refuse_6 : decode cX9_refuse 6 = .ok (.aload_n 0, 1) := by decide +kernel
theorem dX9_refuse_7 : decode cX9_refuse 7 = .ok (.getfield 40, 3) := by decide +kernel
theorem dX9_refuse_10 : decode cX9_refuse 10 = .ok (.iload_n 1, 1) := by decide +kernel
theorem dX9_refuse_11 : decode cX9_refuse 11 = .ok (.ineg, 1) := by decide +kernel
theorem dX9_refuse_12 : decode cX9_refuse 12 = .ok (.invokestatic 366, 3) := by decide +kernel
theorem dX9_refuse_15 : decode cX9_refuse 15 = .ok (.iconst 1, 1) := by decide +kernel
theorem dX9_refuse_16 : decode cX9_refuse 16 = .ok (.iadd, 1) := by decide +kernel
theorem dX9_refuse_17 : decode cX9_refuse 17 = .ok (.invokestatic 370, 3) := by decide +kernel
theorem dX9_refuse_20 : decode cX9_refuse 20 = .ok (.iload_n 1, 1) := by decide +kernel
theorem dX9_refuse_21 : decode cX9_refuse 21 = .ok (.ireturn, 1) := by decide +kernel
theorem dX9_refuseLong_0 : decode cX9_refuseLong 0 = .ok (.ldc2_w 373, 3) := by decide +kernel
theorem dX9_refuseLong_3 : decode cX9_refuseLong 3 = .ok (.aload_n 0, 1) := by decide +kernel
theorem dX9_refuseLong_4 : decode cX9_refuseLong 4 = .ok (.iload_n 1, 1) := by decide +kernel
theorem dX9_refuseLong_5 : decode cX9_refuseLong 5 = .ok (.invokevirtual 79, 3) := by decide +kernel
theorem dX9_refuseLong_8 : decode cX9_refuseLong 8 = .ok (.i2l, 1) := by decide +kernel
theorem dX9_refuseLong_9 : decode cX9_refuseLong 9 = .ok (.lsub, 1) := by decide +kernel
theorem dX9_refuseLong_10 : decode cX9_refuseLong 10 = .ok (.lreturn, 1) := by decide +kernel
theorem dX9_goThrough_0 : decode cX9_goThrough 0 = .ok (.aload_n 0, 1) := by decide +kernel
theorem dX9_goThrough_1 : decode cX9_goThrough 1 = .ok (.getfield 47, 3) := by decide +kernel
theorem dX9_goThrough_4 : decode cX9_goThrough 4 = .ok (.aload_n 0, 1) := by decide +kernel
theorem dX9_goThrough_5 : decode cX9_goThrough 5 = .ok (.getfield 10, 3) := by decide +kernel
theorem dX9_goThrough_8 : decode cX9_goThrough 8 = .ok (.aload_n 0, 1) := by decide +kernel
theorem dX9_goThrough_9 : decode cX9_goThrough 9 = .ok (.getfield 10, 3) := by decide +kernel
theorem dX9_goThrough_12 : decode cX9_goThrough 12 = .ok (.iload_n 1, 1) := by decide +kernel
theorem dX9_goThrough_13 : decode cX9_goThrough 13 = .ok (.invokevirtual 122, 3) := by decide +kernel
theorem dX9_goThrough_16 : decode cX9_goThrough 16 = .ok (.iconst 0, 1) := by decide +kernel
theorem dX9_goThrough_17 : decode cX9_goThrough 17 = .ok (.invokevirtual 201, 3) := by decide +kernel
theorem dX9_goThrough_20 : decode cX9_goThrough 20 = .ok (.pop, 1) := by decide +kernel
theorem dX9_goThrough_21 : decode cX9_goThrough 21 = .ok (.return_, 1) := by decide +kernel
theorem dX9_isNot0or1_0 : decode cX9_isNot0or1 0 = .ok (.iload_n 0, 1) := by decide +kernel
theorem dX9_isNot0or1_1 : decode cX9_isNot0or1 1 = .ok (.ifCond .lt 8, 3) := by decide +kernel
theorem dX9_isNot0or1_4 : decode cX9_isNot0or1 4 = .ok (.iload_n 0, 1) := by decide +kernel
theorem dX9_isNot0or1_5 : decode cX9_isNot0or1 5 = .ok (.iconst 1, 1) := by decide +kernel
theorem dX9_isNot0or1_6 : decode cX9_isNot0or1 6 = .ok (.if_icmp .le 7, 3) := by decide +kernel
theorem dX9_isNot0or1_9 : decode cX9_isNot0or1 9 = .ok (.iconst 1, 1) := by decide +kernel
theorem dX9_isNot0or1_10 : decode cX9_isNot0or1 10 = .ok (.goto 4, 3) := by decide +kernel
theorem dX9_isNot0or1_13 : decode cX9_isNot0or1 13 = .ok (.iconst 0, 1) := by decide +kernel
theorem dX9_isNot0or1_14 : decode cX9_isNot0or1 14 = .ok (.ireturn, 1) := by decide +kernel
theorem dX9_isThing_0 : decode cX9_isThing 0 = .ok (.iload_n 0, 1) := by decide +kernel
theorem dX9_isThing_1 : decode cX9_isThing 1 = .ok (.ifCond .lt 13, 3) := by decide +kernel
theorem dX9_isThing_4 : decode cX9_isThing 4 = .ok (.iload_n 0, 1) := by decide +kernel
theorem dX9_isThing_5 : decode cX9_isThing 5 = .ok (.bipush 8, 2) := by decide +kernel
theorem dX9_isThing_7 : decode cX9_isThing 7 = .ok (.if_icmp .ge 7, 3) := by decide +kernel
theorem dX9_isThing_10 : decode cX9_isThing 10 = .ok (.iconst 1, 1) := by decide +kernel
theorem dX9_isThing_11 : decode cX9_isThing 11 = .ok (.goto 4, 3) := by decide +kernel
theorem dX9_isThing_14 : decode cX9_isThing 14 = .ok (.iconst 0, 1) := by decide +kernel
theorem dX9_isThing_15 : decode cX9_isThing 15 = .ok (.ireturn, 1) := by decide +kernel
theorem dX9_thingBit_0 : decode cX9_thingBit 0 = .ok (.iload_n 0, 1) := by decide +kernel
theorem dX9_thingBit_1 : decode cX9_thingBit 1 = .ok (.ifCond .lt 15, 3) := by decide +kernel
theorem dX9_thingBit_4 : decode cX9_thingBit 4 = .ok (.iload_n 0, 1) := by decide +kernel
theorem dX9_thingBit_5 : decode cX9_thingBit 5 = .ok (.bipush 8, 2) := by decide +kernel
theorem dX9_thingBit_7 : decode cX9_thingBit 7 = .ok (.if_icmp .ge 9, 3) := by decide +kernel
theorem dX9_thingBit_10 : decode cX9_thingBit 10 = .ok (.iconst 1, 1) := by decide +kernel
theorem dX9_thingBit_11 : decode cX9_thingBit 11 = .ok (.iload_n 0, 1) := by decide +kernel
theorem dX9_thingBit_12 : decode cX9_thingBit 12 = .ok (.ishl, 1) := by decide +kernel
theorem dX9_thingBit_13 : decode cX9_thingBit 13 = .ok (.goto 4, 3) := by decide +kernel
theorem dX9_thingBit_16 : decode cX9_thingBit 16 = .ok (.iconst 0, 1) := by decide +kernel
theorem dX9_thingBit_17 : decode cX9_thingBit 17 = .ok (.ireturn, 1) := by decide +kernel
theorem dX9_hasThing_0 : decode cX9_hasThing 0 = .ok (.iload_n 1, 1) := by decide +kernel
theorem dX9_hasThing_1 : decode cX9_hasThing 1 = .ok (.ifCond .lt 21, 3) := by decide +kernel
theorem dX9_hasThing_4 : decode cX9_hasThing 4 = .ok (.iload_n 1, 1) := by decide +kernel
theorem dX9_hasThing_5 : decode cX9_hasThing 5 = .ok (.bipush 8, 2) := by decide +kernel
theorem dX9_hasThing_7 : decode cX9_hasThing 7 = .ok (.if_icmp .ge 15, 3) := by decide +kernel
theorem dX9_hasThing_10 : decode cX9_hasThing 10 = .ok (.iload_n 0, 1) := by decide +kernel
theorem dX9_hasThing_11 : decode cX9_hasThing 11 = .ok (.iconst 1, 1) := by decide +kernel
theorem dX9_hasThing_12 : decode cX9_hasThing 12 = .ok (.iload_n 1, 1) := by decide +kernel
theorem dX9_hasThing_13 : decode cX9_hasThing 13 = .ok (.ishl, 1) := by decide +kernel
theorem dX9_hasThing_14 : decode cX9_hasThing 14 = .ok (.iand, 1) := by decide +kernel
theorem dX9_hasThing_15 : decode cX9_hasThing 15 = .ok (.ifCond .eq 7, 3) := by decide +kernel
theorem dX9_hasThing_18 : decode cX9_hasThing 18 = .ok (.iconst 1, 1) := by decide +kernel
theorem dX9_hasThing_19 : decode cX9_hasThing 19 = .ok (.goto 4, 3) := by decide +kernel
theorem dX9_hasThing_22 : decode cX9_hasThing 22 = .ok (.iconst 0, 1) := by decide +kernel
theorem dX9_hasThing_23 : decode cX9_hasThing 23 = .ok (.ireturn, 1) := by decide +kernel
theorem dX9_isFewer_0 : decode cX9_isFewer 0 = .ok (.iload_n 1, 1) := by decide +kernel
theorem dX9_isFewer_1 : decode cX9_isFewer 1 = .ok (.bipush (-9), 2) := by decide +kernel
theorem dX9_isFewer_3 : decode cX9_isFewer 3 = .ok (.if_icmp .eq 14, 3) := by decide +kernel
theorem dX9_isFewer_6 : decode cX9_isFewer 6 = .ok (.iload_n 0, 1) := by decide +kernel
theorem dX9_isFewer_7 : decode cX9_isFewer 7 = .ok (.invokestatic 190, 3) := by decide +kernel
theorem dX9_isFewer_10 : decode cX9_isFewer 10 = .ok (.iload_n 1, 1) := by decide +kernel
theorem dX9_isFewer_11 : decode cX9_isFewer 11 = .ok (.invokestatic 190, 3) := by decide +kernel
theorem dX9_isFewer_14 : decode cX9_isFewer 14 = .ok (.if_icmp .ge 7, 3) := by decide +kernel
theorem dX9_isFewer_17 : decode cX9_isFewer 17 = .ok (.iconst 1, 1) := by decide +kernel
theorem dX9_isFewer_18 : decode cX9_isFewer 18 = .ok (.goto 4, 3) := by decide +kernel
theorem dX9_isFewer_21 : decode cX9_isFewer 21 = .ok (.iconst 0, 1) := by decide +kernel
theorem dX9_isFewer_22 : decode cX9_isFewer 22 = .ok (.ireturn, 1) := by decide +kernel
theorem dX9_cell_0 : decode cX9_cell 0 = .ok (.aload_n 0, 1) := by decide +kernel
theorem dX9_cell_1 : decode cX9_cell 1 = .ok (.ifnull 19, 3) := by decide +kernel
theorem dX9_cell_4 : decode cX9_cell 4 = .ok (.iload_n 1, 1) := by decide +kernel
theorem dX9_cell_5 : decode cX9_cell 5 = .ok (.ifCond .lt 15, 3) := by decide +kernel
theorem dX9_cell_8 : decode cX9_cell 8 = .ok (.iload_n 1, 1) := by decide +kernel
theorem dX9_cell_9 : decode cX9_cell 9 = .ok (.aload_n 0, 1) := by decide +kernel
theorem dX9_cell_10 : decode cX9_cell 10 = .ok (.arraylength, 1) := by decide +kernel
theorem dX9_cell_11 : decode cX9_cell 11 = .ok (.if_icmp .ge 9, 3) := by decide +kernel
theorem dX9_cell_14 : decode cX9_cell 14 = .ok (.aload_n 0, 1) := by decide +kernel
theorem dX9_cell_15 : decode cX9_cell 15 = .ok (.iload_n 1, 1) := by decide +kernel
theorem dX9_cell_16 : decode cX9_cell 16 = .ok (.iaload, 1) := by decide +kernel
theorem dX9_cell_17 : decode cX9_cell 17 = .ok (.goto 4, 3) := by decide +kernel
theorem dX9_cell_20 : decode cX9_cell 20 = .ok (.iconst 0, 1) := by decide +kernel
theorem dX9_cell_21 : decode cX9_cell 21 = .ok (.ireturn, 1) := by decide +kernel
theorem dX9_put_0 : decode cX9_put 0 = .ok (.aload_n 0, 1) := by decide +kernel
theorem dX9_put_1 : decode cX9_put 1 = .ok (.ifnull 17, 3) := by decide +kernel
theorem dX9_put_4 : decode cX9_put 4 = .ok (.iload_n 1, 1) := by decide +kernel
theorem dX9_put_5 : decode cX9_put 5 = .ok (.ifCond .lt 13, 3) := by decide +kernel
theorem dX9_put_8 : decode cX9_put 8 = .ok (.iload_n 1, 1) := by decide +kernel
theorem dX9_put_9 : decode cX9_put 9 = .ok (.aload_n 0, 1) := by decide +kernel
theorem dX9_put_10 : decode cX9_put 10 = .ok (.arraylength, 1) := by decide +kernel
theorem dX9_put_11 : decode cX9_put 11 = .ok (.if_icmp .ge 7, 3) := by decide +kernel
theorem dX9_put_14 : decode cX9_put 14 = .ok (.aload_n 0, 1) := by decide +kernel
theorem dX9_put_15 : decode cX9_put 15 = .ok (.iload_n 1, 1) := by decide +kernel
theorem dX9_put_16 : decode cX9_put 16 = .ok (.iload_n 2, 1) := by decide +kernel
theorem dX9_put_17 : decode cX9_put 17 = .ok (.iastore, 1) := by decide +kernel
theorem dX9_put_18 : decode cX9_put 18 = .ok (.return_, 1) := by decide +kernel
theorem dX9_copyCells_0 : decode cX9_copyCells 0 = .ok (.aload_n 0, 1) := by decide +kernel
theorem dX9_copyCells_1 : decode cX9_copyCells 1 = .ok (.ifnull 7, 3) := by decide +kernel
theorem dX9_copyCells_4 : decode cX9_copyCells 4 = .ok (.aload_n 1, 1) := by decide +kernel
theorem dX9_copyCells_5 : decode cX9_copyCells 5 = .ok (.ifnonnull 4, 3) := by decide +kernel
theorem dX9_copyCells_8 : decode cX9_copyCells 8 = .ok (.return_, 1) := by decide +kernel
theorem dX9_copyCells_9 : decode cX9_copyCells 9 = .ok (.aload_n 0, 1) := by decide +kernel
theorem dX9_copyCells_10 : decode cX9_copyCells 10 = .ok (.iconst 0, 1) := by decide +kernel
theorem dX9_copyCells_11 : decode cX9_copyCells 11 = .ok (.aload_n 1, 1) := by decide +kernel
theorem dX9_copyCells_12 : decode cX9_copyCells 12 = .ok (.iconst 0, 1) := by decide +kernel
theorem dX9_copyCells_13 : decode cX9_copyCells 13 = .ok (.aload_n 0, 1) := by decide +kernel
theorem dX9_copyCells_14 : decode cX9_copyCells 14 = .ok (.arraylength, 1) := by decide +kernel
theorem dX9_copyCells_15 : decode cX9_copyCells 15 = .ok (.aload_n 1, 1) := by decide +kernel
theorem dX9_copyCells_16 : decode cX9_copyCells 16 = .ok (.arraylength, 1) := by decide +kernel
theorem dX9_copyCells_17 : decode cX9_copyCells 17 = .ok (.invokestatic 375, 3) := by decide +kernel
theorem dX9_copyCells_20 : decode cX9_copyCells 20 = .ok (.invokestatic 380, 3) := by decide +kernel
theorem dX9_copyCells_23 : decode cX9_copyCells 23 = .ok (.return_, 1) := by decide +kernel
theorem dX9_power_0 : decode cX9_power 0 = .ok (.lconst 1, 1) := by decide +kernel
theorem dX9_power_1 : decode cX9_power 1 = .ok (.lstore_n 3, 1) := by decide +kernel
theorem dX9_power_2 : decode cX9_power 2 = .ok (.iconst 0, 1) := by decide +kernel
theorem dX9_power_3 : decode cX9_power 3 = .ok (.istore 5, 2) := by decide +kernel
theorem dX9_power_5 : decode cX9_power 5 = .ok (.iload 5, 2) := by decide +kernel
theorem dX9_power_7 : decode cX9_power 7 = .ok (.iload_n 2, 1) := by decide +kernel
theorem dX9_power_8 : decode cX9_power 8 = .ok (.if_icmp .ge 13, 3) := by decide +kernel
theorem dX9_power_11 : decode cX9_power 11 = .ok (.lload_n 3, 1) := by decide +kernel
theorem dX9_power_12 : decode cX9_power 12 = .ok (.lload_n 0, 1) := by decide +kernel
theorem dX9_power_13 : decode cX9_power 13 = .ok (.lmul, 1) := by decide +kernel
theorem dX9_power_14 : decode cX9_power 14 = .ok (.lstore_n 3, 1) := by decide +kernel
theorem dX9_power_15 : decode cX9_power 15 = .ok (.iinc 5 1, 3) := by decide +kernel
theorem dX9_power_18 : decode cX9_power 18 = .ok (.goto (-13), 3) := by decide +kernel
theorem dX9_power_21 : decode cX9_power 21 = .ok (.lload_n 3, 1) := by decide +kernel
theorem dX9_power_22 : decode cX9_power 22 = .ok (.lreturn, 1) := by decide +kernel
theorem dX9_factorial_0 : decode cX9_factorial 0 = .ok (.lconst 1, 1) := by decide +kernel
theorem dX9_factorial_1 : decode cX9_factorial 1 = .ok (.lstore_n 1, 1) := by decide +kernel
theorem dX9_factorial_2 : decode cX9_factorial 2 = .ok (.iconst 2, 1) := by decide +kernel
theorem dX9_factorial_3 : decode cX9_factorial 3 = .ok (.istore_n 3, 1) := by decide +kernel
theorem dX9_factorial_4 : decode cX9_factorial 4 = .ok (.iload_n 3, 1) := by decide +kernel
theorem dX9_factorial_5 : decode cX9_factorial 5 = .ok (.iload_n 0, 1) := by decide +kernel
theorem dX9_factorial_6 : decode cX9_factorial 6 = .ok (.if_icmp .gt 14, 3) := by decide +kernel
theorem dX9_factorial_9 : decode cX9_factorial 9 = .ok (.lload_n 1, 1) := by decide +kernel
theorem dX9_factorial_10 : decode cX9_factorial 10 = .ok (.iload_n 3, 1) := by decide +kernel
theorem dX9_factorial_11 : decode cX9_factorial 11 = .ok (.i2l, 1) := by decide +kernel
theorem dX9_factorial_12 : decode cX9_factorial 12 = .ok (.lmul, 1) := by decide +kernel
theorem dX9_factorial_13 : decode cX9_factorial 13 = .ok (.lstore_n 1, 1) := by decide +kernel
theorem dX9_factorial_14 : decode cX9_factorial 14 = .ok (.iinc 3 1, 3) := by decide +kernel
theorem dX9_factorial_17 : decode cX9_factorial 17 = .ok (.goto (-13), 3) := by decide +kernel
theorem dX9_factorial_20 : decode cX9_factorial 20 = .ok (.lload_n 1, 1) := by decide +kernel
theorem dX9_factorial_21 : decode cX9_factorial 21 = .ok (.lreturn, 1) := by decide +kernel
theorem dX9_commonDivisor_0 : decode cX9_commonDivisor 0 = .ok (.lload_n 0, 1) := by decide +kernel
theorem dX9_commonDivisor_1 : decode cX9_commonDivisor 1 = .ok (.lstore 4, 2) := by decide +kernel
theorem dX9_commonDivisor_3 : decode cX9_commonDivisor 3 = .ok (.lload_n 2, 1) := by decide +kernel
theorem dX9_commonDivisor_4 : decode cX9_commonDivisor 4 = .ok (.lstore 6, 2) := by decide +kernel
theorem dX9_commonDivisor_6 : decode cX9_commonDivisor 6 = .ok (.iconst 0, 1) := by decide +kernel
theorem dX9_commonDivisor_7 : decode cX9_commonDivisor 7 = .ok (.istore 8, 2) := by decide +kernel
theorem dX9_commonDivisor_9 : decode cX9_commonDivisor 9 = .ok (.iload 8, 2) := by decide +kernel
theorem dX9_commonDivisor_11 : decode cX9_commonDivisor 11 = .ok (.bipush 100, 2) := by decide +kernel
theorem dX9_commonDivisor_13 : decode cX9_commonDivisor 13 = .ok (.if_icmp .ge 31, 3) := by decide +kernel
theorem dX9_commonDivisor_16 : decode cX9_commonDivisor 16 = .ok (.lload 6, 2) := by decide +kernel
theorem dX9_commonDivisor_18 : decode cX9_commonDivisor 18 = .ok (.lconst 0, 1) := by decide +kernel
theorem dX9_commonDivisor_19 : decode cX9_commonDivisor 19 = .ok (.lcmp, 1) := by decide +kernel
theorem dX9_commonDivisor_20 : decode cX9_commonDivisor 20 = .ok (.ifCond .eq 24, 3) := by decide +kernel
theorem dX9_commonDivisor_23 : decode cX9_commonDivisor 23 = .ok (.lload 4, 2) := by decide +kernel
theorem dX9_commonDivisor_25 : decode cX9_commonDivisor 25 = .ok (.lload 6, 2) := by decide +kernel
theorem dX9_commonDivisor_27 : decode cX9_commonDivisor 27 = .ok (.lrem, 1) := by decide +kernel
theorem dX9_commonDivisor_28 : decode cX9_commonDivisor 28 = .ok (.lstore 9, 2) := by decide +kernel
theorem dX9_commonDivisor_30 : decode cX9_commonDivisor 30 = .ok (.lload 6, 2) := by decide +kernel
theorem dX9_commonDivisor_32 : decode cX9_commonDivisor 32 = .ok (.lstore 4, 2) := by decide +kernel
theorem dX9_commonDivisor_34 : decode cX9_commonDivisor 34 = .ok (.lload 9, 2) := by decide +kernel
theorem dX9_commonDivisor_36 : decode cX9_commonDivisor 36 = .ok (.lstore 6, 2) := by decide +kernel
theorem dX9_commonDivisor_38 : decode cX9_commonDivisor 38 = .ok (.iinc 8 1, 3) := by decide +kernel
theorem dX9_commonDivisor_41 : decode cX9_commonDivisor 41 = .ok (.goto (-32), 3) := by decide +kernel
theorem dX9_commonDivisor_44 : decode cX9_commonDivisor 44 = .ok (.lload 4, 2) := by decide +kernel
theorem dX9_commonDivisor_46 : decode cX9_commonDivisor 46 = .ok (.lreturn, 1) := by decide +kernel
theorem dX9_lowest_0 : decode cX9_lowest 0 = .ok (.lload_n 0, 1) := by decide +kernel
theorem dX9_lowest_1 : decode cX9_lowest 1 = .ok (.lconst 0, 1) := by decide +kernel
theorem dX9_lowest_2 : decode cX9_lowest 2 = .ok (.lcmp, 1) := by decide +kernel
theorem dX9_lowest_3 : decode cX9_lowest 3 = .ok (.ifCond .ne 14, 3) := by decide +kernel
theorem dX9_lowest_6 : decode cX9_lowest 6 = .ok (.iload 4, 2) := by decide +kernel
theorem dX9_lowest_8 : decode cX9_lowest 8 = .ok (.ifCond .ne 7, 3) := by decide +kernel
theorem dX9_lowest_11 : decode cX9_lowest 11 = .ok (.lconst 0, 1) := by decide +kernel
theorem dX9_lowest_12 : decode cX9_lowest 12 = .ok (.goto 4, 3) := by decide +kernel
theorem dX9_lowest_15 : decode cX9_lowest 15 = .ok (.lconst 1, 1) := by decide +kernel
theorem dX9_lowest_16 : decode cX9_lowest 16 = .ok (.lreturn, 1) := by decide +kernel
theorem dX9_lowest_17 : decode cX9_lowest 17 = .ok (.lload_n 0, 1) := by decide +kernel
theorem dX9_lowest_18 : decode cX9_lowest 18 = .ok (.invokestatic 386, 3) := by decide +kernel
theorem dX9_lowest_21 : decode cX9_lowest 21 = .ok (.lload_n 2, 1) := by decide +kernel
theorem dX9_lowest_22 : decode cX9_lowest 22 = .ok (.invokestatic 390, 3) := by decide +kernel
theorem dX9_lowest_25 : decode cX9_lowest 25 = .ok (.lstore 5, 2) := by decide +kernel
theorem dX9_lowest_27 : decode cX9_lowest 27 = .ok (.lload 5, 2) := by decide +kernel
theorem dX9_lowest_29 : decode cX9_lowest 29 = .ok (.lconst 0, 1) := by decide +kernel
theorem dX9_lowest_30 : decode cX9_lowest 30 = .ok (.lcmp, 1) := by decide +kernel
theorem dX9_lowest_31 : decode cX9_lowest 31 = .ok (.ifCond .ne 5, 3) := by decide +kernel
theorem dX9_lowest_34 : decode cX9_lowest 34 = .ok (.lconst 0, 1) := by decide +kernel
theorem dX9_lowest_35 : decode cX9_lowest 35 = .ok (.lreturn, 1) := by decide +kernel
theorem dX9_lowest_36 : decode cX9_lowest 36 = .ok (.iload 4, 2) := by decide +kernel
theorem dX9_lowest_38 : decode cX9_lowest 38 = .ok (.ifCond .ne 10, 3) := by decide +kernel
theorem dX9_lowest_41 : decode cX9_lowest 41 = .ok (.lload_n 0, 1) := by decide +kernel
theorem dX9_lowest_42 : decode cX9_lowest 42 = .ok (.lload 5, 2) := by decide +kernel
theorem dX9_lowest_44 : decode cX9_lowest 44 = .ok (.ldiv, 1) := by decide +kernel
theorem dX9_lowest_45 : decode cX9_lowest 45 = .ok (.goto 7, 3) := by decide +kernel
theorem dX9_lowest_48 : decode cX9_lowest 48 = .ok (.lload_n 2, 1) := by decide +kernel
theorem dX9_lowest_49 : decode cX9_lowest 49 = .ok (.lload 5, 2) := by decide +kernel
theorem dX9_lowest_51 : decode cX9_lowest 51 = .ok (.ldiv, 1) := by decide +kernel
theorem dX9_lowest_52 : decode cX9_lowest 52 = .ok (.lreturn, 1) := by decide +kernel
theorem dX10_init_0 : decode cX10_init 0 = .ok (.aload_n 0, 1) := by decide +kernel
theorem dX10_init_1 : decode cX10_init 1 = .ok (.invokespecial 1, 3) := by decide +kernel
theorem dX10_init_4 : decode cX10_init 4 = .ok (.aload_n 0, 1) := by decide +kernel
theorem dX10_init_5 : decode cX10_init 5 = .ok (.bipush 10, 2) := by decide +kernel
theorem dX10_init_7 : decode cX10_init 7 = .ok (.newarray .int, 2) := by decide +kernel
theorem dX10_init_9 : decode cX10_init 9 = .ok (.putfield 7, 3) := by decide +kernel
theorem dX10_init_12 : decode cX10_init 12 = .ok (.aload_n 0, 1) := by decide +kernel
theorem dX10_init_13 : decode cX10_init 13 = .ok (.bipush 10, 2) := by decide +kernel
theorem dX10_init_15 : decode cX10_init 15 = .ok (.newarray .int, 2) := by decide +kernel
theorem dX10_init_17 : decode cX10_init 17 = .ok (.putfield 13, 3) := by decide +kernel
theorem dX10_init_20 : decode cX10_init 20 = .ok (.aload_n 0, 1) := by decide +kernel
theorem dX10_init_21 : decode cX10_init 21 = .ok (.bipush 10, 2) := by decide +kernel
theorem dX10_init_23 : decode cX10_init 23 = .ok (.newarray .int, 2) := by decide +kernel
theorem dX10_init_25 : decode cX10_init 25 = .ok (.putfield 16, 3) := by decide +kernel
theorem dX10_init_28 : decode cX10_init 28 = .ok (.aload_n 0, 1) := by decide +kernel
theorem dX10_init_29 : decode cX10_init 29 = .ok (.bipush 10, 2) := by decide +kernel
theorem dX10_init_31 : decode cX10_init 31 = .ok (.newarray .int, 2) := by decide +kernel
theorem dX10_init_33 : decode cX10_init 33 = .ok (.putfield 19, 3) := by decide +kernel
theorem dX10_init_36 : decode cX10_init 36 = .ok (.aload_n 0, 1) := by decide +kernel
theorem dX10_init_37 : decode cX10_init 37 = .ok (.bipush 6, 2) := by decide +kernel
theorem dX10_init_39 : decode cX10_init 39 = .ok (.newarray .int, 2) := by decide +kernel
theorem dX10_init_41 : decode cX10_init 41 = .ok (.putfield 22, 3) := by decide +kernel
theorem dX10_init_44 : decode cX10_init 44 = .ok (.aload_n 0, 1) := by decide +kernel
theorem dX10_init_45 : decode cX10_init 45 = .ok (.bipush 7, 2) := by decide +kernel
theorem dX10_init_47 : decode cX10_init 47 = .ok (.newarray .int, 2) := by decide +kernel
theorem dX10_init_49 : decode cX10_init 49 = .ok (.putfield 25, 3) := by decide +kernel
theorem dX10_init_52 : decode cX10_init 52 = .ok (.aload_n 0, 1) := by decide +kernel
theorem dX10_init_53 : decode cX10_init 53 = .ok (.iconst (-1), 1) := by decide +kernel
theorem dX10_init_54 : decode cX10_init 54 = .ok (.putfield 28, 3) := by decide +kernel
theorem dX10_init_57 : decode cX10_init 57 = .ok (.aload_n 0, 1) := by decide +kernel
theorem dX10_init_58 : decode cX10_init 58 = .ok (.bipush 12, 2) := by decide +kernel
theorem dX10_init_60 : decode cX10_init 60 = .ok (.newarray .int, 2) := by decide +kernel
theorem dX10_init_62 : decode cX10_init 62 = .ok (.putfield 32, 3) := by decide +kernel
theorem dX10_init_65 : decode cX10_init 65 = .ok (.aload_n 0, 1) := by decide +kernel
theorem dX10_init_66 : decode cX10_init 66 = .ok (.bipush 12, 2) := by decide +kernel
theorem dX10_init_68 : decode cX10_init 68 = .ok (.newarray .int, 2) := by decide +kernel
theorem dX10_init_70 : decode cX10_init 70 = .ok (.putfield 35, 3) := by decide +kernel
theorem dX10_init_73 : decode cX10_init 73 = .ok (.aload_n 0, 1) := by decide +kernel
theorem dX10_init_74 : decode cX10_init 74 = .ok (.bipush 96, 2) := by decide +kernel
theorem dX10_init_76 : decode cX10_init 76 = .ok (.newarray .int, 2) := by decide +kernel
theorem dX10_init_78 : decode cX10_init 78 = .ok (.putfield 38, 3) := by decide +kernel
theorem dX10_init_81 : decode cX10_init 81 = .ok (.aload_n 0, 1) := by decide +kernel
theorem dX10_init_82 : decode cX10_init 82 = .ok (.bipush 49, 2) := by decide +kernel
theorem dX10_init_84 : decode cX10_init 84 = .ok (.newarray .int, 2) := by decide +kernel
theorem dX10_init_86 : decode cX10_init 86 = .ok (.putfield 41, 3) := by decide +kernel
theorem dX10_init_89 : decode cX10_init 89 = .ok (.aload_n 0, 1) := by decide +kernel
theorem dX10_init_90 : decode cX10_init 90 = .ok (.bipush 49, 2) := by decide +kernel
theorem dX10_init_92 : decode cX10_init 92 = .ok (.newarray .int, 2) := by decide +kernel
theorem dX10_init_94 : decode cX10_init 94 = .ok (.putfield 44, 3) := by decide +kernel
theorem dX10_init_97 : decode cX10_init 97 = .ok (.aload_n 0, 1) := by decide +kernel
theorem dX10_init_98 : decode cX10_init 98 = .ok (.sipush 196, 3) := by decide +kernel
theorem dX10_init_101 : decode cX10_init 101 = .ok (.newarray .int, 2) := by decide +kernel
theorem dX10_init_103 : decode cX10_init 103 = .ok (.putfield 47, 3) := by decide +kernel
theorem dX10_init_106 : decode cX10_init 106 = .ok (.aload_n 0, 1) := by decide +kernel
theorem dX10_init_107 : decode cX10_init 107 = .ok (.bipush 50, 2) := by decide +kernel
theorem dX10_init_109 : decode cX10_init 109 = .ok (.newarray .int, 2) := by decide +kernel
theorem dX10_init_111 : decode cX10_init 111 = .ok (.putfield 50, 3) := by decide +kernel
theorem dX10_init_114 : decode cX10_init 114 = .ok (.aload_n 0, 1) := by decide +kernel
theorem dX10_init_115 : decode cX10_init 115 = .ok (.bipush 50, 2) := by decide +kernel
theorem dX10_init_117 : decode cX10_init 117 = .ok (.newarray .int, 2) := by decide +kernel
theorem dX10_init_119 : decode cX10_init 119 = .ok (.putfield 53, 3) := by decide +kernel
theorem dX10_init_122 : decode cX10_init 122 = .ok (.aload_n 0, 1) := by decide +kernel
theorem dX10_init_123 : decode cX10_init 123 = .ok (.sipush 400, 3) := by decide +kernel
theorem dX10_init_126 : decode cX10_init 126 = .ok (.newarray .int, 2) := by decide +kernel
theorem dX10_init_128 : decode cX10_init 128 = .ok (.putfield 56, 3) := by decide +kernel
theorem dX10_init_131 : decode cX10_init 131 = .ok (.aload_n 0, 1) := by decide +kernel
theorem dX10_init_132 : decode cX10_init 132 = .ok (.bipush 50, 2) := by decide +kernel
theorem dX10_init_134 : decode cX10_init 134 = .ok (.newarray .int, 2) := by decide +kernel
theorem dX10_init_136 : decode cX10_init 136 = .ok (.putfield 59, 3) := by decide +kernel
theorem dX10_init_139 : decode cX10_init 139 = .ok (.aload_n 0, 1) := by decide +kernel
theorem dX10_init_140 : decode cX10_init 140 = .ok (.bipush 16, 2) := by decide +kernel
theorem dX10_init_142 : decode cX10_init 142 = .ok (.newarray .int, 2) := by decide +kernel
theorem dX10_init_144 : decode cX10_init 144 = .ok (.putfield 62, 3) := by decide +kernel
theorem dX10_init_147 : decode cX10_init 147 = .ok (.aload_n 0, 1) := by decide +kernel
theorem dX10_init_148 : decode cX10_init 148 = .ok (.sipush 256, 3) := by decide +kernel
theorem dX10_init_151 : decode cX10_init 151 = .ok (.newarray .boolean, 2) := by decide +kernel
theorem dX10_init_153 : decode cX10_init 153 = .ok (.putfield 65, 3) := by decide +kernel
theorem dX10_init_156 : decode cX10_init 156 = .ok (.aload_n 0, 1) := by decide +kernel
theorem dX10_init_157 : decode cX10_init 157 = .ok (.sipush 256, 3) := by decide +kernel
theorem dX10_init_160 : decode cX10_init 160 = .ok (.newarray .int, 2) := by decide +kernel
theorem dX10_init_162 : decode cX10_init 162 = .ok (.putfield 69, 3) := by decide +kernel
theorem dX10_init_165 : decode cX10_init 165 = .ok (.aload_n 0, 1) := by decide +kernel
theorem dX10_init_166 : decode cX10_init 166 = .ok (.sipush 366, 3) := by decide +kernel
theorem dX10_init_169 : decode cX10_init 169 = .ok (.newarray .int, 2) := by decide +kernel
theorem dX10_init_171 : decode cX10_init 171 = .ok (.putfield 72, 3) := by decide +kernel
theorem dX10_init_174 : decode cX10_init 174 = .ok (.aload_n 0, 1) := by decide +kernel
theorem dX10_init_175 : decode cX10_init 175 = .ok (.bipush 12, 2) := by decide +kernel
theorem dX10_init_177 : decode cX10_init 177 = .ok (.newarray .int, 2) := by decide +kernel
theorem dX10_init_179 : decode cX10_init 179 = .ok (.putfield 75, 3) := by decide +kernel
theorem dX10_init_182 : decode cX10_init 182 = .ok (.aload_n 0, 1) := by decide +kernel
theorem dX10_init_183 : decode cX10_init 183 = .ok (.iconst 0, 1) := by decide +kernel
theorem dX10_init_184 : decode cX10_init 184 = .ok (.putfield 78, 3) := by decide +kernel
theorem dX10_init_187 : decode cX10_init 187 = .ok (.return_, 1) := by decide +kernel
theorem dX10_in_0 : decode cX10_in 0 = .ok (.lload_n 0, 1) := by decide +kernel
theorem dX10_in_1 : decode cX10_in 1 = .ok (.lload_n 2, 1) := by decide +kernel
theorem dX10_in_2 : decode cX10_in 2 = .ok (.lcmp, 1) := by decide +kernel
theorem dX10_in_3 : decode cX10_in 3 = .ok (.ifCond .lt 14, 3) := by decide +kernel
theorem dX10_in_6 : decode cX10_in 6 = .ok (.lload_n 0, 1) := by decide +kernel
theorem dX10_in_7 : decode cX10_in 7 = .ok (.lload 4, 2) := by decide +kernel
theorem dX10_in_9 : decode cX10_in 9 = .ok (.lcmp, 1) := by decide +kernel
theorem dX10_in_10 : decode cX10_in 10 = .ok (.ifCond .gt 7, 3) := by decide +kernel
theorem dX10_in_13 : decode cX10_in 13 = .ok (.iconst 1, 1) := by decide +kernel
theorem dX10_in_14 : decode cX10_in 14 = .ok (.goto 4, 3) := by decide +kernel
theorem dX10_in_17 : decode cX10_in 17 = .ok (.iconst 0, 1) := by decide +kernel
theorem dX10_in_18 : decode cX10_in 18 = .ok (.ireturn, 1) := by decide +kernel
theorem dX10_refuse_0 : decode cX10_refuse 0 = .ok (.aload_n 0, 1) := by decide +kernel
theorem dX10_refuse_1 : decode cX10_refuse 1 = .ok (.getfield 25, 3) := by decide +kernel
theorem dX10_refuse_4 : decode cX10_refuse 4 = .ok (.iload_n 1, 1) := by decide +kernel
theorem dX10_refuse_5 : decode cX10_refuse 5 = .ok (.ineg, 1) := by decide +kernel
theorem dX10_refuse_6 : decode cX10_refuse 6 = .ok (.dup2, 1) := by decide +kernel
theorem dX10_refuse_7 : decode cX10_refuse 7 = .ok (.iaload, 1) := by decide +kernel
theorem dX10_refuse_8 : decode cX10_refuse 8 = .ok (.iconst 1, 1) := by decide +kernel
theorem dX10_refuse_9 : decode cX10_refuse 9 = .ok (.iadd, 1) := by decide +kernel
theorem dX10_refuse_10 : decode cX10_refuse 10 = .ok (.iastore, 1) := by decide +kernel
theorem dX10_refuse_11 : decode cX10_refuse 11 = .ok (.iload_n 1, 1) := by decide +kernel
theorem dX10_refuse_12 : decode cX10_refuse 12 = .ok (.ireturn, 1) := by decide +kernel
theorem dX10_isOne_0 : decode cX10_isOne 0 = .ok (.iload_n 1, 1) := by decide +kernel
theorem dX10_isOne_1 : decode cX10_isOne 1 = .ok (.i2l, 1) := by decide +kernel
theorem dX10_isOne_2 : decode cX10_isOne 2 = .ok (.lconst 0, 1) := by decide +kernel
theorem dX10_isOne_3 : decode cX10_isOne 3 = .ok (.aload_n 0, 1) := by decide +kernel
theorem dX10_isOne_4 : decode cX10_isOne 4 = .ok (.getfield 81, 3) := by decide +kernel
theorem dX10_isOne_7 : decode cX10_isOne 7 = .ok (.iconst 1, 1) := by decide +kernel
theorem dX10_isOne_8 : decode cX10_isOne 8 = .ok (.isub, 1) := by decide +kernel
theorem dX10_isOne_9 : decode cX10_isOne 9 = .ok (.i2l, 1) := by decide +kernel
theorem dX10_isOne_10 : decode cX10_isOne 10 = .ok (.invokestatic 84, 3) := by decide +kernel
theorem dX10_isOne_13 : decode cX10_isOne 13 = .ok (.ireturn, 1) := by decide +kernel
theorem dX10_isLaw_0 : decode cX10_isLaw 0 = .ok (.iload_n 1, 1) := by decide +kernel
theorem dX10_isLaw_1 : decode cX10_isLaw 1 = .ok (.i2l, 1) := by decide +kernel
theorem dX10_isLaw_2 : decode cX10_isLaw 2 = .ok (.lconst 0, 1) := by decide +kernel
theorem dX10_isLaw_3 : decode cX10_isLaw 3 = .ok (.aload_n 0, 1) := by decide +kernel
theorem dX10_isLaw_4 : decode cX10_isLaw 4 = .ok (.getfield 88, 3) := by decide +kernel
theorem dX10_isLaw_7 : decode cX10_isLaw 7 = .ok (.iconst 1, 1) := by decide +kernel
theorem dX10_isLaw_8 : decode cX10_isLaw 8 = .ok (.isub, 1) := by decide +kernel
theorem dX10_isLaw_9 : decode cX10_isLaw 9 = .ok (.i2l, 1) := by decide +kernel
theorem dX10_isLaw_10 : decode cX10_isLaw 10 = .ok (.invokestatic 84, 3) := by decide +kernel
theorem dX10_isLaw_13 : decode cX10_isLaw 13 = .ok (.ireturn, 1) := by decide +kernel
theorem dX10_isThing_0 : decode cX10_isThing 0 = .ok (.iload_n 0, 1) := by decide +kernel
theorem dX10_isThing_1 : decode cX10_isThing 1 = .ok (.i2l, 1) := by decide +kernel
theorem dX10_isThing_2 : decode cX10_isThing 2 = .ok (.lconst 0, 1) := by decide +kernel
theorem dX10_isThing_3 : decode cX10_isThing 3 = .ok (.ldc2_w 91, 3) := by decide +kernel
theorem dX10_isThing_6 : decode cX10_isThing 6 = .ok (.invokestatic 84, 3) := by decide +kernel
theorem dX10_isThing_9 : decode cX10_isThing 9 = .ok (.ireturn, 1) := by decide +kernel
theorem dX10_wrongNumber_0 : decode cX10_wrongNumber 0 = .ok (.iload_n 0, 1) := by decide +kernel
theorem dX10_wrongNumber_1 : decode cX10_wrongNumber 1 = .ok (.iload_n 1, 1) := by decide +kernel
theorem dX10_wrongNumber_2 : decode cX10_wrongNumber 2 = .ok (.if_icmp .ge 8, 3) := by decide +kernel
theorem dX10_wrongNumber_5 : decode cX10_wrongNumber 5 = .ok (.bipush (-4), 2) := by decide +kernel
theorem dX10_wrongNumber_7 : decode cX10_wrongNumber 7 = .ok (.goto 14, 3) := by decide +kernel
theorem dX10_wrongNumber_10 : decode cX10_wrongNumber 10 = .ok (.iload_n 0, 1) := by decide +kernel
theorem dX10_wrongNumber_11 : decode cX10_wrongNumber 11 = .ok (.iload_n 2, 1) := by decide +kernel
theorem dX10_wrongNumber_12 : decode cX10_wrongNumber 12 = .ok (.if_icmp .le 8, 3) := by decide +kernel
theorem dX10_wrongNumber_15 : decode cX10_wrongNumber 15 = .ok (.bipush (-6), 2) := by decide +kernel
theorem dX10_wrongNumber_17 : decode cX10_wrongNumber 17 = .ok (.goto 4, 3) := by decide +kernel
theorem dX10_wrongNumber_20 : decode cX10_wrongNumber 20 = .ok (.iconst 0, 1) := by decide +kernel
theorem dX10_wrongNumber_21 : decode cX10_wrongNumber 21 = .ok (.ireturn, 1) := by decide +kernel
theorem dX10_wrongBit_0 : decode cX10_wrongBit 0 = .ok (.iload_n 0, 1) := by decide +kernel
theorem dX10_wrongBit_1 : decode cX10_wrongBit 1 = .ok (.ifCond .ne 19, 3) := by decide +kernel
theorem dX10_wrongBit_4 : decode cX10_wrongBit 4 = .ok (.iload_n 1, 1) := by decide +kernel
theorem dX10_wrongBit_5 : decode cX10_wrongBit 5 = .ok (.i2l, 1) := by decide +kernel
theorem dX10_wrongBit_6 : decode cX10_wrongBit 6 = .ok (.lconst 0, 1) := by decide +kernel
theorem dX10_wrongBit_7 : decode cX10_wrongBit 7 = .ok (.iload_n 2, 1) := by decide +kernel
theorem dX10_wrongBit_8 : decode cX10_wrongBit 8 = .ok (.i2l, 1) := by decide +kernel
theorem dX10_wrongBit_9 : decode cX10_wrongBit 9 = .ok (.invokestatic 84, 3) := by decide +kernel
theorem dX10_wrongBit_12 : decode cX10_wrongBit 12 = .ok (.ifCond .ne 8, 3) := by decide +kernel
theorem dX10_wrongBit_15 : decode cX10_wrongBit 15 = .ok (.bipush (-2), 2) := by decide +kernel
theorem dX10_wrongBit_17 : decode cX10_wrongBit 17 = .ok (.goto 4, 3) := by decide +kernel
theorem dX10_wrongBit_20 : decode cX10_wrongBit 20 = .ok (.iload_n 0, 1) := by decide +kernel
theorem dX10_wrongBit_21 : decode cX10_wrongBit 21 = .ok (.ireturn, 1) := by decide +kernel
theorem dX10_hasBit_0 : decode cX10_hasBit 0 = .ok (.iload_n 0, 1) := by decide +kernel
theorem dX10_hasBit_1 : decode cX10_hasBit 1 = .ok (.iload_n 1, 1) := by decide +kernel
theorem dX10_hasBit_2 : decode cX10_hasBit 2 = .ok (.ishr, 1) := by decide +kernel
theorem dX10_hasBit_3 : decode cX10_hasBit 3 = .ok (.iconst 1, 1) := by decide +kernel
theorem dX10_hasBit_4 : decode cX10_hasBit 4 = .ok (.iand, 1) := by decide +kernel
theorem dX10_hasBit_5 : decode cX10_hasBit 5 = .ok (.iconst 1, 1) := by decide +kernel
theorem dX10_hasBit_6 : decode cX10_hasBit 6 = .ok (.if_icmp .ne 7, 3) := by decide +kernel
theorem dX10_hasBit_9 : decode cX10_hasBit 9 = .ok (.iconst 1, 1) := by decide +kernel
theorem dX10_hasBit_10 : decode cX10_hasBit 10 = .ok (.goto 4, 3) := by decide +kernel
theorem dX10_hasBit_13 : decode cX10_hasBit 13 = .ok (.iconst 0, 1) := by decide +kernel
theorem dX10_hasBit_14 : decode cX10_hasBit 14 = .ok (.ireturn, 1) := by decide +kernel
theorem dX10_onesOf_0 : decode cX10_onesOf 0 = .ok (.iconst 0, 1) := by decide +kernel
theorem dX10_onesOf_1 : decode cX10_onesOf 1 = .ok (.istore_n 1, 1) := by decide +kernel
theorem dX10_onesOf_2 : decode cX10_onesOf 2 = .ok (.iload_n 0, 1) := by decide +kernel
theorem dX10_onesOf_3 : decode cX10_onesOf 3 = .ok (.istore_n 2, 1) := by decide +kernel
theorem dX10_onesOf_4 : decode cX10_onesOf 4 = .ok (.iload_n 2, 1) := by decide +kernel
theorem dX10_onesOf_5 : decode cX10_onesOf 5 = .ok (.ifCond .eq 15, 3) := by decide +kernel
theorem dX10_onesOf_8 : decode cX10_onesOf 8 = .ok (.iinc 1 1, 3) := by decide +kernel
theorem dX10_onesOf_11 : decode cX10_onesOf 11 = .ok (.iload_n 2, 1) := by decide +kernel
theorem dX10_onesOf_12 : decode cX10_onesOf 12 = .ok (.iload_n 2, 1) := by decide +kernel
theorem dX10_onesOf_13 : decode cX10_onesOf 13 = .ok (.iconst 1, 1) := by decide +kernel
theorem dX10_onesOf_14 : decode cX10_onesOf 14 = .ok (.isub, 1) := by decide +kernel
theorem dX10_onesOf_15 : decode cX10_onesOf 15 = .ok (.iand, 1) := by decide +kernel
theorem dX10_onesOf_16 : decode cX10_onesOf 16 = .ok (.istore_n 2, 1) := by decide +kernel
theorem dX10_onesOf_17 : decode cX10_onesOf 17 = .ok (.goto (-13), 3) := by decide +kernel
theorem dX10_onesOf_20 : decode cX10_onesOf 20 = .ok (.iload_n 1, 1) := by decide +kernel
theorem dX10_onesOf_21 : decode cX10_onesOf 21 = .ok (.ireturn, 1) := by decide +kernel
theorem dX10_holdsIn_0 : decode cX10_holdsIn 0 = .ok (.iload_n 3, 1) := by decide +kernel
theorem dX10_holdsIn_1 : decode cX10_holdsIn 1 = .ok (.aload_n 0, 1) := by decide +kernel
theorem dX10_holdsIn_2 : decode cX10_holdsIn 2 = .ok (.getfield 16, 3) := by decide +kernel
theorem dX10_holdsIn_5 : decode cX10_holdsIn 5 = .ok (.iload_n 1, 1) := by decide +kernel
theorem dX10_holdsIn_6 : decode cX10_holdsIn 6 = .ok (.iaload, 1) := by decide +kernel
theorem dX10_holdsIn_7 : decode cX10_holdsIn 7 = .ok (.invokestatic 93, 3) := by decide +kernel
theorem dX10_holdsIn_10 : decode cX10_holdsIn 10 = .ok (.istore 4, 2) := by decide +kernel
theorem dX10_holdsIn_12 : decode cX10_holdsIn 12 = .ok (.iload_n 2, 1) := by decide +kernel
theorem dX10_holdsIn_13 : decode cX10_holdsIn 13 = .ok (.aload_n 0, 1) := by decide +kernel
theorem dX10_holdsIn_14 : decode cX10_holdsIn 14 = .ok (.getfield 13, 3) := by decide +kernel
theorem dX10_holdsIn_17 : decode cX10_holdsIn 17 = .ok (.iload_n 1, 1) := by decide +kernel
theorem dX10_holdsIn_18 : decode cX10_holdsIn 18 = .ok (.iaload, 1) := by decide +kernel
theorem dX10_holdsIn_19 : decode cX10_holdsIn 19 = .ok (.if_icmp .lt 11, 3) := by decide +kernel
theorem dX10_holdsIn_22 : decode cX10_holdsIn 22 = .ok (.iload_n 1, 1) := by decide +kernel
theorem dX10_holdsIn_23 : decode cX10_holdsIn 23 = .ok (.aload_n 0, 1) := by decide +kernel
theorem dX10_holdsIn_24 : decode cX10_holdsIn 24 = .ok (.getfield 28, 3) := by decide +kernel
theorem dX10_holdsIn_27 : decode cX10_holdsIn 27 = .ok (.if_icmp .ne 5, 3) := by decide +kernel
theorem dX10_holdsIn_30 : decode cX10_holdsIn 30 = .ok (.iconst 0, 1) := by decide +kernel
theorem dX10_holdsIn_31 : decode cX10_holdsIn 31 = .ok (.ireturn, 1) := by decide +kernel
theorem dX10_holdsIn_32 : decode cX10_holdsIn 32 = .ok (.aload_n 0, 1) := by decide +kernel
theorem dX10_holdsIn_33 : decode cX10_holdsIn 33 = .ok (.getfield 7, 3) := by decide +kernel
theorem dX10_holdsIn_36 : decode cX10_holdsIn 36 = .ok (.iload_n 1, 1) := by decide +kernel
theorem dX10_holdsIn_37 : decode cX10_holdsIn 37 = .ok (.iaload, 1) := by decide +kernel
theorem dX10_holdsIn_38 : decode cX10_holdsIn 38 = .ok (.tableswitch 113 2 5 #[30, 54, 65, 82], 30) := by decide +kernel
theorem dX10_holdsIn_68 : decode cX10_holdsIn 68 = .ok (.iload 4, 2) := by decide +kernel
theorem dX10_holdsIn_70 : decode cX10_holdsIn 70 = .ok (.ifCond .ne 16, 3) := by decide +kernel
theorem dX10_holdsIn_73 : decode cX10_holdsIn 73 = .ok (.iload_n 3, 1) := by decide +kernel
theorem dX10_holdsIn_74 : decode cX10_holdsIn 74 = .ok (.aload_n 0, 1) := by decide +kernel
theorem dX10_holdsIn_75 : decode cX10_holdsIn 75 = .ok (.getfield 19, 3) := by decide +kernel
theorem dX10_holdsIn_78 : decode cX10_holdsIn 78 = .ok (.iload_n 1, 1) := by decide +kernel
theorem dX10_holdsIn_79 : decode cX10_holdsIn 79 = .ok (.iaload, 1) := by decide +kernel
theorem dX10_holdsIn_80 : decode cX10_holdsIn 80 = .ok (.invokestatic 93, 3) := by decide +kernel
theorem dX10_holdsIn_83 : decode cX10_holdsIn 83 = .ok (.ifCond .eq 7, 3) := by decide +kernel
theorem dX10_holdsIn_86 : decode cX10_holdsIn 86 = .ok (.iconst 1, 1) := by decide +kernel
theorem dX10_holdsIn_87 : decode cX10_holdsIn 87 = .ok (.goto 4, 3) := by decide +kernel
theorem dX10_holdsIn_90 : decode cX10_holdsIn 90 = .ok (.iconst 0, 1) := by decide +kernel
theorem dX10_holdsIn_91 : decode cX10_holdsIn 91 = .ok (.ireturn, 1) := by decide +kernel
theorem dX10_holdsIn_92 : decode cX10_holdsIn 92 = .ok (.iload 4, 2) := by decide +kernel
theorem dX10_holdsIn_94 : decode cX10_holdsIn 94 = .ok (.ifCond .ne 7, 3) := by decide +kernel
theorem dX10_holdsIn_97 : decode cX10_holdsIn 97 = .ok (.iconst 1, 1) := by decide +kernel
theorem dX10_holdsIn_98 : decode cX10_holdsIn 98 = .ok (.goto 4, 3) := by decide +kernel
theorem dX10_holdsIn_101 : decode cX10_holdsIn 101 = .ok (.iconst 0, 1) := by decide +kernel
theorem dX10_holdsIn_102 : decode cX10_holdsIn 102 = .ok (.ireturn, 1) := by decide +kernel
theorem dX10_holdsIn_103 : decode cX10_holdsIn 103 = .ok (.iload 4, 2) := by decide +kernel
theorem dX10_holdsIn_105 : decode cX10_holdsIn 105 = .ok (.ifCond .eq 13, 3) := by decide +kernel
theorem dX10_holdsIn_108 : decode cX10_holdsIn 108 = .ok (.iload_n 2, 1) := by decide +kernel
theorem dX10_holdsIn_109 : decode cX10_holdsIn 109 = .ok (.iconst 2, 1) := by decide +kernel
theorem dX10_holdsIn_110 : decode cX10_holdsIn 110 = .ok (.irem, 1) := by decide +kernel
theorem dX10_holdsIn_111 : decode cX10_holdsIn 111 = .ok (.ifCond .ne 7, 3) := by decide +kernel
theorem dX10_holdsIn_114 : decode cX10_holdsIn 114 = .ok (.iconst 1, 1) := by decide +kernel
theorem dX10_holdsIn_115 : decode cX10_holdsIn 115 = .ok (.goto 4, 3) := by decide +kernel
theorem dX10_holdsIn_118 : decode cX10_holdsIn 118 = .ok (.iconst 0, 1) := by decide +kernel
theorem dX10_holdsIn_119 : decode cX10_holdsIn 119 = .ok (.ireturn, 1) := by decide +kernel
theorem dX10_holdsIn_120 : decode cX10_holdsIn 120 = .ok (.iload 4, 2) := by decide +kernel
theorem dX10_holdsIn_122 : decode cX10_holdsIn 122 = .ok (.ifCond .ne 16, 3) := by decide +kernel
theorem dX10_holdsIn_125 : decode cX10_holdsIn 125 = .ok (.iload_n 3, 1) := by decide +kernel
theorem dX10_holdsIn_126 : decode cX10_holdsIn 126 = .ok (.aload_n 0, 1) := by decide +kernel
theorem dX10_holdsIn_127 : decode cX10_holdsIn 127 = .ok (.getfield 19, 3) := by decide +kernel
theorem dX10_holdsIn_130 : decode cX10_holdsIn 130 = .ok (.iload_n 1, 1) := by decide +kernel
theorem dX10_holdsIn_131 : decode cX10_holdsIn 131 = .ok (.iaload, 1) := by decide +kernel
theorem dX10_holdsIn_132 : decode cX10_holdsIn 132 = .ok (.invokestatic 93, 3) := by decide +kernel
theorem dX10_holdsIn_135 : decode cX10_holdsIn 135 = .ok (.ifCond .eq 14, 3) := by decide +kernel
theorem dX10_holdsIn_138 : decode cX10_holdsIn 138 = .ok (.aload_n 0, 1) := by decide +kernel
theorem dX10_holdsIn_139 : decode cX10_holdsIn 139 = .ok (.getfield 97, 3) := by decide +kernel
theorem dX10_holdsIn_142 : decode cX10_holdsIn 142 = .ok (.ifCond .eq 7, 3) := by decide +kernel
theorem dX10_holdsIn_145 : decode cX10_holdsIn 145 = .ok (.iconst 1, 1) := by decide +kernel
theorem dX10_holdsIn_146 : decode cX10_holdsIn 146 = .ok (.goto 4, 3) := by decide +kernel
theorem dX10_holdsIn_149 : decode cX10_holdsIn 149 = .ok (.iconst 0, 1) := by decide +kernel
theorem dX10_holdsIn_150 : decode cX10_holdsIn 150 = .ok (.ireturn, 1) := by decide +kernel
theorem dX10_holdsIn_151 : decode cX10_holdsIn 151 = .ok (.iload 4, 2) := by decide +kernel
theorem dX10_holdsIn_153 : decode cX10_holdsIn 153 = .ok (.ireturn, 1) := by decide +kernel
theorem dX10_behindLaw_0 : decode cX10_behindLaw 0 = .ok (.iconst 1, 1) := by decide +kernel
theorem dX10_behindLaw_1 : decode cX10_behindLaw 1 = .ok (.aload_n 0, 1) := by decide +kernel
theorem dX10_behindLaw_2 : decode cX10_behindLaw 2 = .ok (.getfield 16, 3) := by decide +kernel
theorem dX10_behindLaw_5 : decode cX10_behindLaw 5 = .ok (.iload_n 1, 1) := by decide +kernel
theorem dX10_behindLaw_6 : decode cX10_behindLaw 6 = .ok (.iaload, 1) := by decide +kernel
theorem dX10_behindLaw_7 : decode cX10_behindLaw 7 = .ok (.ishl, 1) := by decide +kernel
theorem dX10_behindLaw_8 : decode cX10_behindLaw 8 = .ok (.istore_n 3, 1) := by decide +kernel
theorem dX10_behindLaw_9 : decode cX10_behindLaw 9 = .ok (.iconst 1, 1) := by decide +kernel
theorem dX10_behindLaw_10 : decode cX10_behindLaw 10 = .ok (.aload_n 0, 1) := by decide +kernel
theorem dX10_behindLaw_11 : decode cX10_behindLaw 11 = .ok (.getfield 19, 3) := by decide +kernel
theorem dX10_behindLaw_14 : decode cX10_behindLaw 14 = .ok (.iload_n 1, 1) := by decide +kernel
theorem dX10_behindLaw_15 : decode cX10_behindLaw 15 = .ok (.iaload, 1) := by decide +kernel
theorem dX10_behindLaw_16 : decode cX10_behindLaw 16 = .ok (.ishl, 1) := by decide +kernel
theorem dX10_behindLaw_17 : decode cX10_behindLaw 17 = .ok (.istore 4, 2) := by decide +kernel
theorem dX10_behindLaw_19 : decode cX10_behindLaw 19 = .ok (.aload_n 0, 1) := by decide +kernel
theorem dX10_behindLaw_20 : decode cX10_behindLaw 20 = .ok (.getfield 7, 3) := by decide +kernel
theorem dX10_behindLaw_23 : decode cX10_behindLaw 23 = .ok (.iload_n 1, 1) := by decide +kernel
theorem dX10_behindLaw_24 : decode cX10_behindLaw 24 = .ok (.iaload, 1) := by decide +kernel
theorem dX10_behindLaw_25 : decode cX10_behindLaw 25 = .ok (.tableswitch 126 0 5 #[39, 126, 48, 126, 88, 119], 39) := by decide +kernel
theorem dX10_behindLaw_64 : decode cX10_behindLaw 64 = .ok (.iload_n 2, 1) := by decide +kernel
theorem dX10_behindLaw_65 : decode cX10_behindLaw 65 = .ok (.iload_n 3, 1) := by decide +kernel
theorem dX10_behindLaw_66 : decode cX10_behindLaw 66 = .ok (.iconst (-1), 1) := by decide +kernel
theorem dX10_behindLaw_67 : decode cX10_behindLaw 67 = .ok (.ixor, 1) := by decide +kernel
theorem dX10_behindLaw_68 : decode cX10_behindLaw 68 = .ok (.iand, 1) := by decide +kernel
theorem dX10_behindLaw_69 : decode cX10_behindLaw 69 = .ok (.iload 4, 2) := by decide +kernel
theorem dX10_behindLaw_71 : decode cX10_behindLaw 71 = .ok (.ior, 1) := by decide +kernel
theorem dX10_behindLaw_72 : decode cX10_behindLaw 72 = .ok (.ireturn, 1) := by decide +kernel
theorem dX10_behindLaw_73 : decode cX10_behindLaw 73 = .ok (.iload_n 2, 1) := by decide +kernel
theorem dX10_behindLaw_74 : decode cX10_behindLaw 74 = .ok (.iload_n 3, 1) := by decide +kernel
theorem dX10_behindLaw_75 : decode cX10_behindLaw 75 = .ok (.iand, 1) := by decide +kernel
theorem dX10_behindLaw_76 : decode cX10_behindLaw 76 = .ok (.ifCond .ne 12, 3) := by decide +kernel
theorem dX10_behindLaw_79 : decode cX10_behindLaw 79 = .ok (.iload_n 2, 1) := by decide +kernel
theorem dX10_behindLaw_80 : decode cX10_behindLaw 80 = .ok (.iload 4, 2) := by decide +kernel
theorem dX10_behindLaw_82 : decode cX10_behindLaw 82 = .ok (.iconst (-1), 1) := by decide +kernel
theorem dX10_behindLaw_83 : decode cX10_behindLaw 83 = .ok (.ixor, 1) := by decide +kernel
theorem dX10_behindLaw_84 : decode cX10_behindLaw 84 = .ok (.iand, 1) := by decide +kernel
theorem dX10_behindLaw_85 : decode cX10_behindLaw 85 = .ok (.iload_n 3, 1) := by decide +kernel
theorem dX10_behindLaw_86 : decode cX10_behindLaw 86 = .ok (.ior, 1) := by decide +kernel
theorem dX10_behindLaw_87 : decode cX10_behindLaw 87 = .ok (.ireturn, 1) := by decide +kernel
theorem dX10_behindLaw_88 : decode cX10_behindLaw 88 = .ok (.iload_n 2, 1) := by decide +kernel
theorem dX10_behindLaw_89 : decode cX10_behindLaw 89 = .ok (.iload 4, 2) := by decide +kernel
theorem dX10_behindLaw_91 : decode cX10_behindLaw 91 = .ok (.iand, 1) := by decide +kernel
theorem dX10_behindLaw_92 : decode cX10_behindLaw 92 = .ok (.ifCond .ne 14, 3) := by decide +kernel
theorem dX10_behindLaw_95 : decode cX10_behindLaw 95 = .ok (.iload_n 2, 1) := by decide +kernel
theorem dX10_behindLaw_96 : decode cX10_behindLaw 96 = .ok (.iload_n 3, 1) := by decide +kernel
theorem dX10_behindLaw_97 : decode cX10_behindLaw 97 = .ok (.iconst (-1), 1) := by decide +kernel
theorem dX10_behindLaw_98 : decode cX10_behindLaw 98 = .ok (.ixor, 1) := by decide +kernel
theorem dX10_behindLaw_99 : decode cX10_behindLaw 99 = .ok (.iand, 1) := by decide +kernel
theorem dX10_behindLaw_100 : decode cX10_behindLaw 100 = .ok (.iload 4, 2) := by decide +kernel
theorem dX10_behindLaw_102 : decode cX10_behindLaw 102 = .ok (.ior, 1) := by decide +kernel
theorem dX10_behindLaw_103 : decode cX10_behindLaw 103 = .ok (.goto 9, 3) := by decide +kernel
theorem dX10_behindLaw_106 : decode cX10_behindLaw 106 = .ok (.iload_n 2, 1) := by decide +kernel
theorem dX10_behindLaw_107 : decode cX10_behindLaw 107 = .ok (.iload 4, 2) := by decide +kernel
theorem dX10_behindLaw_109 : decode cX10_behindLaw 109 = .ok (.iconst (-1), 1) := by decide +kernel
theorem dX10_behindLaw_110 : decode cX10_behindLaw 110 = .ok (.ixor, 1) := by decide +kernel
theorem dX10_behindLaw_111 : decode cX10_behindLaw 111 = .ok (.iand, 1) := by decide +kernel
theorem dX10_behindLaw_112 : decode cX10_behindLaw 112 = .ok (.ireturn, 1) := by decide +kernel
theorem dX10_behindLaw_113 : decode cX10_behindLaw 113 = .ok (.iload_n 2, 1) := by decide +kernel
theorem dX10_behindLaw_114 : decode cX10_behindLaw 114 = .ok (.iload 4, 2) := by decide +kernel
theorem dX10_behindLaw_116 : decode cX10_behindLaw 116 = .ok (.ior, 1) := by decide +kernel
theorem dX10_behindLaw_117 : decode cX10_behindLaw 117 = .ok (.aload_n 0, 1) := by decide +kernel
theorem dX10_behindLaw_118 : decode cX10_behindLaw 118 = .ok (.getfield 13, 3) := by decide +kernel
theorem dX10_behindLaw_121 : decode cX10_behindLaw 121 = .ok (.iload_n 1, 1) := by decide +kernel
theorem dX10_behindLaw_122 : decode cX10_behindLaw 122 = .ok (.iaload, 1) := by decide +kernel
theorem dX10_behindLaw_123 : decode cX10_behindLaw 123 = .ok (.bipush 8, 2) := by decide +kernel
theorem dX10_behindLaw_125 : decode cX10_behindLaw 125 = .ok (.if_icmp .ge 14, 3) := by decide +kernel
theorem dX10_behindLaw_128 : decode cX10_behindLaw 128 = .ok (.iconst 1, 1) := by decide +kernel
theorem dX10_behindLaw_129 : decode cX10_behindLaw 129 = .ok (.aload_n 0, 1) := by decide +kernel
theorem dX10_behindLaw_130 : decode cX10_behindLaw 130 = .ok (.getfield 13, 3) := by decide +kernel
theorem dX10_behindLaw_133 : decode cX10_behindLaw 133 = .ok (.iload_n 1, 1) := by decide +kernel
theorem dX10_behindLaw_134 : decode cX10_behindLaw 134 = .ok (.iaload, 1) := by decide +kernel
theorem dX10_behindLaw_135 : decode cX10_behindLaw 135 = .ok (.ishl, 1) := by decide +kernel
theorem dX10_behindLaw_136 : decode cX10_behindLaw 136 = .ok (.goto 4, 3) := by decide +kernel
theorem dX10_behindLaw_139 : decode cX10_behindLaw 139 = .ok (.iconst 0, 1) := by decide +kernel
theorem dX10_behindLaw_140 : decode cX10_behindLaw 140 = .ok (.iconst (-1), 1) := by decide +kernel
theorem dX10_behindLaw_141 : decode cX10_behindLaw 141 = .ok (.ixor, 1) := by decide +kernel
theorem dX10_behindLaw_142 : decode cX10_behindLaw 142 = .ok (.iand, 1) := by decide +kernel
theorem dX10_behindLaw_143 : decode cX10_behindLaw 143 = .ok (.ireturn, 1) := by decide +kernel
theorem dX10_behindLaw_144 : decode cX10_behindLaw 144 = .ok (.iload_n 2, 1) := by decide +kernel
theorem dX10_behindLaw_145 : decode cX10_behindLaw 145 = .ok (.aload_n 0, 1) := by decide +kernel
theorem dX10_behindLaw_146 : decode cX10_behindLaw 146 = .ok (.getfield 97, 3) := by decide +kernel
theorem dX10_behindLaw_149 : decode cX10_behindLaw 149 = .ok (.ior, 1) := by decide +kernel
theorem dX10_behindLaw_150 : decode cX10_behindLaw 150 = .ok (.ireturn, 1) := by decide +kernel
theorem dX10_behindLaw_151 : decode cX10_behindLaw 151 = .ok (.iload_n 2, 1) := by decide +kernel
theorem dX10_behindLaw_152 : decode cX10_behindLaw 152 = .ok (.iload 4, 2) := by decide +kernel
theorem dX10_behindLaw_154 : decode cX10_behindLaw 154 = .ok (.ior, 1) := by decide +kernel
theorem dX10_behindLaw_155 : decode cX10_behindLaw 155 = .ok (.ireturn, 1) := by decide +kernel
theorem dX10_goDay_0 : decode cX10_goDay 0 = .ok (.iload_n 1, 1) := by decide +kernel
theorem dX10_goDay_1 : decode cX10_goDay 1 = .ok (.istore_n 2, 1) := by decide +kernel
theorem dX10_goDay_2 : decode cX10_goDay 2 = .ok (.iconst 0, 1) := by decide +kernel
theorem dX10_goDay_3 : decode cX10_goDay 3 = .ok (.istore_n 3, 1) := by decide +kernel
theorem dX10_goDay_4 : decode cX10_goDay 4 = .ok (.iconst 0, 1) := by decide +kernel
theorem dX10_goDay_5 : decode cX10_goDay 5 = .ok (.istore 4, 2) := by decide +kernel
theorem dX10_goDay_7 : decode cX10_goDay 7 = .ok (.iload 4, 2) := by decide +kernel
theorem dX10_goDay_9 : decode cX10_goDay 9 = .ok (.bipush 12, 2) := by decide +kernel
theorem dX10_goDay_11 : decode cX10_goDay 11 = .ok (.if_icmp .ge 99, 3) := by decide +kernel
theorem dX10_goDay_14 : decode cX10_goDay 14 = .ok (.bipush (-9), 2) := by decide +kernel
theorem dX10_goDay_16 : decode cX10_goDay 16 = .ok (.istore 5, 2) := by decide +kernel
theorem dX10_goDay_18 : decode cX10_goDay 18 = .ok (.aload_n 0, 1) := by decide +kernel
theorem dX10_goDay_19 : decode cX10_goDay 19 = .ok (.getfield 88, 3) := by decide +kernel
theorem dX10_goDay_22 : decode cX10_goDay 22 = .ok (.iconst 1, 1) := by decide +kernel
theorem dX10_goDay_23 : decode cX10_goDay 23 = .ok (.isub, 1) := by decide +kernel
theorem dX10_goDay_24 : decode cX10_goDay 24 = .ok (.istore 6, 2) := by decide +kernel
theorem dX10_goDay_26 : decode cX10_goDay 26 = .ok (.iload 6, 2) := by decide +kernel
theorem dX10_goDay_28 : decode cX10_goDay 28 = .ok (.ifCond .lt 39, 3) := by decide +kernel
theorem dX10_goDay_31 : decode cX10_goDay 31 = .ok (.iload_n 3, 1) := by decide +kernel
theorem dX10_goDay_32 : decode cX10_goDay 32 = .ok (.iload 6, 2) := by decide +kernel
theorem dX10_goDay_34 : decode cX10_goDay 34 = .ok (.invokestatic 93, 3) := by decide +kernel
theorem dX10_goDay_37 : decode cX10_goDay 37 = .ok (.ifCond .ne 20, 3) := by decide +kernel
theorem dX10_goDay_40 : decode cX10_goDay 40 = .ok (.aload_n 0, 1) := by decide +kernel
theorem dX10_goDay_41 : decode cX10_goDay 41 = .ok (.iload 6, 2) := by decide +kernel
theorem dX10_goDay_43 : decode cX10_goDay 43 = .ok (.iload 4, 2) := by decide +kernel
theorem dX10_goDay_45 : decode cX10_goDay 45 = .ok (.iload_n 2, 1) := by decide +kernel
theorem dX10_goDay_46 : decode cX10_goDay 46 = .ok (.invokevirtual 100, 3) := by decide +kernel
theorem dX10_goDay_49 : decode cX10_goDay 49 = .ok (.ifCond .eq 8, 3) := by decide +kernel
theorem dX10_goDay_52 : decode cX10_goDay 52 = .ok (.iload 6, 2) := by decide +kernel
theorem dX10_goDay_54 : decode cX10_goDay 54 = .ok (.goto 5, 3) := by decide +kernel
theorem dX10_goDay_57 : decode cX10_goDay 57 = .ok (.iload 5, 2) := by decide +kernel
theorem dX10_goDay_59 : decode cX10_goDay 59 = .ok (.istore 5, 2) := by decide +kernel
theorem dX10_goDay_61 : decode cX10_goDay 61 = .ok (.iinc 6 (-1), 3) := by decide +kernel
theorem dX10_goDay_64 : decode cX10_goDay 64 = .ok (.goto (-38), 3) := by decide +kernel
theorem dX10_goDay_67 : decode cX10_goDay 67 = .ok (.iload 5, 2) := by decide +kernel
theorem dX10_goDay_69 : decode cX10_goDay 69 = .ok (.ifCond .lt 18, 3) := by decide +kernel
theorem dX10_goDay_72 : decode cX10_goDay 72 = .ok (.aload_n 0, 1) := by decide +kernel
theorem dX10_goDay_73 : decode cX10_goDay 73 = .ok (.iload 5, 2) := by decide +kernel
theorem dX10_goDay_75 : decode cX10_goDay 75 = .ok (.iload_n 2, 1) := by decide +kernel
theorem dX10_goDay_76 : decode cX10_goDay 76 = .ok (.invokevirtual 104, 3) := by decide +kernel
theorem dX10_goDay_79 : decode cX10_goDay 79 = .ok (.istore_n 2, 1) := by decide +kernel
theorem dX10_goDay_80 : decode cX10_goDay 80 = .ok (.iload_n 3, 1) := by decide +kernel
theorem dX10_goDay_81 : decode cX10_goDay 81 = .ok (.iconst 1, 1) := by decide +kernel
theorem dX10_goDay_82 : decode cX10_goDay 82 = .ok (.iload 5, 2) := by decide +kernel
theorem dX10_goDay_84 : decode cX10_goDay 84 = .ok (.ishl, 1) := by decide +kernel
theorem dX10_goDay_85 : decode cX10_goDay 85 = .ok (.ior, 1) := by decide +kernel
theorem dX10_goDay_86 : decode cX10_goDay 86 = .ok (.istore_n 3, 1) := by decide +kernel
theorem dX10_goDay_87 : decode cX10_goDay 87 = .ok (.aload_n 0, 1) := by decide +kernel
theorem dX10_goDay_88 : decode cX10_goDay 88 = .ok (.getfield 32, 3) := by decide +kernel
theorem dX10_goDay_91 : decode cX10_goDay 91 = .ok (.iload 4, 2) := by decide +kernel
theorem dX10_goDay_93 : decode cX10_goDay 93 = .ok (.iload 5, 2) := by decide +kernel
theorem dX10_goDay_95 : decode cX10_goDay 95 = .ok (.iastore, 1) := by decide +kernel
theorem dX10_goDay_96 : decode cX10_goDay 96 = .ok (.aload_n 0, 1) := by decide +kernel
theorem dX10_goDay_97 : decode cX10_goDay 97 = .ok (.getfield 35, 3) := by decide +kernel
theorem dX10_goDay_100 : decode cX10_goDay 100 = .ok (.iload 4, 2) := by decide +kernel
theorem dX10_goDay_102 : decode cX10_goDay 102 = .ok (.iload_n 2, 1) := by decide +kernel
theorem dX10_goDay_103 : decode cX10_goDay 103 = .ok (.iastore, 1) := by decide +kernel
theorem dX10_goDay_104 : decode cX10_goDay 104 = .ok (.iinc 4 1, 3) := by decide +kernel
theorem dX10_goDay_107 : decode cX10_goDay 107 = .ok (.goto (-100), 3) := by decide +kernel
theorem dX10_goDay_110 : decode cX10_goDay 110 = .ok (.iload_n 3, 1) := by decide +kernel
theorem dX10_goDay_111 : decode cX10_goDay 111 = .ok (.ireturn, 1) := by decide +kernel
theorem dX10_doneBy_0 : decode cX10_doneBy 0 = .ok (.aload_n 0, 1) := by decide +kernel
theorem dX10_doneBy_1 : decode cX10_doneBy 1 = .ok (.aload_n 0, 1) := by decide +kernel
theorem dX10_doneBy_2 : decode cX10_doneBy 2 = .ok (.getfield 22, 3) := by decide +kernel
theorem dX10_doneBy_5 : decode cX10_doneBy 5 = .ok (.iload_n 1, 1) := by decide +kernel
theorem dX10_doneBy_6 : decode cX10_doneBy 6 = .ok (.iaload, 1) := by decide +kernel
theorem dX10_doneBy_7 : decode cX10_doneBy 7 = .ok (.invokevirtual 108, 3) := by decide +kernel
theorem dX10_doneBy_10 : decode cX10_doneBy 10 = .ok (.ireturn, 1) := by decide +kernel
theorem dX10_manyBy_0 : decode cX10_manyBy 0 = .ok (.aload_n 0, 1) := by decide +kernel
theorem dX10_manyBy_1 : decode cX10_manyBy 1 = .ok (.iload_n 1, 1) := by decide +kernel
theorem dX10_manyBy_2 : decode cX10_manyBy 2 = .ok (.invokevirtual 108, 3) := by decide +kernel
theorem dX10_manyBy_5 : decode cX10_manyBy 5 = .ok (.invokestatic 112, 3) := by decide +kernel
theorem dX10_manyBy_8 : decode cX10_manyBy 8 = .ok (.ireturn, 1) := by decide +kernel
theorem dX10_allDone_0 : decode cX10_allDone 0 = .ok (.iconst 0, 1) := by decide +kernel
theorem dX10_allDone_1 : decode cX10_allDone 1 = .ok (.istore_n 1, 1) := by decide +kernel
theorem dX10_allDone_2 : decode cX10_allDone 2 = .ok (.iconst 0, 1) := by decide +kernel
theorem dX10_allDone_3 : decode cX10_allDone 3 = .ok (.istore_n 2, 1) := by decide +kernel
theorem dX10_allDone_4 : decode cX10_allDone 4 = .ok (.iload_n 2, 1) := by decide +kernel
theorem dX10_allDone_5 : decode cX10_allDone 5 = .ok (.aload_n 0, 1) := by decide +kernel
theorem dX10_allDone_6 : decode cX10_allDone 6 = .ok (.getfield 81, 3) := by decide +kernel
theorem dX10_allDone_9 : decode cX10_allDone 9 = .ok (.if_icmp .ge 20, 3) := by decide +kernel
theorem dX10_allDone_12 : decode cX10_allDone 12 = .ok (.iload_n 1, 1) := by decide +kernel
theorem dX10_allDone_13 : decode cX10_allDone 13 = .ok (.aload_n 0, 1) := by decide +kernel
theorem dX10_allDone_14 : decode cX10_allDone 14 = .ok (.iload_n 2, 1) := by decide +kernel
theorem dX10_allDone_15 : decode cX10_allDone 15 = .ok (.invokevirtual 115, 3) := by decide +kernel
theorem dX10_allDone_18 : decode cX10_allDone 18 = .ok (.invokestatic 112, 3) := by decide +kernel
theorem dX10_allDone_21 : decode cX10_allDone 21 = .ok (.iadd, 1) := by decide +kernel
theorem dX10_allDone_22 : decode cX10_allDone 22 = .ok (.istore_n 1, 1) := by decide +kernel
theorem dX10_allDone_23 : decode cX10_allDone 23 = .ok (.iinc 2 1, 3) := by decide +kernel
theorem dX10_allDone_26 : decode cX10_allDone 26 = .ok (.goto (-22), 3) := by decide +kernel
theorem dX10_allDone_29 : decode cX10_allDone 29 = .ok (.iload_n 1, 1) := by decide +kernel
theorem dX10_allDone_30 : decode cX10_allDone 30 = .ok (.ireturn, 1) := by decide +kernel
theorem dX10_dayPasses_0 : decode cX10_dayPasses 0 = .ok (.iconst 0, 1) := by decide +kernel
theorem dX10_dayPasses_1 : decode cX10_dayPasses 1 = .ok (.istore_n 1, 1) := by decide +kernel
theorem dX10_dayPasses_2 : decode cX10_dayPasses 2 = .ok (.iconst 0, 1) := by decide +kernel
theorem dX10_dayPasses_3 : decode cX10_dayPasses 3 = .ok (.istore_n 2, 1) := by decide +kernel
theorem dX10_dayPasses_4 : decode cX10_dayPasses 4 = .ok (.iload_n 2, 1) := by decide +kernel
theorem dX10_dayPasses_5 : decode cX10_dayPasses 5 = .ok (.aload_n 0, 1) := by decide +kernel
theorem dX10_dayPasses_6 : decode cX10_dayPasses 6 = .ok (.getfield 81, 3) := by decide +kernel
theorem dX10_dayPasses_9 : decode cX10_dayPasses 9 = .ok (.if_icmp .ge 33, 3) := by decide +kernel
theorem dX10_dayPasses_12 : decode cX10_dayPasses 12 = .ok (.iload_n 1, 1) := by decide +kernel
theorem dX10_dayPasses_13 : decode cX10_dayPasses 13 = .ok (.aload_n 0, 1) := by decide +kernel
theorem dX10_dayPasses_14 : decode cX10_dayPasses 14 = .ok (.iload_n 2, 1) := by decide +kernel
theorem dX10_dayPasses_15 : decode cX10_dayPasses 15 = .ok (.invokevirtual 115, 3) := by decide +kernel
theorem dX10_dayPasses_18 : decode cX10_dayPasses 18 = .ok (.invokestatic 112, 3) := by decide +kernel
theorem dX10_dayPasses_21 : decode cX10_dayPasses 21 = .ok (.iadd, 1) := by decide +kernel
theorem dX10_dayPasses_22 : decode cX10_dayPasses 22 = .ok (.istore_n 1, 1) := by decide +kernel
theorem dX10_dayPasses_23 : decode cX10_dayPasses 23 = .ok (.aload_n 0, 1) := by decide +kernel
theorem dX10_dayPasses_24 : decode cX10_dayPasses 24 = .ok (.getfield 22, 3) := by decide +kernel
theorem dX10_dayPasses_27 : decode cX10_dayPasses 27 = .ok (.iload_n 2, 1) := by decide +kernel
theorem dX10_dayPasses_28 : decode cX10_dayPasses 28 = .ok (.aload_n 0, 1) := by decide +kernel
theorem dX10_dayPasses_29 : decode cX10_dayPasses 29 = .ok (.getfield 35, 3) := by decide +kernel
theorem dX10_dayPasses_32 : decode cX10_dayPasses 32 = .ok (.bipush 11, 2) := by decide +kernel
theorem dX10_dayPasses_34 : decode cX10_dayPasses 34 = .ok (.iaload, 1) := by decide +kernel
theorem dX10_dayPasses_35 : decode cX10_dayPasses 35 = .ok (.iastore, 1) := by decide +kernel
theorem dX10_dayPasses_36 : decode cX10_dayPasses 36 = .ok (.iinc 2 1, 3) := by decide +kernel
theorem dX10_dayPasses_39 : decode cX10_dayPasses 39 = .ok (.goto (-35), 3) := by decide +kernel
theorem dX10_dayPasses_42 : decode cX10_dayPasses 42 = .ok (.aload_n 0, 1) := by decide +kernel
theorem dX10_dayPasses_43 : decode cX10_dayPasses 43 = .ok (.dup, 1) := by decide +kernel
theorem dX10_dayPasses_44 : decode cX10_dayPasses 44 = .ok (.getfield 118, 3) := by decide +kernel
theorem dX10_dayPasses_47 : decode cX10_dayPasses 47 = .ok (.iconst 1, 1) := by decide +kernel
theorem dX10_dayPasses_48 : decode cX10_dayPasses 48 = .ok (.iadd, 1) := by decide +kernel
theorem dX10_dayPasses_49 : decode cX10_dayPasses 49 = .ok (.putfield 118, 3) := by decide +kernel
theorem dX10_dayPasses_52 : decode cX10_dayPasses 52 = .ok (.iload_n 1, 1) := by decide +kernel
theorem dX10_dayPasses_53 : decode cX10_dayPasses 53 = .ok (.ireturn, 1) := by decide +kernel
theorem dX10_takeOut_0 : decode cX10_takeOut 0 = .ok (.aload_n 0, 1) := by decide +kernel
theorem dX10_takeOut_1 : decode cX10_takeOut 1 = .ok (.getfield 22, 3) := by decide +kernel
theorem dX10_takeOut_4 : decode cX10_takeOut 4 = .ok (.iload_n 1, 1) := by decide +kernel
theorem dX10_takeOut_5 : decode cX10_takeOut 5 = .ok (.dup2, 1) := by decide +kernel
theorem dX10_takeOut_6 : decode cX10_takeOut 6 = .ok (.iaload, 1) := by decide +kernel
theorem dX10_takeOut_7 : decode cX10_takeOut 7 = .ok (.iconst 1, 1) := by decide +kernel
theorem dX10_takeOut_8 : decode cX10_takeOut 8 = .ok (.iload_n 2, 1) := by decide +kernel
theorem dX10_takeOut_9 : decode cX10_takeOut 9 = .ok (.ishl, 1) := by decide +kernel
theorem dX10_takeOut_10 : decode cX10_takeOut 10 = .ok (.iconst (-1), 1) := by decide +kernel
theorem dX10_takeOut_11 : decode cX10_takeOut 11 = .ok (.ixor, 1) := by decide +kernel
theorem dX10_takeOut_12 : decode cX10_takeOut 12 = .ok (.iand, 1) := by decide +kernel
theorem dX10_takeOut_13 : decode cX10_takeOut 13 = .ok (.iastore, 1) := by decide +kernel
theorem dX10_takeOut_14 : decode cX10_takeOut 14 = .ok (.aload_n 0, 1) := by decide +kernel
theorem dX10_takeOut_15 : decode cX10_takeOut 15 = .ok (.dup, 1) := by decide +kernel
theorem dX10_takeOut_16 : decode cX10_takeOut 16 = .ok (.getfield 97, 3) := by decide +kernel
theorem dX10_takeOut_19 : decode cX10_takeOut 19 = .ok (.iconst 1, 1) := by decide +kernel
theorem dX10_takeOut_20 : decode cX10_takeOut 20 = .ok (.iload_n 2, 1) := by decide +kernel
theorem dX10_takeOut_21 : decode cX10_takeOut 21 = .ok (.ishl, 1) := by decide +kernel
theorem dX10_takeOut_22 : decode cX10_takeOut 22 = .ok (.ior, 1) := by decide +kernel
theorem dX10_takeOut_23 : decode cX10_takeOut 23 = .ok (.putfield 97, 3) := by decide +kernel
theorem dX10_takeOut_26 : decode cX10_takeOut 26 = .ok (.return_, 1) := by decide +kernel
theorem dX10_bringIn_0 : decode cX10_bringIn 0 = .ok (.aload_n 0, 1) := by decide +kernel
theorem dX10_bringIn_1 : decode cX10_bringIn 1 = .ok (.getfield 22, 3) := by decide +kernel
theorem dX10_bringIn_4 : decode cX10_bringIn 4 = .ok (.iload_n 1, 1) := by decide +kernel
theorem dX10_bringIn_5 : decode cX10_bringIn 5 = .ok (.dup2, 1) := by decide +kernel
theorem dX10_bringIn_6 : decode cX10_bringIn 6 = .ok (.iaload, 1) := by decide +kernel
theorem dX10_bringIn_7 : decode cX10_bringIn 7 = .ok (.iconst 1, 1) := by decide +kernel
theorem dX10_bringIn_8 : decode cX10_bringIn 8 = .ok (.iload_n 2, 1) := by decide +kernel
theorem dX10_bringIn_9 : decode cX10_bringIn 9 = .ok (.ishl, 1) := by decide +kernel
theorem dX10_bringIn_10 : decode cX10_bringIn 10 = .ok (.ior, 1) := by decide +kernel
theorem dX10_bringIn_11 : decode cX10_bringIn 11 = .ok (.iastore, 1) := by decide +kernel
theorem dX10_bringIn_12 : decode cX10_bringIn 12 = .ok (.aload_n 0, 1) := by decide +kernel
theorem dX10_bringIn_13 : decode cX10_bringIn 13 = .ok (.dup, 1) := by decide +kernel
theorem dX10_bringIn_14 : decode cX10_bringIn 14 = .ok (.getfield 97, 3) := by decide +kernel
theorem dX10_bringIn_17 : decode cX10_bringIn 17 = .ok (.iconst 1, 1) := by decide +kernel
theorem dX10_bringIn_18 : decode cX10_bringIn 18 = .ok (.iload_n 2, 1) := by decide +kernel
theorem dX10_bringIn_19 : decode cX10_bringIn 19 = .ok (.ishl, 1) := by decide +kernel
theorem dX10_bringIn_20 : decode cX10_bringIn 20 = .ok (.iconst (-1), 1) := by decide +kernel
theorem dX10_bringIn_21 : decode cX10_bringIn 21 = .ok (.ixor, 1) := by decide +kernel
theorem dX10_bringIn_22 : decode cX10_bringIn 22 = .ok (.iand, 1) := by decide +kernel
theorem dX10_bringIn_23 : decode cX10_bringIn 23 = .ok (.putfield 97, 3) := by decide +kernel
theorem dX10_bringIn_26 : decode cX10_bringIn 26 = .ok (.return_, 1) := by decide +kernel
theorem dX10_feed_0 : decode cX10_feed 0 = .ok (.aload_n 0, 1) := by decide +kernel
theorem dX10_feed_1 : decode cX10_feed 1 = .ok (.iconst 0, 1) := by decide +kernel
theorem dX10_feed_2 : decode cX10_feed 2 = .ok (.putfield 78, 3) := by decide +kernel
theorem dX10_feed_5 : decode cX10_feed 5 = .ok (.iload_n 1, 1) := by decide +kernel
theorem dX10_feed_6 : decode cX10_feed 6 = .ok (.ifCond .ge 10, 3) := by decide +kernel
theorem dX10_feed_9 : decode cX10_feed 9 = .ok (.aload_n 0, 1) := by decide +kernel
theorem dX10_feed_10 : decode cX10_feed 10 = .ok (.bipush (-4), 2) := by decide +kernel
theorem dX10_feed_12 : decode cX10_feed 12 = .ok (.invokevirtual 121, 3) := by decide +kernel
theorem dX10_feed_15 : decode cX10_feed 15 = .ok (.ireturn, 1) := by decide +kernel
theorem dX10_feed_16 : decode cX10_feed 16 = .ok (.iload_n 1, 1) := by decide +kernel
theorem dX10_feed_17 : decode cX10_feed 17 = .ok (.sipush 255, 3) := by decide +kernel
theorem dX10_feed_20 : decode cX10_feed 20 = .ok (.if_icmp .gt 12, 3) := by decide +kernel
theorem dX10_feed_23 : decode cX10_feed 23 = .ok (.aload_n 0, 1) := by decide +kernel
theorem dX10_feed_24 : decode cX10_feed 24 = .ok (.getfield 124, 3) := by decide +kernel
theorem dX10_feed_27 : decode cX10_feed 27 = .ok (.bipush 96, 2) := by decide +kernel
theorem dX10_feed_29 : decode cX10_feed 29 = .ok (.if_icmp .ne 10, 3) := by decide +kernel
theorem dX10_feed_32 : decode cX10_feed 32 = .ok (.aload_n 0, 1) := by decide +kernel
theorem dX10_feed_33 : decode cX10_feed 33 = .ok (.bipush (-6), 2) := by decide +kernel
theorem dX10_feed_35 : decode cX10_feed 35 = .ok (.invokevirtual 121, 3) := by decide +kernel
theorem dX10_feed_38 : decode cX10_feed 38 = .ok (.ireturn, 1) := by decide +kernel
theorem dX10_feed_39 : decode cX10_feed 39 = .ok (.aload_n 0, 1) := by decide +kernel
theorem dX10_feed_40 : decode cX10_feed 40 = .ok (.getfield 38, 3) := by decide +kernel
theorem dX10_feed_43 : decode cX10_feed 43 = .ok (.aload_n 0, 1) := by decide +kernel
theorem dX10_feed_44 : decode cX10_feed 44 = .ok (.getfield 124, 3) := by decide +kernel
theorem dX10_feed_47 : decode cX10_feed 47 = .ok (.iload_n 1, 1) := by decide +kernel
theorem dX10_feed_48 : decode cX10_feed 48 = .ok (.iastore, 1) := by decide +kernel
theorem dX10_feed_49 : decode cX10_feed 49 = .ok (.aload_n 0, 1) := by decide +kernel
theorem dX10_feed_50 : decode cX10_feed 50 = .ok (.dup, 1) := by decide +kernel
theorem dX10_feed_51 : decode cX10_feed 51 = .ok (.getfield 124, 3) := by decide +kernel
theorem dX10_feed_54 : decode cX10_feed 54 = .ok (.iconst 1, 1) := by decide +kernel
theorem dX10_feed_55 : decode cX10_feed 55 = .ok (.iadd, 1) := by decide +kernel
theorem dX10_feed_56 : decode cX10_feed 56 = .ok (.putfield 124, 3) := by decide +kernel
theorem dX10_feed_59 : decode cX10_feed 59 = .ok (.aload_n 0, 1) := by decide +kernel
theorem dX10_feed_60 : decode cX10_feed 60 = .ok (.getfield 124, 3) := by decide +kernel
theorem dX10_feed_63 : decode cX10_feed 63 = .ok (.ireturn, 1) := by decide +kernel
theorem dX10_here_0 : decode cX10_here 0 = .ok (.aload_n 0, 1) := by decide +kernel
theorem dX10_here_1 : decode cX10_here 1 = .ok (.getfield 127, 3) := by decide +kernel
theorem dX10_here_4 : decode cX10_here 4 = .ok (.aload_n 0, 1) := by decide +kernel
theorem dX10_here_5 : decode cX10_here 5 = .ok (.getfield 124, 3) := by decide +kernel
theorem dX10_here_8 : decode cX10_here 8 = .ok (.if_icmp .ge 15, 3) := by decide +kernel
theorem dX10_here_11 : decode cX10_here 11 = .ok (.aload_n 0, 1) := by decide +kernel
theorem dX10_here_12 : decode cX10_here 12 = .ok (.getfield 38, 3) := by decide +kernel
theorem dX10_here_15 : decode cX10_here 15 = .ok (.aload_n 0, 1) := by decide +kernel
theorem dX10_here_16 : decode cX10_here 16 = .ok (.getfield 127, 3) := by decide +kernel
theorem dX10_here_19 : decode cX10_here 19 = .ok (.iaload, 1) := by decide +kernel
theorem dX10_here_20 : decode cX10_here 20 = .ok (.goto 4, 3) := by decide +kernel
theorem dX10_here_23 : decode cX10_here 23 = .ok (.iconst (-1), 1) := by decide +kernel
theorem dX10_here_24 : decode cX10_here 24 = .ok (.ireturn, 1) := by decide +kernel
theorem dX10_readDigits_0 : decode cX10_readDigits 0 = .ok (.iconst 0, 1) := by decide +kernel
theorem dX10_readDigits_1 : decode cX10_readDigits 1 = .ok (.istore_n 2, 1) := by decide +kernel
theorem dX10_readDigits_2 : decode cX10_readDigits 2 = .ok (.iconst 0, 1) := by decide +kernel
theorem dX10_readDigits_3 : decode cX10_readDigits 3 = .ok (.istore_n 3, 1) := by decide +kernel
theorem dX10_readDigits_4 : decode cX10_readDigits 4 = .ok (.iload_n 3, 1) := by decide +kernel
theorem dX10_readDigits_5 : decode cX10_readDigits 5 = .ok (.iload_n 1, 1) := by decide +kernel
theorem dX10_readDigits_6 : decode cX10_readDigits 6 = .ok (.if_icmp .ge 92, 3) := by decide +kernel
theorem dX10_readDigits_9 : decode cX10_readDigits 9 = .ok (.aload_n 0, 1) := by decide +kernel
theorem dX10_readDigits_10 : decode cX10_readDigits 10 = .ok (.aload_n 0, 1) := by decide +kernel
theorem dX10_readDigits_11 : decode cX10_readDigits 11 = .ok (.getfield 130, 3) := by decide +kernel
theorem dX10_readDigits_14 : decode cX10_readDigits 14 = .ok (.ifCond .ne 20, 3) := by decide +kernel
theorem dX10_readDigits_17 : decode cX10_readDigits 17 = .ok (.aload_n 0, 1) := by decide +kernel
theorem dX10_readDigits_18 : decode cX10_readDigits 18 = .ok (.invokevirtual 134, 3) := by decide +kernel
theorem dX10_readDigits_21 : decode cX10_readDigits 21 = .ok (.i2l, 1) := by decide +kernel
theorem dX10_readDigits_22 : decode cX10_readDigits 22 = .ok (.ldc2_w 138, 3) := by decide +kernel
theorem dX10_readDigits_25 : decode cX10_readDigits 25 = .ok (.ldc2_w 140, 3) := by decide +kernel
theorem dX10_readDigits_28 : decode cX10_readDigits 28 = .ok (.invokestatic 84, 3) := by decide +kernel
theorem dX10_readDigits_31 : decode cX10_readDigits 31 = .ok (.ifCond .ne 7, 3) := by decide +kernel
theorem dX10_readDigits_34 : decode cX10_readDigits 34 = .ok (.iconst 1, 1) := by decide +kernel
theorem dX10_readDigits_35 : decode cX10_readDigits 35 = .ok (.goto 4, 3) := by decide +kernel
theorem dX10_readDigits_38 : decode cX10_readDigits 38 = .ok (.iconst 0, 1) := by decide +kernel
theorem dX10_readDigits_39 : decode cX10_readDigits 39 = .ok (.putfield 130, 3) := by decide +kernel
theorem dX10_readDigits_42 : decode cX10_readDigits 42 = .ok (.aload_n 0, 1) := by decide +kernel
theorem dX10_readDigits_43 : decode cX10_readDigits 43 = .ok (.getfield 130, 3) := by decide +kernel
theorem dX10_readDigits_46 : decode cX10_readDigits 46 = .ok (.ifCond .eq 7, 3) := by decide +kernel
theorem dX10_readDigits_49 : decode cX10_readDigits 49 = .ok (.iconst 0, 1) := by decide +kernel
theorem dX10_readDigits_50 : decode cX10_readDigits 50 = .ok (.goto 20, 3) := by decide +kernel
theorem dX10_readDigits_53 : decode cX10_readDigits 53 = .ok (.bipush 10, 2) := by decide +kernel
theorem dX10_readDigits_55 : decode cX10_readDigits 55 = .ok (.iload_n 2, 1) := by decide +kernel
theorem dX10_readDigits_56 : decode cX10_readDigits 56 = .ok (.imul, 1) := by decide +kernel
theorem dX10_readDigits_57 : decode cX10_readDigits 57 = .ok (.aload_n 0, 1) := by decide +kernel
theorem dX10_readDigits_58 : decode cX10_readDigits 58 = .ok (.getfield 38, 3) := by decide +kernel
theorem dX10_readDigits_61 : decode cX10_readDigits 61 = .ok (.aload_n 0, 1) := by decide +kernel
theorem dX10_readDigits_62 : decode cX10_readDigits 62 = .ok (.getfield 127, 3) := by decide +kernel
theorem dX10_readDigits_65 : decode cX10_readDigits 65 = .ok (.iaload, 1) := by decide +kernel
theorem dX10_readDigits_66 : decode cX10_readDigits 66 = .ok (.iadd, 1) := by decide +kernel
theorem dX10_readDigits_67 : decode cX10_readDigits 67 = .ok (.bipush 48, 2) := by decide +kernel
theorem dX10_readDigits_69 : decode cX10_readDigits 69 = .ok (.isub, 1) := by decide +kernel
theorem dX10_readDigits_70 : decode cX10_readDigits 70 = .ok (.istore_n 2, 1) := by decide +kernel
theorem dX10_readDigits_71 : decode cX10_readDigits 71 = .ok (.aload_n 0, 1) := by decide +kernel
theorem dX10_readDigits_72 : decode cX10_readDigits 72 = .ok (.dup, 1) := by decide +kernel
theorem dX10_readDigits_73 : decode cX10_readDigits 73 = .ok (.getfield 127, 3) := by decide +kernel
theorem dX10_readDigits_76 : decode cX10_readDigits 76 = .ok (.aload_n 0, 1) := by decide +kernel
theorem dX10_readDigits_77 : decode cX10_readDigits 77 = .ok (.getfield 130, 3) := by decide +kernel
theorem dX10_readDigits_80 : decode cX10_readDigits 80 = .ok (.ifCond .eq 7, 3) := by decide +kernel
theorem dX10_readDigits_83 : decode cX10_readDigits 83 = .ok (.iconst 0, 1) := by decide +kernel
theorem dX10_readDigits_84 : decode cX10_readDigits 84 = .ok (.goto 4, 3) := by decide +kernel
theorem dX10_readDigits_87 : decode cX10_readDigits 87 = .ok (.iconst 1, 1) := by decide +kernel
theorem dX10_readDigits_88 : decode cX10_readDigits 88 = .ok (.iadd, 1) := by decide +kernel
theorem dX10_readDigits_89 : decode cX10_readDigits 89 = .ok (.putfield 127, 3) := by decide +kernel
theorem dX10_readDigits_92 : decode cX10_readDigits 92 = .ok (.iinc 3 1, 3) := by decide +kernel
theorem dX10_readDigits_95 : decode cX10_readDigits 95 = .ok (.goto (-91), 3) := by decide +kernel
theorem dX10_readDigits_98 : decode cX10_readDigits 98 = .ok (.iload_n 2, 1) := by decide +kernel
theorem dX10_readDigits_99 : decode cX10_readDigits 99 = .ok (.ireturn, 1) := by decide +kernel
theorem dX10_isLetter_0 : decode cX10_isLetter 0 = .ok (.iload_n 0, 1) := by decide +kernel
theorem dX10_isLetter_1 : decode cX10_isLetter 1 = .ok (.bipush 108, 2) := by decide +kernel
theorem dX10_isLetter_3 : decode cX10_isLetter 3 = .ok (.if_icmp .eq 33, 3) := by decide +kernel
theorem dX10_isLetter_6 : decode cX10_isLetter 6 = .ok (.iload_n 0, 1) := by decide +kernel
theorem dX10_isLetter_7 : decode cX10_isLetter 7 = .ok (.bipush 112, 2) := by decide +kernel
theorem dX10_isLetter_9 : decode cX10_isLetter 9 = .ok (.if_icmp .eq 27, 3) := by decide +kernel
theorem dX10_isLetter_12 : decode cX10_isLetter 12 = .ok (.iload_n 0, 1) := by decide +kernel
theorem dX10_isLetter_13 : decode cX10_isLetter 13 = .ok (.bipush 116, 2) := by decide +kernel
theorem dX10_isLetter_15 : decode cX10_isLetter 15 = .ok (.if_icmp .eq 21, 3) := by decide +kernel
theorem dX10_isLetter_18 : decode cX10_isLetter 18 = .ok (.iload_n 0, 1) := by decide +kernel
theorem dX10_isLetter_19 : decode cX10_isLetter 19 = .ok (.bipush 98, 2) := by decide +kernel
theorem dX10_isLetter_21 : decode cX10_isLetter 21 = .ok (.if_icmp .eq 15, 3) := by decide +kernel
theorem dX10_isLetter_24 : decode cX10_isLetter 24 = .ok (.iload_n 0, 1) := by decide +kernel
theorem dX10_isLetter_25 : decode cX10_isLetter 25 = .ok (.bipush 120, 2) := by decide +kernel
theorem dX10_isLetter_27 : decode cX10_isLetter 27 = .ok (.if_icmp .eq 9, 3) := by decide +kernel
theorem dX10_isLetter_30 : decode cX10_isLetter 30 = .ok (.iload_n 0, 1) := by decide +kernel
theorem dX10_isLetter_31 : decode cX10_isLetter 31 = .ok (.bipush 100, 2) := by decide +kernel
theorem dX10_isLetter_33 : decode cX10_isLetter 33 = .ok (.if_icmp .ne 7, 3) := by decide +kernel
theorem dX10_isLetter_36 : decode cX10_isLetter 36 = .ok (.iconst 1, 1) := by decide +kernel
theorem dX10_isLetter_37 : decode cX10_isLetter 37 = .ok (.goto 4, 3) := by decide +kernel
theorem dX10_isLetter_40 : decode cX10_isLetter 40 = .ok (.iconst 0, 1) := by decide +kernel
theorem dX10_isLetter_41 : decode cX10_isLetter 41 = .ok (.ireturn, 1) := by decide +kernel
theorem dX10_readNumbers_0 : decode cX10_readNumbers 0 = .ok (.iload_n 1, 1) := by decide +kernel
theorem dX10_readNumbers_1 : decode cX10_readNumbers 1 = .ok (.bipush 108, 2) := by decide +kernel
theorem dX10_readNumbers_3 : decode cX10_readNumbers 3 = .ok (.if_icmp .eq 15, 3) := by decide +kernel
theorem dX10_readNumbers_6 : decode cX10_readNumbers 6 = .ok (.iload_n 1, 1) := by decide +kernel
theorem dX10_readNumbers_7 : decode cX10_readNumbers 7 = .ok (.bipush 116, 2) := by decide +kernel
theorem dX10_readNumbers_9 : decode cX10_readNumbers 9 = .ok (.if_icmp .eq 9, 3) := by decide +kernel
theorem dX10_readNumbers_12 : decode cX10_readNumbers 12 = .ok (.iload_n 1, 1) := by decide +kernel
theorem dX10_readNumbers_13 : decode cX10_readNumbers 13 = .ok (.bipush 98, 2) := by decide +kernel
theorem dX10_readNumbers_15 : decode cX10_readNumbers 15 = .ok (.if_icmp .ne 47, 3) := by decide +kernel
theorem dX10_readNumbers_18 : decode cX10_readNumbers 18 = .ok (.iload_n 1, 1) := by decide +kernel
theorem dX10_readNumbers_19 : decode cX10_readNumbers 19 = .ok (.bipush 108, 2) := by decide +kernel
theorem dX10_readNumbers_21 : decode cX10_readNumbers 21 = .ok (.if_icmp .ne 7, 3) := by decide +kernel
theorem dX10_readNumbers_24 : decode cX10_readNumbers 24 = .ok (.iconst 4, 1) := by decide +kernel
theorem dX10_readNumbers_25 : decode cX10_readNumbers 25 = .ok (.goto 4, 3) := by decide +kernel
theorem dX10_readNumbers_28 : decode cX10_readNumbers 28 = .ok (.iconst 2, 1) := by decide +kernel
theorem dX10_readNumbers_29 : decode cX10_readNumbers 29 = .ok (.istore_n 3, 1) := by decide +kernel
theorem dX10_readNumbers_30 : decode cX10_readNumbers 30 = .ok (.iconst 0, 1) := by decide +kernel
theorem dX10_readNumbers_31 : decode cX10_readNumbers 31 = .ok (.istore 4, 2) := by decide +kernel
theorem dX10_readNumbers_33 : decode cX10_readNumbers 33 = .ok (.iload 4, 2) := by decide +kernel
theorem dX10_readNumbers_35 : decode cX10_readNumbers 35 = .ok (.iload_n 3, 1) := by decide +kernel
theorem dX10_readNumbers_36 : decode cX10_readNumbers 36 = .ok (.if_icmp .ge 23, 3) := by decide +kernel
theorem dX10_readNumbers_39 : decode cX10_readNumbers 39 = .ok (.aload_n 0, 1) := by decide +kernel
theorem dX10_readNumbers_40 : decode cX10_readNumbers 40 = .ok (.getfield 47, 3) := by decide +kernel
theorem dX10_readNumbers_43 : decode cX10_readNumbers 43 = .ok (.iload_n 2, 1) := by decide +kernel
theorem dX10_readNumbers_44 : decode cX10_readNumbers 44 = .ok (.iload 4, 2) := by decide +kernel
theorem dX10_readNumbers_46 : decode cX10_readNumbers 46 = .ok (.iadd, 1) := by decide +kernel
theorem dX10_readNumbers_47 : decode cX10_readNumbers 47 = .ok (.aload_n 0, 1) := by decide +kernel
theorem dX10_readNumbers_48 : decode cX10_readNumbers 48 = .ok (.iconst 1, 1) := by decide +kernel
theorem dX10_readNumbers_49 : decode cX10_readNumbers 49 = .ok (.invokevirtual 142, 3) := by decide +kernel
theorem dX10_readNumbers_52 : decode cX10_readNumbers 52 = .ok (.iastore, 1) := by decide +kernel
theorem dX10_readNumbers_53 : decode cX10_readNumbers 53 = .ok (.iinc 4 1, 3) := by decide +kernel
theorem dX10_readNumbers_56 : decode cX10_readNumbers 56 = .ok (.goto (-23), 3) := by decide +kernel
theorem dX10_readNumbers_59 : decode cX10_readNumbers 59 = .ok (.goto 20, 3) := by decide +kernel
theorem dX10_readNumbers_62 : decode cX10_readNumbers 62 = .ok (.iload_n 1, 1) := by decide +kernel
theorem dX10_readNumbers_63 : decode cX10_readNumbers 63 = .ok (.bipush 112, 2) := by decide +kernel
theorem dX10_readNumbers_65 : decode cX10_readNumbers 65 = .ok (.if_icmp .ne 14, 3) := by decide +kernel
theorem dX10_readNumbers_68 : decode cX10_readNumbers 68 = .ok (.aload_n 0, 1) := by decide +kernel
theorem dX10_readNumbers_69 : decode cX10_readNumbers 69 = .ok (.getfield 47, 3) := by decide +kernel
theorem dX10_readNumbers_72 : decode cX10_readNumbers 72 = .ok (.iload_n 2, 1) := by decide +kernel
theorem dX10_readNumbers_73 : decode cX10_readNumbers 73 = .ok (.aload_n 0, 1) := by decide +kernel
theorem dX10_readNumbers_74 : decode cX10_readNumbers 74 = .ok (.iconst 3, 1) := by decide +kernel
theorem dX10_readNumbers_75 : decode cX10_readNumbers 75 = .ok (.invokevirtual 142, 3) := by decide +kernel
theorem dX10_readNumbers_78 : decode cX10_readNumbers 78 = .ok (.iastore, 1) := by decide +kernel
theorem dX10_readNumbers_79 : decode cX10_readNumbers 79 = .ok (.return_, 1) := by decide +kernel
theorem dX10_readStatement_0 : decode cX10_readStatement 0 = .ok (.aload_n 0, 1) := by decide +kernel
theorem dX10_readStatement_1 : decode cX10_readStatement 1 = .ok (.getfield 145, 3) := by decide +kernel
theorem dX10_readStatement_4 : decode cX10_readStatement 4 = .ok (.istore_n 1, 1) := by decide +kernel
theorem dX10_readStatement_5 : decode cX10_readStatement 5 = .ok (.aload_n 0, 1) := by decide +kernel
theorem dX10_readStatement_6 : decode cX10_readStatement 6 = .ok (.invokevirtual 134, 3) := by decide +kernel
theorem dX10_readStatement_9 : decode cX10_readStatement 9 = .ok (.istore_n 2, 1) := by decide +kernel
theorem dX10_readStatement_10 : decode cX10_readStatement 10 = .ok (.aload_n 0, 1) := by decide +kernel
theorem dX10_readStatement_11 : decode cX10_readStatement 11 = .ok (.getfield 41, 3) := by decide +kernel
theorem dX10_readStatement_14 : decode cX10_readStatement 14 = .ok (.iload_n 1, 1) := by decide +kernel
theorem dX10_readStatement_15 : decode cX10_readStatement 15 = .ok (.aload_n 0, 1) := by decide +kernel
theorem dX10_readStatement_16 : decode cX10_readStatement 16 = .ok (.getfield 127, 3) := by decide +kernel
theorem dX10_readStatement_19 : decode cX10_readStatement 19 = .ok (.iastore, 1) := by decide +kernel
theorem dX10_readStatement_20 : decode cX10_readStatement 20 = .ok (.aload_n 0, 1) := by decide +kernel
theorem dX10_readStatement_21 : decode cX10_readStatement 21 = .ok (.getfield 44, 3) := by decide +kernel
theorem dX10_readStatement_24 : decode cX10_readStatement 24 = .ok (.iload_n 1, 1) := by decide +kernel
theorem dX10_readStatement_25 : decode cX10_readStatement 25 = .ok (.iload_n 2, 1) := by decide +kernel
theorem dX10_readStatement_26 : decode cX10_readStatement 26 = .ok (.iastore, 1) := by decide +kernel
theorem dX10_readStatement_27 : decode cX10_readStatement 27 = .ok (.aload_n 0, 1) := by decide +kernel
theorem dX10_readStatement_28 : decode cX10_readStatement 28 = .ok (.aload_n 0, 1) := by decide +kernel
theorem dX10_readStatement_29 : decode cX10_readStatement 29 = .ok (.getfield 130, 3) := by decide +kernel
theorem dX10_readStatement_32 : decode cX10_readStatement 32 = .ok (.ifCond .ne 10, 3) := by decide +kernel
theorem dX10_readStatement_35 : decode cX10_readStatement 35 = .ok (.iload_n 2, 1) := by decide +kernel
theorem dX10_readStatement_36 : decode cX10_readStatement 36 = .ok (.invokestatic 148, 3) := by decide +kernel
theorem dX10_readStatement_39 : decode cX10_readStatement 39 = .ok (.ifCond .ne 7, 3) := by decide +kernel
theorem dX10_readStatement_42 : decode cX10_readStatement 42 = .ok (.iconst 1, 1) := by decide +kernel
theorem dX10_readStatement_43 : decode cX10_readStatement 43 = .ok (.goto 4, 3) := by decide +kernel
theorem dX10_readStatement_46 : decode cX10_readStatement 46 = .ok (.iconst 0, 1) := by decide +kernel
theorem dX10_readStatement_47 : decode cX10_readStatement 47 = .ok (.putfield 130, 3) := by decide +kernel
theorem dX10_readStatement_50 : decode cX10_readStatement 50 = .ok (.aload_n 0, 1) := by decide +kernel
theorem dX10_readStatement_51 : decode cX10_readStatement 51 = .ok (.dup, 1) := by decide +kernel
theorem dX10_readStatement_52 : decode cX10_readStatement 52 = .ok (.getfield 127, 3) := by decide +kernel
theorem dX10_readStatement_55 : decode cX10_readStatement 55 = .ok (.aload_n 0, 1) := by decide +kernel
theorem dX10_readStatement_56 : decode cX10_readStatement 56 = .ok (.getfield 130, 3) := by decide +kernel
theorem dX10_readStatement_59 : decode cX10_readStatement 59 = .ok (.ifCond .eq 7, 3) := by decide +kernel
theorem dX10_readStatement_62 : decode cX10_readStatement 62 = .ok (.iconst 0, 1) := by decide +kernel
theorem dX10_readStatement_63 : decode cX10_readStatement 63 = .ok (.goto 4, 3) := by decide +kernel
theorem dX10_readStatement_66 : decode cX10_readStatement 66 = .ok (.iconst 1, 1) := by decide +kernel
theorem dX10_readStatement_67 : decode cX10_readStatement 67 = .ok (.iadd, 1) := by decide +kernel
theorem dX10_readStatement_68 : decode cX10_readStatement 68 = .ok (.putfield 127, 3) := by decide +kernel
theorem dX10_readStatement_71 : decode cX10_readStatement 71 = .ok (.aload_n 0, 1) := by decide +kernel
theorem dX10_readStatement_72 : decode cX10_readStatement 72 = .ok (.getfield 130, 3) := by decide +kernel
theorem dX10_readStatement_75 : decode cX10_readStatement 75 = .ok (.ifCond .ne 11, 3) := by decide +kernel
theorem dX10_readStatement_78 : decode cX10_readStatement 78 = .ok (.aload_n 0, 1) := by decide +kernel
theorem dX10_readStatement_79 : decode cX10_readStatement 79 = .ok (.iload_n 2, 1) := by decide +kernel
theorem dX10_readStatement_80 : decode cX10_readStatement 80 = .ok (.iconst 4, 1) := by decide +kernel
theorem dX10_readStatement_81 : decode cX10_readStatement 81 = .ok (.iload_n 1, 1) := by decide +kernel
theorem dX10_readStatement_82 : decode cX10_readStatement 82 = .ok (.imul, 1) := by decide +kernel
theorem dX10_readStatement_83 : decode cX10_readStatement 83 = .ok (.invokevirtual 152, 3) := by decide +kernel
theorem dX10_readStatement_86 : decode cX10_readStatement 86 = .ok (.aload_n 0, 1) := by decide +kernel
theorem dX10_readStatement_87 : decode cX10_readStatement 87 = .ok (.aload_n 0, 1) := by decide +kernel
theorem dX10_readStatement_88 : decode cX10_readStatement 88 = .ok (.getfield 130, 3) := by decide +kernel
theorem dX10_readStatement_91 : decode cX10_readStatement 91 = .ok (.ifCond .ne 12, 3) := by decide +kernel
theorem dX10_readStatement_94 : decode cX10_readStatement 94 = .ok (.aload_n 0, 1) := by decide +kernel
theorem dX10_readStatement_95 : decode cX10_readStatement 95 = .ok (.invokevirtual 134, 3) := by decide +kernel
theorem dX10_readStatement_98 : decode cX10_readStatement 98 = .ok (.bipush 59, 2) := by decide +kernel
theorem dX10_readStatement_100 : decode cX10_readStatement 100 = .ok (.if_icmp .eq 7, 3) := by decide +kernel
theorem dX10_readStatement_103 : decode cX10_readStatement 103 = .ok (.iconst 1, 1) := by decide +kernel
theorem dX10_readStatement_104 : decode cX10_readStatement 104 = .ok (.goto 4, 3) := by decide +kernel
theorem dX10_readStatement_107 : decode cX10_readStatement 107 = .ok (.iconst 0, 1) := by decide +kernel
theorem dX10_readStatement_108 : decode cX10_readStatement 108 = .ok (.putfield 130, 3) := by decide +kernel
theorem dX10_readStatement_111 : decode cX10_readStatement 111 = .ok (.aload_n 0, 1) := by decide +kernel
theorem dX10_readStatement_112 : decode cX10_readStatement 112 = .ok (.dup, 1) := by decide +kernel
theorem dX10_readStatement_113 : decode cX10_readStatement 113 = .ok (.getfield 127, 3) := by decide +kernel
theorem dX10_readStatement_116 : decode cX10_readStatement 116 = .ok (.aload_n 0, 1) := by decide +kernel
theorem dX10_readStatement_117 : decode cX10_readStatement 117 = .ok (.getfield 130, 3) := by decide +kernel
theorem dX10_readStatement_120 : decode cX10_readStatement 120 = .ok (.ifCond .eq 7, 3) := by decide +kernel
theorem dX10_readStatement_123 : decode cX10_readStatement 123 = .ok (.iconst 0, 1) := by decide +kernel
theorem dX10_readStatement_124 : decode cX10_readStatement 124 = .ok (.goto 4, 3) := by decide +kernel
theorem dX10_readStatement_127 : decode cX10_readStatement 127 = .ok (.iconst 1, 1) := by decide +kernel
theorem dX10_readStatement_128 : decode cX10_readStatement 128 = .ok (.iadd, 1) := by decide +kernel
theorem dX10_readStatement_129 : decode cX10_readStatement 129 = .ok (.putfield 127, 3) := by decide +kernel
theorem dX10_readStatement_132 : decode cX10_readStatement 132 = .ok (.aload_n 0, 1) := by decide +kernel
theorem dX10_readStatement_133 : decode cX10_readStatement 133 = .ok (.dup, 1) := by decide +kernel
theorem dX10_readStatement_134 : decode cX10_readStatement 134 = .ok (.getfield 145, 3) := by decide +kernel
theorem dX10_readStatement_137 : decode cX10_readStatement 137 = .ok (.iconst 1, 1) := by decide +kernel
theorem dX10_readStatement_138 : decode cX10_readStatement 138 = .ok (.iadd, 1) := by decide +kernel
theorem dX10_readStatement_139 : decode cX10_readStatement 139 = .ok (.putfield 145, 3) := by decide +kernel
theorem dX10_readStatement_142 : decode cX10_readStatement 142 = .ok (.return_, 1) := by decide +kernel
theorem dX10_lawComes_0 : decode cX10_lawComes 0 = .ok (.aload_n 0, 1) := by decide +kernel
theorem dX10_lawComes_1 : decode cX10_lawComes 1 = .ok (.getfield 7, 3) := by decide +kernel
theorem dX10_lawComes_4 : decode cX10_lawComes 4 = .ok (.aload_n 0, 1) := by decide +kernel
theorem dX10_lawComes_5 : decode cX10_lawComes 5 = .ok (.getfield 88, 3) := by decide +kernel
theorem dX10_lawComes_8 : decode cX10_lawComes 8 = .ok (.iload_n 1, 1) := by decide +kernel
theorem dX10_lawComes_9 : decode cX10_lawComes 9 = .ok (.iastore, 1) := by decide +kernel
theorem dX10_lawComes_10 : decode cX10_lawComes 10 = .ok (.aload_n 0, 1) := by decide +kernel
theorem dX10_lawComes_11 : decode cX10_lawComes 11 = .ok (.getfield 13, 3) := by decide +kernel
theorem dX10_lawComes_14 : decode cX10_lawComes 14 = .ok (.aload_n 0, 1) := by decide +kernel
theorem dX10_lawComes_15 : decode cX10_lawComes 15 = .ok (.getfield 88, 3) := by decide +kernel
