theorem dX4_faultOfForm_32 : decode cX4_faultOfForm 32 = .ok (.ifCond .ge 39, 3) := by decide +kernel
theorem dX4_faultOfForm_35 : decode cX4_faultOfForm 35 = .ok (.iload_n 2, 1) := by decide +kernel
theorem dX4_faultOfForm_36 : decode cX4_faultOfForm 36 = .ok (.ireturn, 1) := by decide +kernel
theorem dX4_faultOfForm_37 : decode cX4_faultOfForm 37 = .ok (.iload_n 1, 1) := by decide +kernel
theorem dX4_faultOfForm_38 : decode cX4_faultOfForm 38 = .ok (.ifCond .le 23, 3) := by decide +kernel
theorem dX4_faultOfForm_41 : decode cX4_faultOfForm 41 = .ok (.iload_n 3, 1) := by decide +kernel
theorem dX4_faultOfForm_42 : decode cX4_faultOfForm 42 = .ok (.bipush 48, 2) := by decide +kernel
theorem dX4_faultOfForm_44 : decode cX4_faultOfForm 44 = .ok (.if_icmp .lt 9, 3) := by decide +kernel
theorem dX4_faultOfForm_47 : decode cX4_faultOfForm 47 = .ok (.iload_n 3, 1) := by decide +kernel
theorem dX4_faultOfForm_48 : decode cX4_faultOfForm 48 = .ok (.bipush 57, 2) := by decide +kernel
theorem dX4_faultOfForm_50 : decode cX4_faultOfForm 50 = .ok (.if_icmp .le 5, 3) := by decide +kernel
theorem dX4_faultOfForm_53 : decode cX4_faultOfForm 53 = .ok (.iload_n 2, 1) := by decide +kernel
theorem dX4_faultOfForm_54 : decode cX4_faultOfForm 54 = .ok (.ireturn, 1) := by decide +kernel
theorem dX4_faultOfForm_55 : decode cX4_faultOfForm 55 = .ok (.iinc 1 (-1), 3) := by decide +kernel
theorem dX4_faultOfForm_58 : decode cX4_faultOfForm 58 = .ok (.goto 13, 3) := by decide +kernel
theorem dX4_faultOfForm_61 : decode cX4_faultOfForm 61 = .ok (.iload_n 3, 1) := by decide +kernel
theorem dX4_faultOfForm_62 : decode cX4_faultOfForm 62 = .ok (.bipush 59, 2) := by decide +kernel
theorem dX4_faultOfForm_64 : decode cX4_faultOfForm 64 = .ok (.if_icmp .eq 5, 3) := by decide +kernel
theorem dX4_faultOfForm_67 : decode cX4_faultOfForm 67 = .ok (.iload_n 2, 1) := by decide +kernel
theorem dX4_faultOfForm_68 : decode cX4_faultOfForm 68 = .ok (.ireturn, 1) := by decide +kernel
theorem dX4_faultOfForm_69 : decode cX4_faultOfForm 69 = .ok (.iconst (-1), 1) := by decide +kernel
theorem dX4_faultOfForm_70 : decode cX4_faultOfForm 70 = .ok (.istore_n 1, 1) := by decide +kernel
theorem dX4_faultOfForm_71 : decode cX4_faultOfForm 71 = .ok (.iinc 2 1, 3) := by decide +kernel
theorem dX4_faultOfForm_74 : decode cX4_faultOfForm 74 = .ok (.goto (-70), 3) := by decide +kernel
theorem dX4_faultOfForm_77 : decode cX4_faultOfForm 77 = .ok (.aload_n 0, 1) := by decide +kernel
theorem dX4_faultOfForm_78 : decode cX4_faultOfForm 78 = .ok (.getfield 29, 3) := by decide +kernel
theorem dX4_faultOfForm_81 : decode cX4_faultOfForm 81 = .ok (.ifCond .eq 8, 3) := by decide +kernel
theorem dX4_faultOfForm_84 : decode cX4_faultOfForm 84 = .ok (.iload_n 1, 1) := by decide +kernel
theorem dX4_faultOfForm_85 : decode cX4_faultOfForm 85 = .ok (.iconst (-1), 1) := by decide +kernel
theorem dX4_faultOfForm_86 : decode cX4_faultOfForm 86 = .ok (.if_icmp .eq 10, 3) := by decide +kernel
theorem dX4_faultOfForm_89 : decode cX4_faultOfForm 89 = .ok (.aload_n 0, 1) := by decide +kernel
theorem dX4_faultOfForm_90 : decode cX4_faultOfForm 90 = .ok (.getfield 29, 3) := by decide +kernel
theorem dX4_faultOfForm_93 : decode cX4_faultOfForm 93 = .ok (.goto 4, 3) := by decide +kernel
theorem dX4_faultOfForm_96 : decode cX4_faultOfForm 96 = .ok (.iconst (-1), 1) := by decide +kernel
theorem dX4_faultOfForm_97 : decode cX4_faultOfForm 97 = .ok (.ireturn, 1) := by decide +kernel
theorem dX4_digitsBehind_0 : decode cX4_digitsBehind 0 = .ok (.iload_n 0, 1) := by decide +kernel
theorem dX4_digitsBehind_1 : decode cX4_digitsBehind 1 = .ok (.lookupswitch 67 #[(98, 63), (100, 65), (108, 59), (112, 61), (116, 63), (120, 65)], 59) := by decide +kernel
theorem dX4_digitsBehind_60 : decode cX4_digitsBehind 60 = .ok (.iconst 4, 1) := by decide +kernel
theorem dX4_digitsBehind_61 : decode cX4_digitsBehind 61 = .ok (.ireturn, 1) := by decide +kernel
theorem dX4_digitsBehind_62 : decode cX4_digitsBehind 62 = .ok (.iconst 3, 1) := by decide +kernel
theorem dX4_digitsBehind_63 : decode cX4_digitsBehind 63 = .ok (.ireturn, 1) := by decide +kernel
theorem dX4_digitsBehind_64 : decode cX4_digitsBehind 64 = .ok (.iconst 2, 1) := by decide +kernel
theorem dX4_digitsBehind_65 : decode cX4_digitsBehind 65 = .ok (.ireturn, 1) := by decide +kernel
theorem dX4_digitsBehind_66 : decode cX4_digitsBehind 66 = .ok (.iconst 0, 1) := by decide +kernel
theorem dX4_digitsBehind_67 : decode cX4_digitsBehind 67 = .ok (.ireturn, 1) := by decide +kernel
theorem dX4_digitsBehind_68 : decode cX4_digitsBehind 68 = .ok (.iconst (-1), 1) := by decide +kernel
theorem dX4_digitsBehind_69 : decode cX4_digitsBehind 69 = .ok (.ireturn, 1) := by decide +kernel
theorem dX4_faultOfSense_0 : decode cX4_faultOfSense 0 = .ok (.aload_n 0, 1) := by decide +kernel
theorem dX4_faultOfSense_1 : decode cX4_faultOfSense 1 = .ok (.getfield 18, 3) := by decide +kernel
theorem dX4_faultOfSense_4 : decode cX4_faultOfSense 4 = .ok (.aload_n 1, 1) := by decide +kernel
theorem dX4_faultOfSense_5 : decode cX4_faultOfSense 5 = .ok (.invokevirtual 40, 3) := by decide +kernel
theorem dX4_faultOfSense_8 : decode cX4_faultOfSense 8 = .ok (.aload_n 0, 1) := by decide +kernel
theorem dX4_faultOfSense_9 : decode cX4_faultOfSense 9 = .ok (.iconst 0, 1) := by decide +kernel
theorem dX4_faultOfSense_10 : decode cX4_faultOfSense 10 = .ok (.putfield 37, 3) := by decide +kernel
theorem dX4_faultOfSense_13 : decode cX4_faultOfSense 13 = .ok (.iconst 0, 1) := by decide +kernel
theorem dX4_faultOfSense_14 : decode cX4_faultOfSense 14 = .ok (.istore_n 2, 1) := by decide +kernel
theorem dX4_faultOfSense_15 : decode cX4_faultOfSense 15 = .ok (.iconst 0, 1) := by decide +kernel
theorem dX4_faultOfSense_16 : decode cX4_faultOfSense 16 = .ok (.istore_n 3, 1) := by decide +kernel
theorem dX4_faultOfSense_17 : decode cX4_faultOfSense 17 = .ok (.iload_n 3, 1) := by decide +kernel
theorem dX4_faultOfSense_18 : decode cX4_faultOfSense 18 = .ok (.bipush 96, 2) := by decide +kernel
theorem dX4_faultOfSense_20 : decode cX4_faultOfSense 20 = .ok (.if_icmp .ge 57, 3) := by decide +kernel
theorem dX4_faultOfSense_23 : decode cX4_faultOfSense 23 = .ok (.iload_n 2, 1) := by decide +kernel
theorem dX4_faultOfSense_24 : decode cX4_faultOfSense 24 = .ok (.aload_n 0, 1) := by decide +kernel
theorem dX4_faultOfSense_25 : decode cX4_faultOfSense 25 = .ok (.getfield 29, 3) := by decide +kernel
theorem dX4_faultOfSense_28 : decode cX4_faultOfSense 28 = .ok (.if_icmp .ge 49, 3) := by decide +kernel
theorem dX4_faultOfSense_31 : decode cX4_faultOfSense 31 = .ok (.aload_n 0, 1) := by decide +kernel
theorem dX4_faultOfSense_32 : decode cX4_faultOfSense 32 = .ok (.iload_n 2, 1) := by decide +kernel
theorem dX4_faultOfSense_33 : decode cX4_faultOfSense 33 = .ok (.invokevirtual 52, 3) := by decide +kernel
theorem dX4_faultOfSense_36 : decode cX4_faultOfSense 36 = .ok (.ifCond .ne 5, 3) := by decide +kernel
theorem dX4_faultOfSense_39 : decode cX4_faultOfSense 39 = .ok (.iload_n 2, 1) := by decide +kernel
theorem dX4_faultOfSense_40 : decode cX4_faultOfSense 40 = .ok (.ireturn, 1) := by decide +kernel
theorem dX4_faultOfSense_41 : decode cX4_faultOfSense 41 = .ok (.aload_n 0, 1) := by decide +kernel
theorem dX4_faultOfSense_42 : decode cX4_faultOfSense 42 = .ok (.dup, 1) := by decide +kernel
theorem dX4_faultOfSense_43 : decode cX4_faultOfSense 43 = .ok (.getfield 37, 3) := by decide +kernel
theorem dX4_faultOfSense_46 : decode cX4_faultOfSense 46 = .ok (.iconst 1, 1) := by decide +kernel
theorem dX4_faultOfSense_47 : decode cX4_faultOfSense 47 = .ok (.iadd, 1) := by decide +kernel
theorem dX4_faultOfSense_48 : decode cX4_faultOfSense 48 = .ok (.putfield 37, 3) := by decide +kernel
theorem dX4_faultOfSense_51 : decode cX4_faultOfSense 51 = .ok (.iload_n 2, 1) := by decide +kernel
theorem dX4_faultOfSense_52 : decode cX4_faultOfSense 52 = .ok (.iconst 0, 1) := by decide +kernel
theorem dX4_faultOfSense_53 : decode cX4_faultOfSense 53 = .ok (.aload_n 0, 1) := by decide +kernel
theorem dX4_faultOfSense_54 : decode cX4_faultOfSense 54 = .ok (.getfield 11, 3) := by decide +kernel
theorem dX4_faultOfSense_57 : decode cX4_faultOfSense 57 = .ok (.iload_n 2, 1) := by decide +kernel
theorem dX4_faultOfSense_58 : decode cX4_faultOfSense 58 = .ok (.invokestatic 44, 3) := by decide +kernel
theorem dX4_faultOfSense_61 : decode cX4_faultOfSense 61 = .ok (.invokestatic 48, 3) := by decide +kernel
theorem dX4_faultOfSense_64 : decode cX4_faultOfSense 64 = .ok (.invokestatic 56, 3) := by decide +kernel
theorem dX4_faultOfSense_67 : decode cX4_faultOfSense 67 = .ok (.iconst 2, 1) := by decide +kernel
theorem dX4_faultOfSense_68 : decode cX4_faultOfSense 68 = .ok (.iadd, 1) := by decide +kernel
theorem dX4_faultOfSense_69 : decode cX4_faultOfSense 69 = .ok (.iadd, 1) := by decide +kernel
theorem dX4_faultOfSense_70 : decode cX4_faultOfSense 70 = .ok (.istore_n 2, 1) := by decide +kernel
theorem dX4_faultOfSense_71 : decode cX4_faultOfSense 71 = .ok (.iinc 3 1, 3) := by decide +kernel
theorem dX4_faultOfSense_74 : decode cX4_faultOfSense 74 = .ok (.goto (-57), 3) := by decide +kernel
theorem dX4_faultOfSense_77 : decode cX4_faultOfSense 77 = .ok (.iconst (-1), 1) := by decide +kernel
theorem dX4_faultOfSense_78 : decode cX4_faultOfSense 78 = .ok (.ireturn, 1) := by decide +kernel
theorem dX4_comes_0 : decode cX4_comes 0 = .ok (.aload_n 0, 1) := by decide +kernel
theorem dX4_comes_1 : decode cX4_comes 1 = .ok (.getfield 11, 3) := by decide +kernel
theorem dX4_comes_4 : decode cX4_comes 4 = .ok (.iload_n 1, 1) := by decide +kernel
theorem dX4_comes_5 : decode cX4_comes 5 = .ok (.invokestatic 44, 3) := by decide +kernel
theorem dX4_comes_8 : decode cX4_comes 8 = .ok (.lookupswitch 167 #[(98, 138), (108, 52), (112, 85), (116, 119), (120, 157)], 52) := by decide +kernel
theorem dX4_comes_60 : decode cX4_comes 60 = .ok (.aload_n 0, 1) := by decide +kernel
theorem dX4_comes_61 : decode cX4_comes 61 = .ok (.aload_n 0, 1) := by decide +kernel
theorem dX4_comes_62 : decode cX4_comes 62 = .ok (.iload_n 1, 1) := by decide +kernel
theorem dX4_comes_63 : decode cX4_comes 63 = .ok (.iconst 1, 1) := by decide +kernel
theorem dX4_comes_64 : decode cX4_comes 64 = .ok (.iadd, 1) := by decide +kernel
theorem dX4_comes_65 : decode cX4_comes 65 = .ok (.invokevirtual 62, 3) := by decide +kernel
theorem dX4_comes_68 : decode cX4_comes 68 = .ok (.aload_n 0, 1) := by decide +kernel
theorem dX4_comes_69 : decode cX4_comes 69 = .ok (.iload_n 1, 1) := by decide +kernel
theorem dX4_comes_70 : decode cX4_comes 70 = .ok (.iconst 2, 1) := by decide +kernel
theorem dX4_comes_71 : decode cX4_comes 71 = .ok (.iadd, 1) := by decide +kernel
theorem dX4_comes_72 : decode cX4_comes 72 = .ok (.invokevirtual 62, 3) := by decide +kernel
theorem dX4_comes_75 : decode cX4_comes 75 = .ok (.aload_n 0, 1) := by decide +kernel
theorem dX4_comes_76 : decode cX4_comes 76 = .ok (.iload_n 1, 1) := by decide +kernel
theorem dX4_comes_77 : decode cX4_comes 77 = .ok (.iconst 3, 1) := by decide +kernel
theorem dX4_comes_78 : decode cX4_comes 78 = .ok (.iadd, 1) := by decide +kernel
theorem dX4_comes_79 : decode cX4_comes 79 = .ok (.invokevirtual 62, 3) := by decide +kernel
theorem dX4_comes_82 : decode cX4_comes 82 = .ok (.aload_n 0, 1) := by decide +kernel
theorem dX4_comes_83 : decode cX4_comes 83 = .ok (.iload_n 1, 1) := by decide +kernel
theorem dX4_comes_84 : decode cX4_comes 84 = .ok (.iconst 4, 1) := by decide +kernel
theorem dX4_comes_85 : decode cX4_comes 85 = .ok (.iadd, 1) := by decide +kernel
theorem dX4_comes_86 : decode cX4_comes 86 = .ok (.invokevirtual 62, 3) := by decide +kernel
theorem dX4_comes_89 : decode cX4_comes 89 = .ok (.invokevirtual 65, 3) := by decide +kernel
theorem dX4_comes_92 : decode cX4_comes 92 = .ok (.ireturn, 1) := by decide +kernel
theorem dX4_comes_93 : decode cX4_comes 93 = .ok (.aload_n 0, 1) := by decide +kernel
theorem dX4_comes_94 : decode cX4_comes 94 = .ok (.bipush 100, 2) := by decide +kernel
theorem dX4_comes_96 : decode cX4_comes 96 = .ok (.aload_n 0, 1) := by decide +kernel
theorem dX4_comes_97 : decode cX4_comes 97 = .ok (.iload_n 1, 1) := by decide +kernel
theorem dX4_comes_98 : decode cX4_comes 98 = .ok (.iconst 1, 1) := by decide +kernel
theorem dX4_comes_99 : decode cX4_comes 99 = .ok (.iadd, 1) := by decide +kernel
theorem dX4_comes_100 : decode cX4_comes 100 = .ok (.invokevirtual 62, 3) := by decide +kernel
theorem dX4_comes_103 : decode cX4_comes 103 = .ok (.imul, 1) := by decide +kernel
theorem dX4_comes_104 : decode cX4_comes 104 = .ok (.bipush 10, 2) := by decide +kernel
theorem dX4_comes_106 : decode cX4_comes 106 = .ok (.aload_n 0, 1) := by decide +kernel
theorem dX4_comes_107 : decode cX4_comes 107 = .ok (.iload_n 1, 1) := by decide +kernel
theorem dX4_comes_108 : decode cX4_comes 108 = .ok (.iconst 2, 1) := by decide +kernel
theorem dX4_comes_109 : decode cX4_comes 109 = .ok (.iadd, 1) := by decide +kernel
theorem dX4_comes_110 : decode cX4_comes 110 = .ok (.invokevirtual 62, 3) := by decide +kernel
theorem dX4_comes_113 : decode cX4_comes 113 = .ok (.imul, 1) := by decide +kernel
theorem dX4_comes_114 : decode cX4_comes 114 = .ok (.iadd, 1) := by decide +kernel
theorem dX4_comes_115 : decode cX4_comes 115 = .ok (.aload_n 0, 1) := by decide +kernel
theorem dX4_comes_116 : decode cX4_comes 116 = .ok (.iload_n 1, 1) := by decide +kernel
theorem dX4_comes_117 : decode cX4_comes 117 = .ok (.iconst 3, 1) := by decide +kernel
theorem dX4_comes_118 : decode cX4_comes 118 = .ok (.iadd, 1) := by decide +kernel
theorem dX4_comes_119 : decode cX4_comes 119 = .ok (.invokevirtual 62, 3) := by decide +kernel
theorem dX4_comes_122 : decode cX4_comes 122 = .ok (.iadd, 1) := by decide +kernel
theorem dX4_comes_123 : decode cX4_comes 123 = .ok (.invokevirtual 69, 3) := by decide +kernel
theorem dX4_comes_126 : decode cX4_comes 126 = .ok (.ireturn, 1) := by decide +kernel
theorem dX4_comes_127 : decode cX4_comes 127 = .ok (.aload_n 0, 1) := by decide +kernel
theorem dX4_comes_128 : decode cX4_comes 128 = .ok (.aload_n 0, 1) := by decide +kernel
theorem dX4_comes_129 : decode cX4_comes 129 = .ok (.iload_n 1, 1) := by decide +kernel
theorem dX4_comes_130 : decode cX4_comes 130 = .ok (.iconst 1, 1) := by decide +kernel
theorem dX4_comes_131 : decode cX4_comes 131 = .ok (.iadd, 1) := by decide +kernel
theorem dX4_comes_132 : decode cX4_comes 132 = .ok (.invokevirtual 62, 3) := by decide +kernel
theorem dX4_comes_135 : decode cX4_comes 135 = .ok (.aload_n 0, 1) := by decide +kernel
theorem dX4_comes_136 : decode cX4_comes 136 = .ok (.iload_n 1, 1) := by decide +kernel
theorem dX4_comes_137 : decode cX4_comes 137 = .ok (.iconst 2, 1) := by decide +kernel
theorem dX4_comes_138 : decode cX4_comes 138 = .ok (.iadd, 1) := by decide +kernel
theorem dX4_comes_139 : decode cX4_comes 139 = .ok (.invokevirtual 62, 3) := by decide +kernel
theorem dX4_comes_142 : decode cX4_comes 142 = .ok (.invokevirtual 72, 3) := by decide +kernel
theorem dX4_comes_145 : decode cX4_comes 145 = .ok (.ireturn, 1) := by decide +kernel
theorem dX4_comes_146 : decode cX4_comes 146 = .ok (.aload_n 0, 1) := by decide +kernel
theorem dX4_comes_147 : decode cX4_comes 147 = .ok (.aload_n 0, 1) := by decide +kernel
theorem dX4_comes_148 : decode cX4_comes 148 = .ok (.iload_n 1, 1) := by decide +kernel
theorem dX4_comes_149 : decode cX4_comes 149 = .ok (.iconst 1, 1) := by decide +kernel
theorem dX4_comes_150 : decode cX4_comes 150 = .ok (.iadd, 1) := by decide +kernel
theorem dX4_comes_151 : decode cX4_comes 151 = .ok (.invokevirtual 62, 3) := by decide +kernel
theorem dX4_comes_154 : decode cX4_comes 154 = .ok (.aload_n 0, 1) := by decide +kernel
theorem dX4_comes_155 : decode cX4_comes 155 = .ok (.iload_n 1, 1) := by decide +kernel
theorem dX4_comes_156 : decode cX4_comes 156 = .ok (.iconst 2, 1) := by decide +kernel
theorem dX4_comes_157 : decode cX4_comes 157 = .ok (.iadd, 1) := by decide +kernel
theorem dX4_comes_158 : decode cX4_comes 158 = .ok (.invokevirtual 62, 3) := by decide +kernel
theorem dX4_comes_161 : decode cX4_comes 161 = .ok (.invokevirtual 76, 3) := by decide +kernel
theorem dX4_comes_164 : decode cX4_comes 164 = .ok (.ireturn, 1) := by decide +kernel
theorem dX4_comes_165 : decode cX4_comes 165 = .ok (.aload_n 0, 1) := by decide +kernel
theorem dX4_comes_166 : decode cX4_comes 166 = .ok (.getfield 18, 3) := by decide +kernel
theorem dX4_comes_169 : decode cX4_comes 169 = .ok (.invokevirtual 79, 3) := by decide +kernel
theorem dX4_comes_172 : decode cX4_comes 172 = .ok (.pop, 1) := by decide +kernel
theorem dX4_comes_173 : decode cX4_comes 173 = .ok (.iconst 1, 1) := by decide +kernel
theorem dX4_comes_174 : decode cX4_comes 174 = .ok (.ireturn, 1) := by decide +kernel
theorem dX4_comes_175 : decode cX4_comes 175 = .ok (.aload_n 0, 1) := by decide +kernel
theorem dX4_comes_176 : decode cX4_comes 176 = .ok (.getfield 18, 3) := by decide +kernel
theorem dX4_comes_179 : decode cX4_comes 179 = .ok (.invokevirtual 83, 3) := by decide +kernel
theorem dX4_comes_182 : decode cX4_comes 182 = .ok (.sipush 999, 3) := by decide +kernel
theorem dX4_comes_185 : decode cX4_comes 185 = .ok (.if_icmp .lt 5, 3) := by decide +kernel
theorem dX4_comes_188 : decode cX4_comes 188 = .ok (.iconst 0, 1) := by decide +kernel
theorem dX4_comes_189 : decode cX4_comes 189 = .ok (.ireturn, 1) := by decide +kernel
theorem dX4_comes_190 : decode cX4_comes 190 = .ok (.aload_n 0, 1) := by decide +kernel
theorem dX4_comes_191 : decode cX4_comes 191 = .ok (.getfield 18, 3) := by decide +kernel
theorem dX4_comes_194 : decode cX4_comes 194 = .ok (.aload_n 0, 1) := by decide +kernel
theorem dX4_comes_195 : decode cX4_comes 195 = .ok (.getfield 25, 3) := by decide +kernel
theorem dX4_comes_198 : decode cX4_comes 198 = .ok (.invokevirtual 86, 3) := by decide +kernel
theorem dX4_comes_201 : decode cX4_comes 201 = .ok (.pop, 1) := by decide +kernel
theorem dX4_comes_202 : decode cX4_comes 202 = .ok (.iconst 1, 1) := by decide +kernel
theorem dX4_comes_203 : decode cX4_comes 203 = .ok (.ireturn, 1) := by decide +kernel
theorem dX4_digit_0 : decode cX4_digit 0 = .ok (.aload_n 0, 1) := by decide +kernel
theorem dX4_digit_1 : decode cX4_digit 1 = .ok (.getfield 11, 3) := by decide +kernel
theorem dX4_digit_4 : decode cX4_digit 4 = .ok (.iload_n 1, 1) := by decide +kernel
theorem dX4_digit_5 : decode cX4_digit 5 = .ok (.invokestatic 44, 3) := by decide +kernel
theorem dX4_digit_8 : decode cX4_digit 8 = .ok (.bipush 48, 2) := by decide +kernel
theorem dX4_digit_10 : decode cX4_digit 10 = .ok (.isub, 1) := by decide +kernel
theorem dX4_digit_11 : decode cX4_digit 11 = .ok (.ireturn, 1) := by decide +kernel
theorem dX4_lawComes_0 : decode cX4_lawComes 0 = .ok (.iload_n 1, 1) := by decide +kernel
theorem dX4_lawComes_1 : decode cX4_lawComes 1 = .ok (.iconst 5, 1) := by decide +kernel
theorem dX4_lawComes_2 : decode cX4_lawComes 2 = .ok (.if_icmp .gt 28, 3) := by decide +kernel
theorem dX4_lawComes_5 : decode cX4_lawComes 5 = .ok (.iload_n 3, 1) := by decide +kernel
theorem dX4_lawComes_6 : decode cX4_lawComes 6 = .ok (.invokestatic 90, 3) := by decide +kernel
theorem dX4_lawComes_9 : decode cX4_lawComes 9 = .ok (.ifCond .eq 21, 3) := by decide +kernel
theorem dX4_lawComes_12 : decode cX4_lawComes 12 = .ok (.iload 4, 2) := by decide +kernel
theorem dX4_lawComes_14 : decode cX4_lawComes 14 = .ok (.invokestatic 90, 3) := by decide +kernel
theorem dX4_lawComes_17 : decode cX4_lawComes 17 = .ok (.ifCond .eq 13, 3) := by decide +kernel
theorem dX4_lawComes_20 : decode cX4_lawComes 20 = .ok (.aload_n 0, 1) := by decide +kernel
theorem dX4_lawComes_21 : decode cX4_lawComes 21 = .ok (.getfield 18, 3) := by decide +kernel
theorem dX4_lawComes_24 : decode cX4_lawComes 24 = .ok (.invokevirtual 93, 3) := by decide +kernel
theorem dX4_lawComes_27 : decode cX4_lawComes 27 = .ok (.ifCond .ne 5, 3) := by decide +kernel
theorem dX4_lawComes_30 : decode cX4_lawComes 30 = .ok (.iconst 0, 1) := by decide +kernel
theorem dX4_lawComes_31 : decode cX4_lawComes 31 = .ok (.ireturn, 1) := by decide +kernel
theorem dX4_lawComes_32 : decode cX4_lawComes 32 = .ok (.aload_n 0, 1) := by decide +kernel
theorem dX4_lawComes_33 : decode cX4_lawComes 33 = .ok (.getfield 18, 3) := by decide +kernel
theorem dX4_lawComes_36 : decode cX4_lawComes 36 = .ok (.iload_n 1, 1) := by decide +kernel
theorem dX4_lawComes_37 : decode cX4_lawComes 37 = .ok (.iload_n 2, 1) := by decide +kernel
theorem dX4_lawComes_38 : decode cX4_lawComes 38 = .ok (.iload_n 3, 1) := by decide +kernel
theorem dX4_lawComes_39 : decode cX4_lawComes 39 = .ok (.iload 4, 2) := by decide +kernel
theorem dX4_lawComes_41 : decode cX4_lawComes 41 = .ok (.invokevirtual 97, 3) := by decide +kernel
theorem dX4_lawComes_44 : decode cX4_lawComes 44 = .ok (.pop, 1) := by decide +kernel
theorem dX4_lawComes_45 : decode cX4_lawComes 45 = .ok (.iconst 1, 1) := by decide +kernel
theorem dX4_lawComes_46 : decode cX4_lawComes 46 = .ok (.ireturn, 1) := by decide +kernel
theorem dX4_personComes_0 : decode cX4_personComes 0 = .ok (.iload_n 1, 1) := by decide +kernel
theorem dX4_personComes_1 : decode cX4_personComes 1 = .ok (.sipush 255, 3) := by decide +kernel
theorem dX4_personComes_4 : decode cX4_personComes 4 = .ok (.if_icmp .gt 13, 3) := by decide +kernel
theorem dX4_personComes_7 : decode cX4_personComes 7 = .ok (.aload_n 0, 1) := by decide +kernel
theorem dX4_personComes_8 : decode cX4_personComes 8 = .ok (.getfield 18, 3) := by decide +kernel
theorem dX4_personComes_11 : decode cX4_personComes 11 = .ok (.invokevirtual 101, 3) := by decide +kernel
theorem dX4_personComes_14 : decode cX4_personComes 14 = .ok (.ifCond .ne 5, 3) := by decide +kernel
theorem dX4_personComes_17 : decode cX4_personComes 17 = .ok (.iconst 0, 1) := by decide +kernel
theorem dX4_personComes_18 : decode cX4_personComes 18 = .ok (.ireturn, 1) := by decide +kernel
theorem dX4_personComes_19 : decode cX4_personComes 19 = .ok (.aload_n 0, 1) := by decide +kernel
theorem dX4_personComes_20 : decode cX4_personComes 20 = .ok (.getfield 18, 3) := by decide +kernel
theorem dX4_personComes_23 : decode cX4_personComes 23 = .ok (.iload_n 1, 1) := by decide +kernel
theorem dX4_personComes_24 : decode cX4_personComes 24 = .ok (.invokevirtual 104, 3) := by decide +kernel
theorem dX4_personComes_27 : decode cX4_personComes 27 = .ok (.pop, 1) := by decide +kernel
theorem dX4_personComes_28 : decode cX4_personComes 28 = .ok (.iconst 1, 1) := by decide +kernel
theorem dX4_personComes_29 : decode cX4_personComes 29 = .ok (.ireturn, 1) := by decide +kernel
theorem dX4_isTaken_0 : decode cX4_isTaken 0 = .ok (.aload_n 0, 1) := by decide +kernel
theorem dX4_isTaken_1 : decode cX4_isTaken 1 = .ok (.getfield 18, 3) := by decide +kernel
theorem dX4_isTaken_4 : decode cX4_isTaken 4 = .ok (.iload_n 1, 1) := by decide +kernel
theorem dX4_isTaken_5 : decode cX4_isTaken 5 = .ok (.invokevirtual 107, 3) := by decide +kernel
theorem dX4_isTaken_8 : decode cX4_isTaken 8 = .ok (.ifCond .eq 18, 3) := by decide +kernel
theorem dX4_isTaken_11 : decode cX4_isTaken 11 = .ok (.aload_n 0, 1) := by decide +kernel
theorem dX4_isTaken_12 : decode cX4_isTaken 12 = .ok (.getfield 18, 3) := by decide +kernel
theorem dX4_isTaken_15 : decode cX4_isTaken 15 = .ok (.iload_n 1, 1) := by decide +kernel
theorem dX4_isTaken_16 : decode cX4_isTaken 16 = .ok (.invokevirtual 110, 3) := by decide +kernel
theorem dX4_isTaken_19 : decode cX4_isTaken 19 = .ok (.iload_n 2, 1) := by decide +kernel
theorem dX4_isTaken_20 : decode cX4_isTaken 20 = .ok (.invokestatic 113, 3) := by decide +kernel
theorem dX4_isTaken_23 : decode cX4_isTaken 23 = .ok (.ifCond .ne 5, 3) := by decide +kernel
theorem dX4_isTaken_26 : decode cX4_isTaken 26 = .ok (.iconst 0, 1) := by decide +kernel
theorem dX4_isTaken_27 : decode cX4_isTaken 27 = .ok (.ireturn, 1) := by decide +kernel
theorem dX4_isTaken_28 : decode cX4_isTaken 28 = .ok (.aload_n 0, 1) := by decide +kernel
theorem dX4_isTaken_29 : decode cX4_isTaken 29 = .ok (.getfield 18, 3) := by decide +kernel
theorem dX4_isTaken_32 : decode cX4_isTaken 32 = .ok (.iload_n 1, 1) := by decide +kernel
theorem dX4_isTaken_33 : decode cX4_isTaken 33 = .ok (.iload_n 2, 1) := by decide +kernel
theorem dX4_isTaken_34 : decode cX4_isTaken 34 = .ok (.invokevirtual 116, 3) := by decide +kernel
theorem dX4_isTaken_37 : decode cX4_isTaken 37 = .ok (.pop, 1) := by decide +kernel
theorem dX4_isTaken_38 : decode cX4_isTaken 38 = .ok (.iconst 1, 1) := by decide +kernel
theorem dX4_isTaken_39 : decode cX4_isTaken 39 = .ok (.ireturn, 1) := by decide +kernel
theorem dX4_isBrought_0 : decode cX4_isBrought 0 = .ok (.aload_n 0, 1) := by decide +kernel
theorem dX4_isBrought_1 : decode cX4_isBrought 1 = .ok (.getfield 18, 3) := by decide +kernel
theorem dX4_isBrought_4 : decode cX4_isBrought 4 = .ok (.iload_n 1, 1) := by decide +kernel
theorem dX4_isBrought_5 : decode cX4_isBrought 5 = .ok (.invokevirtual 107, 3) := by decide +kernel
theorem dX4_isBrought_8 : decode cX4_isBrought 8 = .ok (.ifCond .eq 10, 3) := by decide +kernel
theorem dX4_isBrought_11 : decode cX4_isBrought 11 = .ok (.iload_n 2, 1) := by decide +kernel
theorem dX4_isBrought_12 : decode cX4_isBrought 12 = .ok (.invokestatic 90, 3) := by decide +kernel
theorem dX4_isBrought_15 : decode cX4_isBrought 15 = .ok (.ifCond .ne 5, 3) := by decide +kernel
theorem dX4_isBrought_18 : decode cX4_isBrought 18 = .ok (.iconst 0, 1) := by decide +kernel
theorem dX4_isBrought_19 : decode cX4_isBrought 19 = .ok (.ireturn, 1) := by decide +kernel
theorem dX4_isBrought_20 : decode cX4_isBrought 20 = .ok (.aload_n 0, 1) := by decide +kernel
theorem dX4_isBrought_21 : decode cX4_isBrought 21 = .ok (.getfield 18, 3) := by decide +kernel
theorem dX4_isBrought_24 : decode cX4_isBrought 24 = .ok (.iload_n 1, 1) := by decide +kernel
theorem dX4_isBrought_25 : decode cX4_isBrought 25 = .ok (.iload_n 2, 1) := by decide +kernel
theorem dX4_isBrought_26 : decode cX4_isBrought 26 = .ok (.invokevirtual 119, 3) := by decide +kernel
theorem dX4_isBrought_29 : decode cX4_isBrought 29 = .ok (.pop, 1) := by decide +kernel
theorem dX4_isBrought_30 : decode cX4_isBrought 30 = .ok (.iconst 1, 1) := by decide +kernel
theorem dX4_isBrought_31 : decode cX4_isBrought 31 = .ok (.ireturn, 1) := by decide +kernel
theorem dX5_init_0 : decode cX5_init 0 = .ok (.aload_n 0, 1) := by decide +kernel
theorem dX5_init_1 : decode cX5_init 1 = .ok (.invokespecial 1, 3) := by decide +kernel
theorem dX5_init_4 : decode cX5_init 4 = .ok (.aload_n 0, 1) := by decide +kernel
theorem dX5_init_5 : decode cX5_init 5 = .ok (.bipush 8, 2) := by decide +kernel
theorem dX5_init_7 : decode cX5_init 7 = .ok (.anewarray 9, 3) := by decide +kernel
theorem dX5_init_10 : decode cX5_init 10 = .ok (.putfield 11, 3) := by decide +kernel
theorem dX5_init_13 : decode cX5_init 13 = .ok (.iconst 0, 1) := by decide +kernel
theorem dX5_init_14 : decode cX5_init 14 = .ok (.istore_n 1, 1) := by decide +kernel
theorem dX5_init_15 : decode cX5_init 15 = .ok (.iload_n 1, 1) := by decide +kernel
theorem dX5_init_16 : decode cX5_init 16 = .ok (.aload_n 0, 1) := by decide +kernel
theorem dX5_init_17 : decode cX5_init 17 = .ok (.getfield 11, 3) := by decide +kernel
theorem dX5_init_20 : decode cX5_init 20 = .ok (.arraylength, 1) := by decide +kernel
theorem dX5_init_21 : decode cX5_init 21 = .ok (.if_icmp .ge 22, 3) := by decide +kernel
theorem dX5_init_24 : decode cX5_init 24 = .ok (.aload_n 0, 1) := by decide +kernel
theorem dX5_init_25 : decode cX5_init 25 = .ok (.getfield 11, 3) := by decide +kernel
theorem dX5_init_28 : decode cX5_init 28 = .ok (.iload_n 1, 1) := by decide +kernel
theorem dX5_init_29 : decode cX5_init 29 = .ok (.new 9, 3) := by decide +kernel
theorem dX5_init_32 : decode cX5_init 32 = .ok (.dup, 1) := by decide +kernel
theorem dX5_init_33 : decode cX5_init 33 = .ok (.invokespecial 15, 3) := by decide +kernel
theorem dX5_init_36 : decode cX5_init 36 = .ok (.aastore, 1) := by decide +kernel
theorem dX5_init_37 : decode cX5_init 37 = .ok (.iinc 1 1, 3) := by decide +kernel
theorem dX5_init_40 : decode cX5_init 40 = .ok (.goto (-25), 3) := by decide +kernel
theorem dX5_init_43 : decode cX5_init 43 = .ok (.return_, 1) := by decide +kernel
theorem dX5_size_0 : decode cX5_size 0 = .ok (.aload_n 0, 1) := by decide +kernel
theorem dX5_size_1 : decode cX5_size 1 = .ok (.getfield 16, 3) := by decide +kernel
theorem dX5_size_4 : decode cX5_size 4 = .ok (.ireturn, 1) := by decide +kernel
theorem dX5_forget_0 : decode cX5_forget 0 = .ok (.aload_n 0, 1) := by decide +kernel
theorem dX5_forget_1 : decode cX5_forget 1 = .ok (.iconst 0, 1) := by decide +kernel
theorem dX5_forget_2 : decode cX5_forget 2 = .ok (.putfield 16, 3) := by decide +kernel
theorem dX5_forget_5 : decode cX5_forget 5 = .ok (.return_, 1) := by decide +kernel
theorem dX5_keep_0 : decode cX5_keep 0 = .ok (.aload_n 0, 1) := by decide +kernel
theorem dX5_keep_1 : decode cX5_keep 1 = .ok (.aload_n 0, 1) := by decide +kernel
theorem dX5_keep_2 : decode cX5_keep 2 = .ok (.getfield 20, 3) := by decide +kernel
theorem dX5_keep_5 : decode cX5_keep 5 = .ok (.invokevirtual 23, 3) := by decide +kernel
theorem dX5_keep_8 : decode cX5_keep 8 = .ok (.astore_n 2, 1) := by decide +kernel
theorem dX5_keep_9 : decode cX5_keep 9 = .ok (.aload_n 2, 1) := by decide +kernel
theorem dX5_keep_10 : decode cX5_keep 10 = .ok (.ifnull 8, 3) := by decide +kernel
theorem dX5_keep_13 : decode cX5_keep 13 = .ok (.aload_n 2, 1) := by decide +kernel
theorem dX5_keep_14 : decode cX5_keep 14 = .ok (.aload_n 1, 1) := by decide +kernel
theorem dX5_keep_15 : decode cX5_keep 15 = .ok (.invokevirtual 27, 3) := by decide +kernel
theorem dX5_keep_18 : decode cX5_keep 18 = .ok (.aload_n 0, 1) := by decide +kernel
theorem dX5_keep_19 : decode cX5_keep 19 = .ok (.aload_n 0, 1) := by decide +kernel
theorem dX5_keep_20 : decode cX5_keep 20 = .ok (.getfield 20, 3) := by decide +kernel
theorem dX5_keep_23 : decode cX5_keep 23 = .ok (.bipush 7, 2) := by decide +kernel
theorem dX5_keep_25 : decode cX5_keep 25 = .ok (.if_icmp .ne 7, 3) := by decide +kernel
theorem dX5_keep_28 : decode cX5_keep 28 = .ok (.iconst 0, 1) := by decide +kernel
theorem dX5_keep_29 : decode cX5_keep 29 = .ok (.goto 9, 3) := by decide +kernel
theorem dX5_keep_32 : decode cX5_keep 32 = .ok (.aload_n 0, 1) := by decide +kernel
theorem dX5_keep_33 : decode cX5_keep 33 = .ok (.getfield 20, 3) := by decide +kernel
theorem dX5_keep_36 : decode cX5_keep 36 = .ok (.iconst 1, 1) := by decide +kernel
theorem dX5_keep_37 : decode cX5_keep 37 = .ok (.iadd, 1) := by decide +kernel
theorem dX5_keep_38 : decode cX5_keep 38 = .ok (.putfield 20, 3) := by decide +kernel
theorem dX5_keep_41 : decode cX5_keep 41 = .ok (.aload_n 0, 1) := by decide +kernel
theorem dX5_keep_42 : decode cX5_keep 42 = .ok (.getfield 16, 3) := by decide +kernel
theorem dX5_keep_45 : decode cX5_keep 45 = .ok (.bipush 8, 2) := by decide +kernel
theorem dX5_keep_47 : decode cX5_keep 47 = .ok (.if_icmp .ge 13, 3) := by decide +kernel
theorem dX5_keep_50 : decode cX5_keep 50 = .ok (.aload_n 0, 1) := by decide +kernel
theorem dX5_keep_51 : decode cX5_keep 51 = .ok (.dup, 1) := by decide +kernel
theorem dX5_keep_52 : decode cX5_keep 52 = .ok (.getfield 16, 3) := by decide +kernel
theorem dX5_keep_55 : decode cX5_keep 55 = .ok (.iconst 1, 1) := by decide +kernel
theorem dX5_keep_56 : decode cX5_keep 56 = .ok (.iadd, 1) := by decide +kernel
theorem dX5_keep_57 : decode cX5_keep 57 = .ok (.putfield 16, 3) := by decide +kernel
theorem dX5_keep_60 : decode cX5_keep 60 = .ok (.return_, 1) := by decide +kernel
theorem dX5_undo_0 : decode cX5_undo 0 = .ok (.aload_n 0, 1) := by decide +kernel
theorem dX5_undo_1 : decode cX5_undo 1 = .ok (.aload_n 0, 1) := by decide +kernel
theorem dX5_undo_2 : decode cX5_undo 2 = .ok (.getfield 20, 3) := by decide +kernel
theorem dX5_undo_5 : decode cX5_undo 5 = .ok (.ifCond .ne 8, 3) := by decide +kernel
theorem dX5_undo_8 : decode cX5_undo 8 = .ok (.bipush 7, 2) := by decide +kernel
theorem dX5_undo_10 : decode cX5_undo 10 = .ok (.goto 9, 3) := by decide +kernel
theorem dX5_undo_13 : decode cX5_undo 13 = .ok (.aload_n 0, 1) := by decide +kernel
theorem dX5_undo_14 : decode cX5_undo 14 = .ok (.getfield 20, 3) := by decide +kernel
theorem dX5_undo_17 : decode cX5_undo 17 = .ok (.iconst 1, 1) := by decide +kernel
theorem dX5_undo_18 : decode cX5_undo 18 = .ok (.isub, 1) := by decide +kernel
theorem dX5_undo_19 : decode cX5_undo 19 = .ok (.putfield 20, 3) := by decide +kernel
theorem dX5_undo_22 : decode cX5_undo 22 = .ok (.aload_n 0, 1) := by decide +kernel
theorem dX5_undo_23 : decode cX5_undo 23 = .ok (.aload_n 0, 1) := by decide +kernel
theorem dX5_undo_24 : decode cX5_undo 24 = .ok (.getfield 20, 3) := by decide +kernel
theorem dX5_undo_27 : decode cX5_undo 27 = .ok (.invokevirtual 23, 3) := by decide +kernel
theorem dX5_undo_30 : decode cX5_undo 30 = .ok (.astore_n 2, 1) := by decide +kernel
theorem dX5_undo_31 : decode cX5_undo 31 = .ok (.aload_n 2, 1) := by decide +kernel
theorem dX5_undo_32 : decode cX5_undo 32 = .ok (.ifnull 8, 3) := by decide +kernel
theorem dX5_undo_35 : decode cX5_undo 35 = .ok (.aload_n 1, 1) := by decide +kernel
theorem dX5_undo_36 : decode cX5_undo 36 = .ok (.aload_n 2, 1) := by decide +kernel
theorem dX5_undo_37 : decode cX5_undo 37 = .ok (.invokevirtual 27, 3) := by decide +kernel
theorem dX5_undo_40 : decode cX5_undo 40 = .ok (.aload_n 0, 1) := by decide +kernel
theorem dX5_undo_41 : decode cX5_undo 41 = .ok (.dup, 1) := by decide +kernel
theorem dX5_undo_42 : decode cX5_undo 42 = .ok (.getfield 16, 3) := by decide +kernel
theorem dX5_undo_45 : decode cX5_undo 45 = .ok (.iconst 1, 1) := by decide +kernel
theorem dX5_undo_46 : decode cX5_undo 46 = .ok (.isub, 1) := by decide +kernel
theorem dX5_undo_47 : decode cX5_undo 47 = .ok (.putfield 16, 3) := by decide +kernel
theorem dX5_undo_50 : decode cX5_undo 50 = .ok (.aload_n 0, 1) := by decide +kernel
theorem dX5_undo_51 : decode cX5_undo 51 = .ok (.getfield 16, 3) := by decide +kernel
theorem dX5_undo_54 : decode cX5_undo 54 = .ok (.ireturn, 1) := by decide +kernel
theorem dX5_worldAt_0 : decode cX5_worldAt 0 = .ok (.iload_n 1, 1) := by decide +kernel
theorem dX5_worldAt_1 : decode cX5_worldAt 1 = .ok (.ifCond .lt 21, 3) := by decide +kernel
theorem dX5_worldAt_4 : decode cX5_worldAt 4 = .ok (.iload_n 1, 1) := by decide +kernel
theorem dX5_worldAt_5 : decode cX5_worldAt 5 = .ok (.aload_n 0, 1) := by decide +kernel
theorem dX5_worldAt_6 : decode cX5_worldAt 6 = .ok (.getfield 11, 3) := by decide +kernel
theorem dX5_worldAt_9 : decode cX5_worldAt 9 = .ok (.arraylength, 1) := by decide +kernel
theorem dX5_worldAt_10 : decode cX5_worldAt 10 = .ok (.if_icmp .ge 12, 3) := by decide +kernel
theorem dX5_worldAt_13 : decode cX5_worldAt 13 = .ok (.aload_n 0, 1) := by decide +kernel
theorem dX5_worldAt_14 : decode cX5_worldAt 14 = .ok (.getfield 11, 3) := by decide +kernel
theorem dX5_worldAt_17 : decode cX5_worldAt 17 = .ok (.iload_n 1, 1) := by decide +kernel
theorem dX5_worldAt_18 : decode cX5_worldAt 18 = .ok (.aaload, 1) := by decide +kernel
theorem dX5_worldAt_19 : decode cX5_worldAt 19 = .ok (.goto 4, 3) := by decide +kernel
theorem dX5_worldAt_22 : decode cX5_worldAt 22 = .ok (.aconst_null, 1) := by decide +kernel
theorem dX5_worldAt_23 : decode cX5_worldAt 23 = .ok (.areturn, 1) := by decide +kernel
theorem dX6_init_0 : decode cX6_init 0 = .ok (.aload_n 0, 1) := by decide +kernel
theorem dX6_init_1 : decode cX6_init 1 = .ok (.invokespecial 3, 3) := by decide +kernel
theorem dX6_init_4 : decode cX6_init 4 = .ok (.aload_n 0, 1) := by decide +kernel
theorem dX6_init_5 : decode cX6_init 5 = .ok (.new 9, 3) := by decide +kernel
theorem dX6_init_8 : decode cX6_init 8 = .ok (.dup, 1) := by decide +kernel
theorem dX6_init_9 : decode cX6_init 9 = .ok (.invokespecial 11, 3) := by decide +kernel
theorem dX6_init_12 : decode cX6_init 12 = .ok (.putfield 12, 3) := by decide +kernel
theorem dX6_init_15 : decode cX6_init 15 = .ok (.return_, 1) := by decide +kernel
theorem dX6_fewestTaken_0 : decode cX6_fewestTaken 0 = .ok (.bipush (-9), 2) := by decide +kernel
theorem dX6_fewestTaken_2 : decode cX6_fewestTaken 2 = .ok (.istore 4, 2) := by decide +kernel
theorem dX6_fewestTaken_4 : decode cX6_fewestTaken 4 = .ok (.iconst 0, 1) := by decide +kernel
theorem dX6_fewestTaken_5 : decode cX6_fewestTaken 5 = .ok (.istore 5, 2) := by decide +kernel
theorem dX6_fewestTaken_7 : decode cX6_fewestTaken 7 = .ok (.iload 5, 2) := by decide +kernel
theorem dX6_fewestTaken_9 : decode cX6_fewestTaken 9 = .ok (.sipush 255, 3) := by decide +kernel
theorem dX6_fewestTaken_12 : decode cX6_fewestTaken 12 = .ok (.if_icmp .gt 55, 3) := by decide +kernel
theorem dX6_fewestTaken_15 : decode cX6_fewestTaken 15 = .ok (.iload 5, 2) := by decide +kernel
theorem dX6_fewestTaken_17 : decode cX6_fewestTaken 17 = .ok (.iload_n 2, 1) := by decide +kernel
theorem dX6_fewestTaken_18 : decode cX6_fewestTaken 18 = .ok (.iconst (-1), 1) := by decide +kernel
theorem dX6_fewestTaken_19 : decode cX6_fewestTaken 19 = .ok (.ixor, 1) := by decide +kernel
theorem dX6_fewestTaken_20 : decode cX6_fewestTaken 20 = .ok (.iand, 1) := by decide +kernel
theorem dX6_fewestTaken_21 : decode cX6_fewestTaken 21 = .ok (.ifCond .ne 40, 3) := by decide +kernel
theorem dX6_fewestTaken_24 : decode cX6_fewestTaken 24 = .ok (.iload 5, 2) := by decide +kernel
theorem dX6_fewestTaken_26 : decode cX6_fewestTaken 26 = .ok (.iload 4, 2) := by decide +kernel
theorem dX6_fewestTaken_28 : decode cX6_fewestTaken 28 = .ok (.invokestatic 18, 3) := by decide +kernel
theorem dX6_fewestTaken_31 : decode cX6_fewestTaken 31 = .ok (.ifCond .ne 6, 3) := by decide +kernel
theorem dX6_fewestTaken_34 : decode cX6_fewestTaken 34 = .ok (.goto 27, 3) := by decide +kernel
theorem dX6_fewestTaken_37 : decode cX6_fewestTaken 37 = .ok (.aload_n 0, 1) := by decide +kernel
theorem dX6_fewestTaken_38 : decode cX6_fewestTaken 38 = .ok (.getfield 12, 3) := by decide +kernel
theorem dX6_fewestTaken_41 : decode cX6_fewestTaken 41 = .ok (.aload_n 1, 1) := by decide +kernel
theorem dX6_fewestTaken_42 : decode cX6_fewestTaken 42 = .ok (.iload_n 2, 1) := by decide +kernel
theorem dX6_fewestTaken_43 : decode cX6_fewestTaken 43 = .ok (.iload 5, 2) := by decide +kernel
theorem dX6_fewestTaken_45 : decode cX6_fewestTaken 45 = .ok (.iconst (-1), 1) := by decide +kernel
theorem dX6_fewestTaken_46 : decode cX6_fewestTaken 46 = .ok (.ixor, 1) := by decide +kernel
theorem dX6_fewestTaken_47 : decode cX6_fewestTaken 47 = .ok (.iand, 1) := by decide +kernel
theorem dX6_fewestTaken_48 : decode cX6_fewestTaken 48 = .ok (.iconst 0, 1) := by decide +kernel
theorem dX6_fewestTaken_49 : decode cX6_fewestTaken 49 = .ok (.invokevirtual 22, 3) := by decide +kernel
theorem dX6_fewestTaken_52 : decode cX6_fewestTaken 52 = .ok (.iload_n 3, 1) := by decide +kernel
theorem dX6_fewestTaken_53 : decode cX6_fewestTaken 53 = .ok (.iand, 1) := by decide +kernel
theorem dX6_fewestTaken_54 : decode cX6_fewestTaken 54 = .ok (.ifCond .ne 7, 3) := by decide +kernel
theorem dX6_fewestTaken_57 : decode cX6_fewestTaken 57 = .ok (.iload 5, 2) := by decide +kernel
theorem dX6_fewestTaken_59 : decode cX6_fewestTaken 59 = .ok (.istore 4, 2) := by decide +kernel
theorem dX6_fewestTaken_61 : decode cX6_fewestTaken 61 = .ok (.iinc 5 1, 3) := by decide +kernel
theorem dX6_fewestTaken_64 : decode cX6_fewestTaken 64 = .ok (.goto (-57), 3) := by decide +kernel
theorem dX6_fewestTaken_67 : decode cX6_fewestTaken 67 = .ok (.iload 4, 2) := by decide +kernel
theorem dX6_fewestTaken_69 : decode cX6_fewestTaken 69 = .ok (.ireturn, 1) := by decide +kernel
theorem dX6_agreeing_0 : decode cX6_agreeing 0 = .ok (.iconst 0, 1) := by decide +kernel
theorem dX6_agreeing_1 : decode cX6_agreeing 1 = .ok (.istore 4, 2) := by decide +kernel
theorem dX6_agreeing_3 : decode cX6_agreeing 3 = .ok (.bipush (-9), 2) := by decide +kernel
theorem dX6_agreeing_5 : decode cX6_agreeing 5 = .ok (.istore 5, 2) := by decide +kernel
theorem dX6_agreeing_7 : decode cX6_agreeing 7 = .ok (.iconst 0, 1) := by decide +kernel
theorem dX6_agreeing_8 : decode cX6_agreeing 8 = .ok (.istore 6, 2) := by decide +kernel
theorem dX6_agreeing_10 : decode cX6_agreeing 10 = .ok (.iload 6, 2) := by decide +kernel
theorem dX6_agreeing_12 : decode cX6_agreeing 12 = .ok (.sipush 255, 3) := by decide +kernel
theorem dX6_agreeing_15 : decode cX6_agreeing 15 = .ok (.if_icmp .gt 76, 3) := by decide +kernel
theorem dX6_agreeing_18 : decode cX6_agreeing 18 = .ok (.iload 6, 2) := by decide +kernel
theorem dX6_agreeing_20 : decode cX6_agreeing 20 = .ok (.iload_n 2, 1) := by decide +kernel
theorem dX6_agreeing_21 : decode cX6_agreeing 21 = .ok (.iconst (-1), 1) := by decide +kernel
theorem dX6_agreeing_22 : decode cX6_agreeing 22 = .ok (.ixor, 1) := by decide +kernel
theorem dX6_agreeing_23 : decode cX6_agreeing 23 = .ok (.iand, 1) := by decide +kernel
theorem dX6_agreeing_24 : decode cX6_agreeing 24 = .ok (.ifCond .eq 6, 3) := by decide +kernel
theorem dX6_agreeing_27 : decode cX6_agreeing 27 = .ok (.goto 58, 3) := by decide +kernel
theorem dX6_agreeing_30 : decode cX6_agreeing 30 = .ok (.iload_n 2, 1) := by decide +kernel
theorem dX6_agreeing_31 : decode cX6_agreeing 31 = .ok (.iload 6, 2) := by decide +kernel
theorem dX6_agreeing_33 : decode cX6_agreeing 33 = .ok (.iconst (-1), 1) := by decide +kernel
theorem dX6_agreeing_34 : decode cX6_agreeing 34 = .ok (.ixor, 1) := by decide +kernel
theorem dX6_agreeing_35 : decode cX6_agreeing 35 = .ok (.iand, 1) := by decide +kernel
theorem dX6_agreeing_36 : decode cX6_agreeing 36 = .ok (.istore 7, 2) := by decide +kernel
theorem dX6_agreeing_38 : decode cX6_agreeing 38 = .ok (.aload_n 0, 1) := by decide +kernel
theorem dX6_agreeing_39 : decode cX6_agreeing 39 = .ok (.getfield 12, 3) := by decide +kernel
theorem dX6_agreeing_42 : decode cX6_agreeing 42 = .ok (.aload_n 1, 1) := by decide +kernel
theorem dX6_agreeing_43 : decode cX6_agreeing 43 = .ok (.iload 7, 2) := by decide +kernel
theorem dX6_agreeing_45 : decode cX6_agreeing 45 = .ok (.iconst 0, 1) := by decide +kernel
theorem dX6_agreeing_46 : decode cX6_agreeing 46 = .ok (.invokevirtual 22, 3) := by decide +kernel
theorem dX6_agreeing_49 : decode cX6_agreeing 49 = .ok (.pop, 1) := by decide +kernel
theorem dX6_agreeing_50 : decode cX6_agreeing 50 = .ok (.iload 7, 2) := by decide +kernel
theorem dX6_agreeing_52 : decode cX6_agreeing 52 = .ok (.aload_n 0, 1) := by decide +kernel
theorem dX6_agreeing_53 : decode cX6_agreeing 53 = .ok (.getfield 12, 3) := by decide +kernel
theorem dX6_agreeing_56 : decode cX6_agreeing 56 = .ok (.invokevirtual 26, 3) := by decide +kernel
theorem dX6_agreeing_59 : decode cX6_agreeing 59 = .ok (.iconst (-1), 1) := by decide +kernel
theorem dX6_agreeing_60 : decode cX6_agreeing 60 = .ok (.ixor, 1) := by decide +kernel
theorem dX6_agreeing_61 : decode cX6_agreeing 61 = .ok (.iand, 1) := by decide +kernel
theorem dX6_agreeing_62 : decode cX6_agreeing 62 = .ok (.ifCond .eq 6, 3) := by decide +kernel
theorem dX6_agreeing_65 : decode cX6_agreeing 65 = .ok (.goto 20, 3) := by decide +kernel
theorem dX6_agreeing_68 : decode cX6_agreeing 68 = .ok (.iinc 4 1, 3) := by decide +kernel
theorem dX6_agreeing_71 : decode cX6_agreeing 71 = .ok (.iload 6, 2) := by decide +kernel
theorem dX6_agreeing_73 : decode cX6_agreeing 73 = .ok (.iload 5, 2) := by decide +kernel
theorem dX6_agreeing_75 : decode cX6_agreeing 75 = .ok (.invokestatic 18, 3) := by decide +kernel
theorem dX6_agreeing_78 : decode cX6_agreeing 78 = .ok (.ifCond .eq 7, 3) := by decide +kernel
theorem dX6_agreeing_81 : decode cX6_agreeing 81 = .ok (.iload 6, 2) := by decide +kernel
theorem dX6_agreeing_83 : decode cX6_agreeing 83 = .ok (.istore 5, 2) := by decide +kernel
theorem dX6_agreeing_85 : decode cX6_agreeing 85 = .ok (.iinc 6 1, 3) := by decide +kernel
theorem dX6_agreeing_88 : decode cX6_agreeing 88 = .ok (.goto (-78), 3) := by decide +kernel
theorem dX6_agreeing_91 : decode cX6_agreeing 91 = .ok (.iload_n 3, 1) := by decide +kernel
theorem dX6_agreeing_92 : decode cX6_agreeing 92 = .ok (.ifCond .ne 8, 3) := by decide +kernel
theorem dX6_agreeing_95 : decode cX6_agreeing 95 = .ok (.iload 4, 2) := by decide +kernel
theorem dX6_agreeing_97 : decode cX6_agreeing 97 = .ok (.goto 5, 3) := by decide +kernel
theorem dX6_agreeing_100 : decode cX6_agreeing 100 = .ok (.iload 5, 2) := by decide +kernel
theorem dX6_agreeing_102 : decode cX6_agreeing 102 = .ok (.ireturn, 1) := by decide +kernel
theorem dX6_fewestBrought_0 : decode cX6_fewestBrought 0 = .ok (.bipush (-9), 2) := by decide +kernel
theorem dX6_fewestBrought_2 : decode cX6_fewestBrought 2 = .ok (.istore 4, 2) := by decide +kernel
theorem dX6_fewestBrought_4 : decode cX6_fewestBrought 4 = .ok (.iconst 0, 1) := by decide +kernel
theorem dX6_fewestBrought_5 : decode cX6_fewestBrought 5 = .ok (.istore 5, 2) := by decide +kernel
theorem dX6_fewestBrought_7 : decode cX6_fewestBrought 7 = .ok (.iload 5, 2) := by decide +kernel
theorem dX6_fewestBrought_9 : decode cX6_fewestBrought 9 = .ok (.sipush 255, 3) := by decide +kernel
theorem dX6_fewestBrought_12 : decode cX6_fewestBrought 12 = .ok (.if_icmp .gt 58, 3) := by decide +kernel
theorem dX6_fewestBrought_15 : decode cX6_fewestBrought 15 = .ok (.iload 5, 2) := by decide +kernel
theorem dX6_fewestBrought_17 : decode cX6_fewestBrought 17 = .ok (.iload_n 2, 1) := by decide +kernel
theorem dX6_fewestBrought_18 : decode cX6_fewestBrought 18 = .ok (.iand, 1) := by decide +kernel
theorem dX6_fewestBrought_19 : decode cX6_fewestBrought 19 = .ok (.ifCond .ne 45, 3) := by decide +kernel
theorem dX6_fewestBrought_22 : decode cX6_fewestBrought 22 = .ok (.iload 5, 2) := by decide +kernel
theorem dX6_fewestBrought_24 : decode cX6_fewestBrought 24 = .ok (.iload 4, 2) := by decide +kernel
theorem dX6_fewestBrought_26 : decode cX6_fewestBrought 26 = .ok (.invokestatic 18, 3) := by decide +kernel
theorem dX6_fewestBrought_29 : decode cX6_fewestBrought 29 = .ok (.ifCond .ne 6, 3) := by decide +kernel
theorem dX6_fewestBrought_32 : decode cX6_fewestBrought 32 = .ok (.goto 32, 3) := by decide +kernel
theorem dX6_fewestBrought_35 : decode cX6_fewestBrought 35 = .ok (.aload_n 0, 1) := by decide +kernel
theorem dX6_fewestBrought_36 : decode cX6_fewestBrought 36 = .ok (.getfield 12, 3) := by decide +kernel
theorem dX6_fewestBrought_39 : decode cX6_fewestBrought 39 = .ok (.aload_n 1, 1) := by decide +kernel
theorem dX6_fewestBrought_40 : decode cX6_fewestBrought 40 = .ok (.iload_n 2, 1) := by decide +kernel
theorem dX6_fewestBrought_41 : decode cX6_fewestBrought 41 = .ok (.iload 5, 2) := by decide +kernel
theorem dX6_fewestBrought_43 : decode cX6_fewestBrought 43 = .ok (.ior, 1) := by decide +kernel
theorem dX6_fewestBrought_44 : decode cX6_fewestBrought 44 = .ok (.iconst 0, 1) := by decide +kernel
theorem dX6_fewestBrought_45 : decode cX6_fewestBrought 45 = .ok (.invokevirtual 22, 3) := by decide +kernel
theorem dX6_fewestBrought_48 : decode cX6_fewestBrought 48 = .ok (.pop, 1) := by decide +kernel
theorem dX6_fewestBrought_49 : decode cX6_fewestBrought 49 = .ok (.aload_n 0, 1) := by decide +kernel
theorem dX6_fewestBrought_50 : decode cX6_fewestBrought 50 = .ok (.getfield 12, 3) := by decide +kernel
theorem dX6_fewestBrought_53 : decode cX6_fewestBrought 53 = .ok (.iload_n 3, 1) := by decide +kernel
theorem dX6_fewestBrought_54 : decode cX6_fewestBrought 54 = .ok (.invokevirtual 30, 3) := by decide +kernel
theorem dX6_fewestBrought_57 : decode cX6_fewestBrought 57 = .ok (.ifCond .eq 7, 3) := by decide +kernel
theorem dX6_fewestBrought_60 : decode cX6_fewestBrought 60 = .ok (.iload 5, 2) := by decide +kernel
theorem dX6_fewestBrought_62 : decode cX6_fewestBrought 62 = .ok (.istore 4, 2) := by decide +kernel
theorem dX6_fewestBrought_64 : decode cX6_fewestBrought 64 = .ok (.iinc 5 1, 3) := by decide +kernel
theorem dX6_fewestBrought_67 : decode cX6_fewestBrought 67 = .ok (.goto (-60), 3) := by decide +kernel
theorem dX6_fewestBrought_70 : decode cX6_fewestBrought 70 = .ok (.iload 4, 2) := by decide +kernel
theorem dX6_fewestBrought_72 : decode cX6_fewestBrought 72 = .ok (.ireturn, 1) := by decide +kernel
theorem dX6_busiestPockets_0 : decode cX6_busiestPockets 0 = .ok (.iconst 0, 1) := by decide +kernel
theorem dX6_busiestPockets_1 : decode cX6_busiestPockets 1 = .ok (.istore_n 2, 1) := by decide +kernel
theorem dX6_busiestPockets_2 : decode cX6_busiestPockets 2 = .ok (.iconst (-1), 1) := by decide +kernel
theorem dX6_busiestPockets_3 : decode cX6_busiestPockets 3 = .ok (.istore_n 3, 1) := by decide +kernel
theorem dX6_busiestPockets_4 : decode cX6_busiestPockets 4 = .ok (.iconst 0, 1) := by decide +kernel
theorem dX6_busiestPockets_5 : decode cX6_busiestPockets 5 = .ok (.istore 4, 2) := by decide +kernel
theorem dX6_busiestPockets_7 : decode cX6_busiestPockets 7 = .ok (.iload 4, 2) := by decide +kernel
theorem dX6_busiestPockets_9 : decode cX6_busiestPockets 9 = .ok (.sipush 255, 3) := by decide +kernel
theorem dX6_busiestPockets_12 : decode cX6_busiestPockets 12 = .ok (.if_icmp .gt 33, 3) := by decide +kernel
theorem dX6_busiestPockets_15 : decode cX6_busiestPockets 15 = .ok (.aload_n 0, 1) := by decide +kernel
theorem dX6_busiestPockets_16 : decode cX6_busiestPockets 16 = .ok (.getfield 12, 3) := by decide +kernel
theorem dX6_busiestPockets_19 : decode cX6_busiestPockets 19 = .ok (.aload_n 1, 1) := by decide +kernel
theorem dX6_busiestPockets_20 : decode cX6_busiestPockets 20 = .ok (.iload 4, 2) := by decide +kernel
theorem dX6_busiestPockets_22 : decode cX6_busiestPockets 22 = .ok (.invokevirtual 34, 3) := by decide +kernel
theorem dX6_busiestPockets_25 : decode cX6_busiestPockets 25 = .ok (.istore 5, 2) := by decide +kernel
theorem dX6_busiestPockets_27 : decode cX6_busiestPockets 27 = .ok (.iload 5, 2) := by decide +kernel
theorem dX6_busiestPockets_29 : decode cX6_busiestPockets 29 = .ok (.iload_n 3, 1) := by decide +kernel
theorem dX6_busiestPockets_30 : decode cX6_busiestPockets 30 = .ok (.if_icmp .le 9, 3) := by decide +kernel
theorem dX6_busiestPockets_33 : decode cX6_busiestPockets 33 = .ok (.iload 5, 2) := by decide +kernel
theorem dX6_busiestPockets_35 : decode cX6_busiestPockets 35 = .ok (.istore_n 3, 1) := by decide +kernel
theorem dX6_busiestPockets_36 : decode cX6_busiestPockets 36 = .ok (.iload 4, 2) := by decide +kernel
theorem dX6_busiestPockets_38 : decode cX6_busiestPockets 38 = .ok (.istore_n 2, 1) := by decide +kernel
theorem dX6_busiestPockets_39 : decode cX6_busiestPockets 39 = .ok (.iinc 4 1, 3) := by decide +kernel
theorem dX6_busiestPockets_42 : decode cX6_busiestPockets 42 = .ok (.goto (-35), 3) := by decide +kernel
theorem dX6_busiestPockets_45 : decode cX6_busiestPockets 45 = .ok (.iload_n 2, 1) := by decide +kernel
theorem dX6_busiestPockets_46 : decode cX6_busiestPockets 46 = .ok (.ireturn, 1) := by decide +kernel
theorem dX6_waysTo_0 : decode cX6_waysTo 0 = .ok (.iconst 0, 1) := by decide +kernel
theorem dX6_waysTo_1 : decode cX6_waysTo 1 = .ok (.istore_n 3, 1) := by decide +kernel
theorem dX6_waysTo_2 : decode cX6_waysTo 2 = .ok (.iconst 0, 1) := by decide +kernel
theorem dX6_waysTo_3 : decode cX6_waysTo 3 = .ok (.istore 4, 2) := by decide +kernel
theorem dX6_waysTo_5 : decode cX6_waysTo 5 = .ok (.iload 4, 2) := by decide +kernel
theorem dX6_waysTo_7 : decode cX6_waysTo 7 = .ok (.sipush 255, 3) := by decide +kernel
theorem dX6_waysTo_10 : decode cX6_waysTo 10 = .ok (.if_icmp .gt 35, 3) := by decide +kernel
theorem dX6_waysTo_13 : decode cX6_waysTo 13 = .ok (.aload_n 0, 1) := by decide +kernel
theorem dX6_waysTo_14 : decode cX6_waysTo 14 = .ok (.getfield 12, 3) := by decide +kernel
theorem dX6_waysTo_17 : decode cX6_waysTo 17 = .ok (.aload_n 1, 1) := by decide +kernel
theorem dX6_waysTo_18 : decode cX6_waysTo 18 = .ok (.iload 4, 2) := by decide +kernel
theorem dX6_waysTo_20 : decode cX6_waysTo 20 = .ok (.iconst 0, 1) := by decide +kernel
theorem dX6_waysTo_21 : decode cX6_waysTo 21 = .ok (.invokevirtual 22, 3) := by decide +kernel
theorem dX6_waysTo_24 : decode cX6_waysTo 24 = .ok (.pop, 1) := by decide +kernel
theorem dX6_waysTo_25 : decode cX6_waysTo 25 = .ok (.aload_n 0, 1) := by decide +kernel
theorem dX6_waysTo_26 : decode cX6_waysTo 26 = .ok (.getfield 12, 3) := by decide +kernel
theorem dX6_waysTo_29 : decode cX6_waysTo 29 = .ok (.iload_n 2, 1) := by decide +kernel
theorem dX6_waysTo_30 : decode cX6_waysTo 30 = .ok (.invokevirtual 30, 3) := by decide +kernel
theorem dX6_waysTo_33 : decode cX6_waysTo 33 = .ok (.ifCond .eq 6, 3) := by decide +kernel
theorem dX6_waysTo_36 : decode cX6_waysTo 36 = .ok (.iinc 3 1, 3) := by decide +kernel
theorem dX6_waysTo_39 : decode cX6_waysTo 39 = .ok (.iinc 4 1, 3) := by decide +kernel
theorem dX6_waysTo_42 : decode cX6_waysTo 42 = .ok (.goto (-37), 3) := by decide +kernel
theorem dX6_waysTo_45 : decode cX6_waysTo 45 = .ok (.iload_n 3, 1) := by decide +kernel
theorem dX6_waysTo_46 : decode cX6_waysTo 46 = .ok (.ireturn, 1) := by decide +kernel
theorem dX6_earliestOf_0 : decode cX6_earliestOf 0 = .ok (.bipush (-9), 2) := by decide +kernel
theorem dX6_earliestOf_2 : decode cX6_earliestOf 2 = .ok (.istore 4, 2) := by decide +kernel
theorem dX6_earliestOf_4 : decode cX6_earliestOf 4 = .ok (.bipush (-9), 2) := by decide +kernel
theorem dX6_earliestOf_6 : decode cX6_earliestOf 6 = .ok (.istore 5, 2) := by decide +kernel
theorem dX6_earliestOf_8 : decode cX6_earliestOf 8 = .ok (.iconst 0, 1) := by decide +kernel
theorem dX6_earliestOf_9 : decode cX6_earliestOf 9 = .ok (.istore 6, 2) := by decide +kernel
theorem dX6_earliestOf_11 : decode cX6_earliestOf 11 = .ok (.iload 6, 2) := by decide +kernel
theorem dX6_earliestOf_13 : decode cX6_earliestOf 13 = .ok (.sipush 255, 3) := by decide +kernel
theorem dX6_earliestOf_16 : decode cX6_earliestOf 16 = .ok (.if_icmp .gt 60, 3) := by decide +kernel
theorem dX6_earliestOf_19 : decode cX6_earliestOf 19 = .ok (.aload_n 0, 1) := by decide +kernel
theorem dX6_earliestOf_20 : decode cX6_earliestOf 20 = .ok (.getfield 12, 3) := by decide +kernel
theorem dX6_earliestOf_23 : decode cX6_earliestOf 23 = .ok (.aload_n 1, 1) := by decide +kernel
theorem dX6_earliestOf_24 : decode cX6_earliestOf 24 = .ok (.iload 6, 2) := by decide +kernel
theorem dX6_earliestOf_26 : decode cX6_earliestOf 26 = .ok (.iconst 0, 1) := by decide +kernel
theorem dX6_earliestOf_27 : decode cX6_earliestOf 27 = .ok (.invokevirtual 22, 3) := by decide +kernel
theorem dX6_earliestOf_30 : decode cX6_earliestOf 30 = .ok (.pop, 1) := by decide +kernel
theorem dX6_earliestOf_31 : decode cX6_earliestOf 31 = .ok (.aload_n 0, 1) := by decide +kernel
theorem dX6_earliestOf_32 : decode cX6_earliestOf 32 = .ok (.getfield 12, 3) := by decide +kernel
theorem dX6_earliestOf_35 : decode cX6_earliestOf 35 = .ok (.iload_n 2, 1) := by decide +kernel
theorem dX6_earliestOf_36 : decode cX6_earliestOf 36 = .ok (.invokevirtual 38, 3) := by decide +kernel
theorem dX6_earliestOf_39 : decode cX6_earliestOf 39 = .ok (.istore 7, 2) := by decide +kernel
theorem dX6_earliestOf_41 : decode cX6_earliestOf 41 = .ok (.iload 7, 2) := by decide +kernel
theorem dX6_earliestOf_43 : decode cX6_earliestOf 43 = .ok (.bipush (-9), 2) := by decide +kernel
theorem dX6_earliestOf_45 : decode cX6_earliestOf 45 = .ok (.if_icmp .eq 25, 3) := by decide +kernel
theorem dX6_earliestOf_48 : decode cX6_earliestOf 48 = .ok (.iload 4, 2) := by decide +kernel
theorem dX6_earliestOf_50 : decode cX6_earliestOf 50 = .ok (.bipush (-9), 2) := by decide +kernel
theorem dX6_earliestOf_52 : decode cX6_earliestOf 52 = .ok (.if_icmp .eq 10, 3) := by decide +kernel
theorem dX6_earliestOf_55 : decode cX6_earliestOf 55 = .ok (.iload 7, 2) := by decide +kernel
theorem dX6_earliestOf_57 : decode cX6_earliestOf 57 = .ok (.iload 4, 2) := by decide +kernel
theorem dX6_earliestOf_59 : decode cX6_earliestOf 59 = .ok (.if_icmp .ge 11, 3) := by decide +kernel
theorem dX6_earliestOf_62 : decode cX6_earliestOf 62 = .ok (.iload 7, 2) := by decide +kernel
theorem dX6_earliestOf_64 : decode cX6_earliestOf 64 = .ok (.istore 4, 2) := by decide +kernel
theorem dX6_earliestOf_66 : decode cX6_earliestOf 66 = .ok (.iload 6, 2) := by decide +kernel
theorem dX6_earliestOf_68 : decode cX6_earliestOf 68 = .ok (.istore 5, 2) := by decide +kernel
theorem dX6_earliestOf_70 : decode cX6_earliestOf 70 = .ok (.iinc 6 1, 3) := by decide +kernel
theorem dX6_earliestOf_73 : decode cX6_earliestOf 73 = .ok (.goto (-62), 3) := by decide +kernel
theorem dX6_earliestOf_76 : decode cX6_earliestOf 76 = .ok (.iload_n 3, 1) := by decide +kernel
theorem dX6_earliestOf_77 : decode cX6_earliestOf 77 = .ok (.ifCond .ne 8, 3) := by decide +kernel
theorem dX6_earliestOf_80 : decode cX6_earliestOf 80 = .ok (.iload 4, 2) := by decide +kernel
theorem dX6_earliestOf_82 : decode cX6_earliestOf 82 = .ok (.goto 5, 3) := by decide +kernel
theorem dX6_earliestOf_85 : decode cX6_earliestOf 85 = .ok (.iload 5, 2) := by decide +kernel
theorem dX6_earliestOf_87 : decode cX6_earliestOf 87 = .ok (.ireturn, 1) := by decide +kernel
theorem dX6_luckyCases_0 : decode cX6_luckyCases 0 = .ok (.lconst 0, 1) := by decide +kernel
theorem dX6_luckyCases_1 : decode cX6_luckyCases 1 = .ok (.lstore 5, 2) := by decide +kernel
theorem dX6_luckyCases_3 : decode cX6_luckyCases 3 = .ok (.iconst 0, 1) := by decide +kernel
theorem dX6_luckyCases_4 : decode cX6_luckyCases 4 = .ok (.istore 7, 2) := by decide +kernel
theorem dX6_luckyCases_6 : decode cX6_luckyCases 6 = .ok (.iload 7, 2) := by decide +kernel
theorem dX6_luckyCases_8 : decode cX6_luckyCases 8 = .ok (.sipush 255, 3) := by decide +kernel
theorem dX6_luckyCases_11 : decode cX6_luckyCases 11 = .ok (.if_icmp .gt 62, 3) := by decide +kernel
theorem dX6_luckyCases_14 : decode cX6_luckyCases 14 = .ok (.iload 7, 2) := by decide +kernel
theorem dX6_luckyCases_16 : decode cX6_luckyCases 16 = .ok (.iload_n 2, 1) := by decide +kernel
theorem dX6_luckyCases_17 : decode cX6_luckyCases 17 = .ok (.iconst (-1), 1) := by decide +kernel
theorem dX6_luckyCases_18 : decode cX6_luckyCases 18 = .ok (.ixor, 1) := by decide +kernel
theorem dX6_luckyCases_19 : decode cX6_luckyCases 19 = .ok (.iand, 1) := by decide +kernel
theorem dX6_luckyCases_20 : decode cX6_luckyCases 20 = .ok (.ifCond .eq 6, 3) := by decide +kernel
theorem dX6_luckyCases_23 : decode cX6_luckyCases 23 = .ok (.goto 44, 3) := by decide +kernel
theorem dX6_luckyCases_26 : decode cX6_luckyCases 26 = .ok (.aload_n 0, 1) := by decide +kernel
theorem dX6_luckyCases_27 : decode cX6_luckyCases 27 = .ok (.getfield 12, 3) := by decide +kernel
theorem dX6_luckyCases_30 : decode cX6_luckyCases 30 = .ok (.aload_n 1, 1) := by decide +kernel
theorem dX6_luckyCases_31 : decode cX6_luckyCases 31 = .ok (.iload 7, 2) := by decide +kernel
theorem dX6_luckyCases_33 : decode cX6_luckyCases 33 = .ok (.iconst 0, 1) := by decide +kernel
theorem dX6_luckyCases_34 : decode cX6_luckyCases 34 = .ok (.invokevirtual 22, 3) := by decide +kernel
theorem dX6_luckyCases_37 : decode cX6_luckyCases 37 = .ok (.pop, 1) := by decide +kernel
theorem dX6_luckyCases_38 : decode cX6_luckyCases 38 = .ok (.aload_n 0, 1) := by decide +kernel
theorem dX6_luckyCases_39 : decode cX6_luckyCases 39 = .ok (.getfield 12, 3) := by decide +kernel
theorem dX6_luckyCases_42 : decode cX6_luckyCases 42 = .ok (.iload_n 3, 1) := by decide +kernel
theorem dX6_luckyCases_43 : decode cX6_luckyCases 43 = .ok (.invokevirtual 30, 3) := by decide +kernel
theorem dX6_luckyCases_46 : decode cX6_luckyCases 46 = .ok (.ifCond .eq 21, 3) := by decide +kernel
theorem dX6_luckyCases_49 : decode cX6_luckyCases 49 = .ok (.lload 5, 2) := by decide +kernel
theorem dX6_luckyCases_51 : decode cX6_luckyCases 51 = .ok (.iload 4, 2) := by decide +kernel
theorem dX6_luckyCases_53 : decode cX6_luckyCases 53 = .ok (.iconst 1, 1) := by decide +kernel
theorem dX6_luckyCases_54 : decode cX6_luckyCases 54 = .ok (.isub, 1) := by decide +kernel
theorem dX6_luckyCases_55 : decode cX6_luckyCases 55 = .ok (.i2l, 1) := by decide +kernel
theorem dX6_luckyCases_56 : decode cX6_luckyCases 56 = .ok (.iload 7, 2) := by decide +kernel
theorem dX6_luckyCases_58 : decode cX6_luckyCases 58 = .ok (.invokestatic 42, 3) := by decide +kernel
theorem dX6_luckyCases_61 : decode cX6_luckyCases 61 = .ok (.invokestatic 47, 3) := by decide +kernel
theorem dX6_luckyCases_64 : decode cX6_luckyCases 64 = .ok (.ladd, 1) := by decide +kernel
theorem dX6_luckyCases_65 : decode cX6_luckyCases 65 = .ok (.lstore 5, 2) := by decide +kernel
theorem dX6_luckyCases_67 : decode cX6_luckyCases 67 = .ok (.iinc 7 1, 3) := by decide +kernel
theorem dX6_luckyCases_70 : decode cX6_luckyCases 70 = .ok (.goto (-64), 3) := by decide +kernel
theorem dX6_luckyCases_73 : decode cX6_luckyCases 73 = .ok (.lload 5, 2) := by decide +kernel
theorem dX6_luckyCases_75 : decode cX6_luckyCases 75 = .ok (.lreturn, 1) := by decide +kernel
theorem dX6_addedInOrders_0 : decode cX6_addedInOrders 0 = .ok (.iload_n 2, 1) := by decide +kernel
theorem dX6_addedInOrders_1 : decode cX6_addedInOrders 1 = .ok (.iload_n 3, 1) := by decide +kernel
theorem dX6_addedInOrders_2 : decode cX6_addedInOrders 2 = .ok (.invokestatic 51, 3) := by decide +kernel
theorem dX6_addedInOrders_5 : decode cX6_addedInOrders 5 = .ok (.iconst (-1), 1) := by decide +kernel
theorem dX6_addedInOrders_6 : decode cX6_addedInOrders 6 = .ok (.ixor, 1) := by decide +kernel
theorem dX6_addedInOrders_7 : decode cX6_addedInOrders 7 = .ok (.iand, 1) := by decide +kernel
theorem dX6_addedInOrders_8 : decode cX6_addedInOrders 8 = .ok (.istore 4, 2) := by decide +kernel
theorem dX6_addedInOrders_10 : decode cX6_addedInOrders 10 = .ok (.iload 4, 2) := by decide +kernel
theorem dX6_addedInOrders_12 : decode cX6_addedInOrders 12 = .ok (.invokestatic 42, 3) := by decide +kernel
theorem dX6_addedInOrders_15 : decode cX6_addedInOrders 15 = .ok (.istore 5, 2) := by decide +kernel
theorem dX6_addedInOrders_17 : decode cX6_addedInOrders 17 = .ok (.lconst 0, 1) := by decide +kernel
theorem dX6_addedInOrders_18 : decode cX6_addedInOrders 18 = .ok (.lstore 6, 2) := by decide +kernel
theorem dX6_addedInOrders_20 : decode cX6_addedInOrders 20 = .ok (.iconst 0, 1) := by decide +kernel
theorem dX6_addedInOrders_21 : decode cX6_addedInOrders 21 = .ok (.istore 8, 2) := by decide +kernel
theorem dX6_addedInOrders_23 : decode cX6_addedInOrders 23 = .ok (.iload 8, 2) := by decide +kernel
theorem dX6_addedInOrders_25 : decode cX6_addedInOrders 25 = .ok (.sipush 255, 3) := by decide +kernel
theorem dX6_addedInOrders_28 : decode cX6_addedInOrders 28 = .ok (.if_icmp .gt 88, 3) := by decide +kernel
theorem dX6_addedInOrders_31 : decode cX6_addedInOrders 31 = .ok (.iload 8, 2) := by decide +kernel
theorem dX6_addedInOrders_33 : decode cX6_addedInOrders 33 = .ok (.iload 4, 2) := by decide +kernel
theorem dX6_addedInOrders_35 : decode cX6_addedInOrders 35 = .ok (.iconst (-1), 1) := by decide +kernel
theorem dX6_addedInOrders_36 : decode cX6_addedInOrders 36 = .ok (.ixor, 1) := by decide +kernel
theorem dX6_addedInOrders_37 : decode cX6_addedInOrders 37 = .ok (.iand, 1) := by decide +kernel
theorem dX6_addedInOrders_38 : decode cX6_addedInOrders 38 = .ok (.ifCond .eq 6, 3) := by decide +kernel
theorem dX6_addedInOrders_41 : decode cX6_addedInOrders 41 = .ok (.goto 69, 3) := by decide +kernel
theorem dX6_addedInOrders_44 : decode cX6_addedInOrders 44 = .ok (.iload 8, 2) := by decide +kernel
theorem dX6_addedInOrders_46 : decode cX6_addedInOrders 46 = .ok (.invokestatic 42, 3) := by decide +kernel
theorem dX6_addedInOrders_49 : decode cX6_addedInOrders 49 = .ok (.istore 9, 2) := by decide +kernel
theorem dX6_addedInOrders_51 : decode cX6_addedInOrders 51 = .ok (.iload 9, 2) := by decide +kernel
theorem dX6_addedInOrders_53 : decode cX6_addedInOrders 53 = .ok (.invokestatic 54, 3) := by decide +kernel
theorem dX6_addedInOrders_56 : decode cX6_addedInOrders 56 = .ok (.iload 5, 2) := by decide +kernel
theorem dX6_addedInOrders_58 : decode cX6_addedInOrders 58 = .ok (.iload 9, 2) := by decide +kernel
theorem dX6_addedInOrders_60 : decode cX6_addedInOrders 60 = .ok (.isub, 1) := by decide +kernel
theorem dX6_addedInOrders_61 : decode cX6_addedInOrders 61 = .ok (.invokestatic 54, 3) := by decide +kernel
theorem dX6_addedInOrders_64 : decode cX6_addedInOrders 64 = .ok (.lmul, 1) := by decide +kernel
theorem dX6_addedInOrders_65 : decode cX6_addedInOrders 65 = .ok (.lstore 10, 2) := by decide +kernel
theorem dX6_addedInOrders_67 : decode cX6_addedInOrders 67 = .ok (.aload_n 0, 1) := by decide +kernel
theorem dX6_addedInOrders_68 : decode cX6_addedInOrders 68 = .ok (.getfield 12, 3) := by decide +kernel
theorem dX6_addedInOrders_71 : decode cX6_addedInOrders 71 = .ok (.aload_n 1, 1) := by decide +kernel
theorem dX6_addedInOrders_72 : decode cX6_addedInOrders 72 = .ok (.iload 8, 2) := by decide +kernel
theorem dX6_addedInOrders_74 : decode cX6_addedInOrders 74 = .ok (.invokevirtual 34, 3) := by decide +kernel
theorem dX6_addedInOrders_77 : decode cX6_addedInOrders 77 = .ok (.istore 12, 2) := by decide +kernel
theorem dX6_addedInOrders_79 : decode cX6_addedInOrders 79 = .ok (.aload_n 0, 1) := by decide +kernel
theorem dX6_addedInOrders_80 : decode cX6_addedInOrders 80 = .ok (.getfield 12, 3) := by decide +kernel
theorem dX6_addedInOrders_83 : decode cX6_addedInOrders 83 = .ok (.aload_n 1, 1) := by decide +kernel
theorem dX6_addedInOrders_84 : decode cX6_addedInOrders 84 = .ok (.iload 8, 2) := by decide +kernel
theorem dX6_addedInOrders_86 : decode cX6_addedInOrders 86 = .ok (.iload_n 3, 1) := by decide +kernel
theorem dX6_addedInOrders_87 : decode cX6_addedInOrders 87 = .ok (.invokestatic 51, 3) := by decide +kernel
theorem dX6_addedInOrders_90 : decode cX6_addedInOrders 90 = .ok (.ior, 1) := by decide +kernel
theorem dX6_addedInOrders_91 : decode cX6_addedInOrders 91 = .ok (.invokevirtual 34, 3) := by decide +kernel
theorem dX6_addedInOrders_94 : decode cX6_addedInOrders 94 = .ok (.istore 13, 2) := by decide +kernel
theorem dX6_addedInOrders_96 : decode cX6_addedInOrders 96 = .ok (.lload 6, 2) := by decide +kernel
theorem dX6_addedInOrders_98 : decode cX6_addedInOrders 98 = .ok (.lload 10, 2) := by decide +kernel
theorem dX6_addedInOrders_100 : decode cX6_addedInOrders 100 = .ok (.iload 13, 2) := by decide +kernel
theorem dX6_addedInOrders_102 : decode cX6_addedInOrders 102 = .ok (.iload 12, 2) := by decide +kernel
theorem dX6_addedInOrders_104 : decode cX6_addedInOrders 104 = .ok (.isub, 1) := by decide +kernel
theorem dX6_addedInOrders_105 : decode cX6_addedInOrders 105 = .ok (.i2l, 1) := by decide +kernel
theorem dX6_addedInOrders_106 : decode cX6_addedInOrders 106 = .ok (.lmul, 1) := by decide +kernel
theorem dX6_addedInOrders_107 : decode cX6_addedInOrders 107 = .ok (.ladd, 1) := by decide +kernel
theorem dX6_addedInOrders_108 : decode cX6_addedInOrders 108 = .ok (.lstore 6, 2) := by decide +kernel
theorem dX6_addedInOrders_110 : decode cX6_addedInOrders 110 = .ok (.iinc 8 1, 3) := by decide +kernel
theorem dX6_addedInOrders_113 : decode cX6_addedInOrders 113 = .ok (.goto (-90), 3) := by decide +kernel
theorem dX6_addedInOrders_116 : decode cX6_addedInOrders 116 = .ok (.lload 6, 2) := by decide +kernel
theorem dX6_addedInOrders_118 : decode cX6_addedInOrders 118 = .ok (.lreturn, 1) := by decide +kernel
theorem dX7_init_0 : decode cX7_init 0 = .ok (.aload_n 0, 1) := by decide +kernel
theorem dX7_init_1 : decode cX7_init 1 = .ok (.invokespecial 3, 3) := by decide +kernel
theorem dX7_init_4 : decode cX7_init 4 = .ok (.aload_n 0, 1) := by decide +kernel
theorem dX7_init_5 : decode cX7_init 5 = .ok (.bipush 16, 2) := by decide +kernel
theorem dX7_init_7 : decode cX7_init 7 = .ok (.newarray .int, 2) := by decide +kernel
theorem dX7_init_9 : decode cX7_init 9 = .ok (.putfield 11, 3) := by decide +kernel
theorem dX7_init_12 : decode cX7_init 12 = .ok (.return_, 1) := by decide +kernel
theorem dX7_size_0 : decode cX7_size 0 = .ok (.aload_n 0, 1) := by decide +kernel
theorem dX7_size_1 : decode cX7_size 1 = .ok (.getfield 15, 3) := by decide +kernel
theorem dX7_size_4 : decode cX7_size 4 = .ok (.ireturn, 1) := by decide +kernel
theorem dX7_isFull_0 : decode cX7_isFull 0 = .ok (.aload_n 0, 1) := by decide +kernel
theorem dX7_isFull_1 : decode cX7_isFull 1 = .ok (.getfield 15, 3) := by decide +kernel
theorem dX7_isFull_4 : decode cX7_isFull 4 = .ok (.bipush 16, 2) := by decide +kernel
theorem dX7_isFull_6 : decode cX7_isFull 6 = .ok (.if_icmp .lt 7, 3) := by decide +kernel
theorem dX7_isFull_9 : decode cX7_isFull 9 = .ok (.iconst 1, 1) := by decide +kernel
theorem dX7_isFull_10 : decode cX7_isFull 10 = .ok (.goto 4, 3) := by decide +kernel
theorem dX7_isFull_13 : decode cX7_isFull 13 = .ok (.iconst 0, 1) := by decide +kernel
theorem dX7_isFull_14 : decode cX7_isFull 14 = .ok (.ireturn, 1) := by decide +kernel
theorem dX7_put_0 : decode cX7_put 0 = .ok (.aload_n 0, 1) := by decide +kernel
theorem dX7_put_1 : decode cX7_put 1 = .ok (.getfield 11, 3) := by decide +kernel
theorem dX7_put_4 : decode cX7_put 4 = .ok (.aload_n 0, 1) := by decide +kernel
theorem dX7_put_5 : decode cX7_put 5 = .ok (.getfield 15, 3) := by decide +kernel
theorem dX7_put_8 : decode cX7_put 8 = .ok (.iload_n 1, 1) := by decide +kernel
theorem dX7_put_9 : decode cX7_put 9 = .ok (.invokestatic 19, 3) := by decide +kernel
theorem dX7_put_12 : decode cX7_put 12 = .ok (.aload_n 0, 1) := by decide +kernel
theorem dX7_put_13 : decode cX7_put 13 = .ok (.dup, 1) := by decide +kernel
theorem dX7_put_14 : decode cX7_put 14 = .ok (.getfield 15, 3) := by decide +kernel
theorem dX7_put_17 : decode cX7_put 17 = .ok (.iconst 1, 1) := by decide +kernel
theorem dX7_put_18 : decode cX7_put 18 = .ok (.iadd, 1) := by decide +kernel
theorem dX7_put_19 : decode cX7_put 19 = .ok (.putfield 15, 3) := by decide +kernel
theorem dX7_put_22 : decode cX7_put 22 = .ok (.aload_n 0, 1) := by decide +kernel
theorem dX7_put_23 : decode cX7_put 23 = .ok (.getfield 15, 3) := by decide +kernel
theorem dX7_put_26 : decode cX7_put 26 = .ok (.ireturn, 1) := by decide +kernel
theorem dX7_wipe_0 : decode cX7_wipe 0 = .ok (.aload_n 0, 1) := by decide +kernel
theorem dX7_wipe_1 : decode cX7_wipe 1 = .ok (.getfield 15, 3) := by decide +kernel
theorem dX7_wipe_4 : decode cX7_wipe 4 = .ok (.istore_n 1, 1) := by decide +kernel
theorem dX7_wipe_5 : decode cX7_wipe 5 = .ok (.aload_n 0, 1) := by decide +kernel
theorem dX7_wipe_6 : decode cX7_wipe 6 = .ok (.iconst 0, 1) := by decide +kernel
theorem dX7_wipe_7 : decode cX7_wipe 7 = .ok (.putfield 15, 3) := by decide +kernel
theorem dX7_wipe_10 : decode cX7_wipe 10 = .ok (.iload_n 1, 1) := by decide +kernel
theorem dX7_wipe_11 : decode cX7_wipe 11 = .ok (.ireturn, 1) := by decide +kernel
theorem dX7_isOfLaws_0 : decode cX7_isOfLaws 0 = .ok (.aload_n 0, 1) := by decide +kernel
theorem dX7_isOfLaws_1 : decode cX7_isOfLaws 1 = .ok (.getfield 15, 3) := by decide +kernel
theorem dX7_isOfLaws_4 : decode cX7_isOfLaws 4 = .ok (.bipush 12, 2) := by decide +kernel
theorem dX7_isOfLaws_6 : decode cX7_isOfLaws 6 = .ok (.if_icmp .le 5, 3) := by decide +kernel
theorem dX7_isOfLaws_9 : decode cX7_isOfLaws 9 = .ok (.iconst 0, 1) := by decide +kernel
theorem dX7_isOfLaws_10 : decode cX7_isOfLaws 10 = .ok (.ireturn, 1) := by decide +kernel
theorem dX7_isOfLaws_11 : decode cX7_isOfLaws 11 = .ok (.iconst 0, 1) := by decide +kernel
theorem dX7_isOfLaws_12 : decode cX7_isOfLaws 12 = .ok (.istore_n 2, 1) := by decide +kernel
theorem dX7_isOfLaws_13 : decode cX7_isOfLaws 13 = .ok (.iload_n 2, 1) := by decide +kernel
theorem dX7_isOfLaws_14 : decode cX7_isOfLaws 14 = .ok (.aload_n 0, 1) := by decide +kernel
theorem dX7_isOfLaws_15 : decode cX7_isOfLaws 15 = .ok (.getfield 15, 3) := by decide +kernel
theorem dX7_isOfLaws_18 : decode cX7_isOfLaws 18 = .ok (.if_icmp .ge 34, 3) := by decide +kernel
theorem dX7_isOfLaws_21 : decode cX7_isOfLaws 21 = .ok (.aload_n 0, 1) := by decide +kernel
theorem dX7_isOfLaws_22 : decode cX7_isOfLaws 22 = .ok (.getfield 11, 3) := by decide +kernel
theorem dX7_isOfLaws_25 : decode cX7_isOfLaws 25 = .ok (.iload_n 2, 1) := by decide +kernel
theorem dX7_isOfLaws_26 : decode cX7_isOfLaws 26 = .ok (.invokestatic 23, 3) := by decide +kernel
theorem dX7_isOfLaws_29 : decode cX7_isOfLaws 29 = .ok (.istore_n 3, 1) := by decide +kernel
theorem dX7_isOfLaws_30 : decode cX7_isOfLaws 30 = .ok (.iload_n 3, 1) := by decide +kernel
theorem dX7_isOfLaws_31 : decode cX7_isOfLaws 31 = .ok (.bipush 99, 2) := by decide +kernel
theorem dX7_isOfLaws_33 : decode cX7_isOfLaws 33 = .ok (.if_icmp .eq 13, 3) := by decide +kernel
theorem dX7_isOfLaws_36 : decode cX7_isOfLaws 36 = .ok (.aload_n 1, 1) := by decide +kernel
theorem dX7_isOfLaws_37 : decode cX7_isOfLaws 37 = .ok (.iload_n 3, 1) := by decide +kernel
theorem dX7_isOfLaws_38 : decode cX7_isOfLaws 38 = .ok (.invokevirtual 27, 3) := by decide +kernel
theorem dX7_isOfLaws_41 : decode cX7_isOfLaws 41 = .ok (.ifCond .ne 5, 3) := by decide +kernel
theorem dX7_isOfLaws_44 : decode cX7_isOfLaws 44 = .ok (.iconst 0, 1) := by decide +kernel
theorem dX7_isOfLaws_45 : decode cX7_isOfLaws 45 = .ok (.ireturn, 1) := by decide +kernel
theorem dX7_isOfLaws_46 : decode cX7_isOfLaws 46 = .ok (.iinc 2 1, 3) := by decide +kernel
theorem dX7_isOfLaws_49 : decode cX7_isOfLaws 49 = .ok (.goto (-36), 3) := by decide +kernel
theorem dX7_isOfLaws_52 : decode cX7_isOfLaws 52 = .ok (.iconst 1, 1) := by decide +kernel
theorem dX7_isOfLaws_53 : decode cX7_isOfLaws 53 = .ok (.ireturn, 1) := by decide +kernel
theorem dX7_firstWrong_0 : decode cX7_firstWrong 0 = .ok (.iconst 0, 1) := by decide +kernel
theorem dX7_firstWrong_1 : decode cX7_firstWrong 1 = .ok (.istore_n 2, 1) := by decide +kernel
theorem dX7_firstWrong_2 : decode cX7_firstWrong 2 = .ok (.iload_n 2, 1) := by decide +kernel
theorem dX7_firstWrong_3 : decode cX7_firstWrong 3 = .ok (.aload_n 0, 1) := by decide +kernel
theorem dX7_firstWrong_4 : decode cX7_firstWrong 4 = .ok (.getfield 15, 3) := by decide +kernel
theorem dX7_firstWrong_7 : decode cX7_firstWrong 7 = .ok (.if_icmp .ge 48, 3) := by decide +kernel
theorem dX7_firstWrong_10 : decode cX7_firstWrong 10 = .ok (.iload_n 2, 1) := by decide +kernel
theorem dX7_firstWrong_11 : decode cX7_firstWrong 11 = .ok (.bipush 12, 2) := by decide +kernel
theorem dX7_firstWrong_13 : decode cX7_firstWrong 13 = .ok (.if_icmp .lt 5, 3) := by decide +kernel
theorem dX7_firstWrong_16 : decode cX7_firstWrong 16 = .ok (.iload_n 2, 1) := by decide +kernel
theorem dX7_firstWrong_17 : decode cX7_firstWrong 17 = .ok (.ireturn, 1) := by decide +kernel
theorem dX7_firstWrong_18 : decode cX7_firstWrong 18 = .ok (.aload_n 1, 1) := by decide +kernel
theorem dX7_firstWrong_19 : decode cX7_firstWrong 19 = .ok (.iload_n 2, 1) := by decide +kernel
theorem dX7_firstWrong_20 : decode cX7_firstWrong 20 = .ok (.invokevirtual 33, 3) := by decide +kernel
theorem dX7_firstWrong_23 : decode cX7_firstWrong 23 = .ok (.istore_n 3, 1) := by decide +kernel
theorem dX7_firstWrong_24 : decode cX7_firstWrong 24 = .ok (.aload_n 0, 1) := by decide +kernel
theorem dX7_firstWrong_25 : decode cX7_firstWrong 25 = .ok (.getfield 11, 3) := by decide +kernel
theorem dX7_firstWrong_28 : decode cX7_firstWrong 28 = .ok (.iload_n 2, 1) := by decide +kernel
theorem dX7_firstWrong_29 : decode cX7_firstWrong 29 = .ok (.invokestatic 23, 3) := by decide +kernel
theorem dX7_firstWrong_32 : decode cX7_firstWrong 32 = .ok (.iload_n 3, 1) := by decide +kernel
theorem dX7_firstWrong_33 : decode cX7_firstWrong 33 = .ok (.bipush (-9), 2) := by decide +kernel
theorem dX7_firstWrong_35 : decode cX7_firstWrong 35 = .ok (.if_icmp .ne 8, 3) := by decide +kernel
theorem dX7_firstWrong_38 : decode cX7_firstWrong 38 = .ok (.bipush 99, 2) := by decide +kernel
theorem dX7_firstWrong_40 : decode cX7_firstWrong 40 = .ok (.goto 4, 3) := by decide +kernel
theorem dX7_firstWrong_43 : decode cX7_firstWrong 43 = .ok (.iload_n 3, 1) := by decide +kernel
theorem dX7_firstWrong_44 : decode cX7_firstWrong 44 = .ok (.if_icmp .eq 5, 3) := by decide +kernel
theorem dX7_firstWrong_47 : decode cX7_firstWrong 47 = .ok (.iload_n 2, 1) := by decide +kernel
theorem dX7_firstWrong_48 : decode cX7_firstWrong 48 = .ok (.ireturn, 1) := by decide +kernel
theorem dX7_firstWrong_49 : decode cX7_firstWrong 49 = .ok (.iinc 2 1, 3) := by decide +kernel
theorem dX7_firstWrong_52 : decode cX7_firstWrong 52 = .ok (.goto (-50), 3) := by decide +kernel
theorem dX7_firstWrong_55 : decode cX7_firstWrong 55 = .ok (.bipush (-9), 2) := by decide +kernel
theorem dX7_firstWrong_57 : decode cX7_firstWrong 57 = .ok (.ireturn, 1) := by decide +kernel
theorem dX8_init_0 : decode cX8_init 0 = .ok (.aload_n 0, 1) := by decide +kernel
theorem dX8_init_1 : decode cX8_init 1 = .ok (.invokespecial 3, 3) := by decide +kernel
theorem dX8_init_4 : decode cX8_init 4 = .ok (.aload_n 0, 1) := by decide +kernel
theorem dX8_init_5 : decode cX8_init 5 = .ok (.bipush 40, 2) := by decide +kernel
theorem dX8_init_7 : decode cX8_init 7 = .ok (.newarray .int, 2) := by decide +kernel
theorem dX8_init_9 : decode cX8_init 9 = .ok (.putfield 9, 3) := by decide +kernel
theorem dX8_init_12 : decode cX8_init 12 = .ok (.aload_n 0, 1) := by decide +kernel
theorem dX8_init_13 : decode cX8_init 13 = .ok (.bipush 6, 2) := by decide +kernel
theorem dX8_init_15 : decode cX8_init 15 = .ok (.newarray .int, 2) := by decide +kernel
theorem dX8_init_17 : decode cX8_init 17 = .ok (.putfield 15, 3) := by decide +kernel
theorem dX8_init_20 : decode cX8_init 20 = .ok (.return_, 1) := by decide +kernel
theorem dX8_copyFrom_0 : decode cX8_copyFrom 0 = .ok (.aload_n 1, 1) := by decide +kernel
theorem dX8_copyFrom_1 : decode cX8_copyFrom 1 = .ok (.getfield 9, 3) := by decide +kernel
theorem dX8_copyFrom_4 : decode cX8_copyFrom 4 = .ok (.aload_n 0, 1) := by decide +kernel
theorem dX8_copyFrom_5 : decode cX8_copyFrom 5 = .ok (.getfield 9, 3) := by decide +kernel
theorem dX8_copyFrom_8 : decode cX8_copyFrom 8 = .ok (.invokestatic 18, 3) := by decide +kernel
theorem dX8_copyFrom_11 : decode cX8_copyFrom 11 = .ok (.aload_n 1, 1) := by decide +kernel
theorem dX8_copyFrom_12 : decode cX8_copyFrom 12 = .ok (.getfield 15, 3) := by decide +kernel
theorem dX8_copyFrom_15 : decode cX8_copyFrom 15 = .ok (.aload_n 0, 1) := by decide +kernel
theorem dX8_copyFrom_16 : decode cX8_copyFrom 16 = .ok (.getfield 15, 3) := by decide +kernel
theorem dX8_copyFrom_19 : decode cX8_copyFrom 19 = .ok (.invokestatic 18, 3) := by decide +kernel
theorem dX8_copyFrom_22 : decode cX8_copyFrom 22 = .ok (.aload_n 0, 1) := by decide +kernel
theorem dX8_copyFrom_23 : decode cX8_copyFrom 23 = .ok (.aload_n 1, 1) := by decide +kernel
theorem dX8_copyFrom_24 : decode cX8_copyFrom 24 = .ok (.getfield 22, 3) := by decide +kernel
theorem dX8_copyFrom_27 : decode cX8_copyFrom 27 = .ok (.putfield 22, 3) := by decide +kernel
theorem dX8_copyFrom_30 : decode cX8_copyFrom 30 = .ok (.aload_n 0, 1) := by decide +kernel
theorem dX8_copyFrom_31 : decode cX8_copyFrom 31 = .ok (.aload_n 1, 1) := by decide +kernel
theorem dX8_copyFrom_32 : decode cX8_copyFrom 32 = .ok (.getfield 26, 3) := by decide +kernel
theorem dX8_copyFrom_35 : decode cX8_copyFrom 35 = .ok (.putfield 26, 3) := by decide +kernel
theorem dX8_copyFrom_38 : decode cX8_copyFrom 38 = .ok (.aload_n 0, 1) := by decide +kernel
theorem dX8_copyFrom_39 : decode cX8_copyFrom 39 = .ok (.aload_n 1, 1) := by decide +kernel
theorem dX8_copyFrom_40 : decode cX8_copyFrom 40 = .ok (.getfield 29, 3) := by decide +kernel
theorem dX8_copyFrom_43 : decode cX8_copyFrom 43 = .ok (.putfield 29, 3) := by decide +kernel
theorem dX8_copyFrom_46 : decode cX8_copyFrom 46 = .ok (.aload_n 0, 1) := by decide +kernel
theorem dX8_copyFrom_47 : decode cX8_copyFrom 47 = .ok (.aload_n 1, 1) := by decide +kernel
theorem dX8_copyFrom_48 : decode cX8_copyFrom 48 = .ok (.getfield 32, 3) := by decide +kernel
theorem dX8_copyFrom_51 : decode cX8_copyFrom 51 = .ok (.putfield 32, 3) := by decide +kernel
theorem dX8_copyFrom_54 : decode cX8_copyFrom 54 = .ok (.return_, 1) := by decide +kernel
theorem dX8_isLaw_0 : decode cX8_isLaw 0 = .ok (.iload_n 1, 1) := by decide +kernel
theorem dX8_isLaw_1 : decode cX8_isLaw 1 = .ok (.ifCond .lt 15, 3) := by decide +kernel
theorem dX8_isLaw_4 : decode cX8_isLaw 4 = .ok (.iload_n 1, 1) := by decide +kernel
theorem dX8_isLaw_5 : decode cX8_isLaw 5 = .ok (.aload_n 0, 1) := by decide +kernel
theorem dX8_isLaw_6 : decode cX8_isLaw 6 = .ok (.getfield 22, 3) := by decide +kernel
theorem dX8_isLaw_9 : decode cX8_isLaw 9 = .ok (.if_icmp .ge 7, 3) := by decide +kernel
theorem dX8_isLaw_12 : decode cX8_isLaw 12 = .ok (.iconst 1, 1) := by decide +kernel
theorem dX8_isLaw_13 : decode cX8_isLaw 13 = .ok (.goto 4, 3) := by decide +kernel
theorem dX8_isLaw_16 : decode cX8_isLaw 16 = .ok (.iconst 0, 1) := by decide +kernel
theorem dX8_isLaw_17 : decode cX8_isLaw 17 = .ok (.ireturn, 1) := by decide +kernel
theorem dX8_isPerson_0 : decode cX8_isPerson 0 = .ok (.iload_n 1, 1) := by decide +kernel
theorem dX8_isPerson_1 : decode cX8_isPerson 1 = .ok (.ifCond .lt 15, 3) := by decide +kernel
theorem dX8_isPerson_4 : decode cX8_isPerson 4 = .ok (.iload_n 1, 1) := by decide +kernel
theorem dX8_isPerson_5 : decode cX8_isPerson 5 = .ok (.aload_n 0, 1) := by decide +kernel
theorem dX8_isPerson_6 : decode cX8_isPerson 6 = .ok (.getfield 26, 3) := by decide +kernel
theorem dX8_isPerson_9 : decode cX8_isPerson 9 = .ok (.if_icmp .ge 7, 3) := by decide +kernel
theorem dX8_isPerson_12 : decode cX8_isPerson 12 = .ok (.iconst 1, 1) := by decide +kernel
theorem dX8_isPerson_13 : decode cX8_isPerson 13 = .ok (.goto 4, 3) := by decide +kernel
theorem dX8_isPerson_16 : decode cX8_isPerson 16 = .ok (.iconst 0, 1) := by decide +kernel
theorem dX8_isPerson_17 : decode cX8_isPerson 17 = .ok (.ireturn, 1) := by decide +kernel
theorem dX8_hasLawRoom_0 : decode cX8_hasLawRoom 0 = .ok (.aload_n 0, 1) := by decide +kernel
theorem dX8_hasLawRoom_1 : decode cX8_hasLawRoom 1 = .ok (.getfield 22, 3) := by decide +kernel
theorem dX8_hasLawRoom_4 : decode cX8_hasLawRoom 4 = .ok (.bipush 10, 2) := by decide +kernel
theorem dX8_hasLawRoom_6 : decode cX8_hasLawRoom 6 = .ok (.if_icmp .ge 7, 3) := by decide +kernel
theorem dX8_hasLawRoom_9 : decode cX8_hasLawRoom 9 = .ok (.iconst 1, 1) := by decide +kernel
theorem dX8_hasLawRoom_10 : decode cX8_hasLawRoom 10 = .ok (.goto 4, 3) := by decide +kernel
theorem dX8_hasLawRoom_13 : decode cX8_hasLawRoom 13 = .ok (.iconst 0, 1) := by decide +kernel
theorem dX8_hasLawRoom_14 : decode cX8_hasLawRoom 14 = .ok (.ireturn, 1) := by decide +kernel
theorem dX8_hasPersonRoom_0 : decode cX8_hasPersonRoom 0 = .ok (.aload_n 0, 1) := by decide +kernel
theorem dX8_hasPersonRoom_1 : decode cX8_hasPersonRoom 1 = .ok (.getfield 26, 3) := by decide +kernel
theorem dX8_hasPersonRoom_4 : decode cX8_hasPersonRoom 4 = .ok (.bipush 6, 2) := by decide +kernel
theorem dX8_hasPersonRoom_6 : decode cX8_hasPersonRoom 6 = .ok (.if_icmp .ge 7, 3) := by decide +kernel
theorem dX8_hasPersonRoom_9 : decode cX8_hasPersonRoom 9 = .ok (.iconst 1, 1) := by decide +kernel
theorem dX8_hasPersonRoom_10 : decode cX8_hasPersonRoom 10 = .ok (.goto 4, 3) := by decide +kernel
theorem dX8_hasPersonRoom_13 : decode cX8_hasPersonRoom 13 = .ok (.iconst 0, 1) := by decide +kernel
theorem dX8_hasPersonRoom_14 : decode cX8_hasPersonRoom 14 = .ok (.ireturn, 1) := by decide +kernel
theorem dX8_lawCount_0 : decode cX8_lawCount 0 = .ok (.aload_n 0, 1) := by decide +kernel
theorem dX8_lawCount_1 : decode cX8_lawCount 1 = .ok (.getfield 22, 3) := by decide +kernel
theorem dX8_lawCount_4 : decode cX8_lawCount 4 = .ok (.ireturn, 1) := by decide +kernel
theorem dX8_allLaws_0 : decode cX8_allLaws 0 = .ok (.iconst 1, 1) := by decide +kernel
theorem dX8_allLaws_1 : decode cX8_allLaws 1 = .ok (.aload_n 0, 1) := by decide +kernel
theorem dX8_allLaws_2 : decode cX8_allLaws 2 = .ok (.getfield 22, 3) := by decide +kernel
theorem dX8_allLaws_5 : decode cX8_allLaws 5 = .ok (.ishl, 1) := by decide +kernel
theorem dX8_allLaws_6 : decode cX8_allLaws 6 = .ok (.iconst 1, 1) := by decide +kernel
theorem dX8_allLaws_7 : decode cX8_allLaws 7 = .ok (.isub, 1) := by decide +kernel
theorem dX8_allLaws_8 : decode cX8_allLaws 8 = .ok (.ireturn, 1) := by decide +kernel
theorem dX8_peopleCount_0 : decode cX8_peopleCount 0 = .ok (.aload_n 0, 1) := by decide +kernel
theorem dX8_peopleCount_1 : decode cX8_peopleCount 1 = .ok (.getfield 26, 3) := by decide +kernel
theorem dX8_peopleCount_4 : decode cX8_peopleCount 4 = .ok (.ireturn, 1) := by decide +kernel
theorem dX8_dayNumber_0 : decode cX8_dayNumber 0 = .ok (.aload_n 0, 1) := by decide +kernel
theorem dX8_dayNumber_1 : decode cX8_dayNumber 1 = .ok (.getfield 32, 3) := by decide +kernel
theorem dX8_dayNumber_4 : decode cX8_dayNumber 4 = .ok (.ireturn, 1) := by decide +kernel
theorem dX8_onTheTray_0 : decode cX8_onTheTray 0 = .ok (.aload_n 0, 1) := by decide +kernel
theorem dX8_onTheTray_1 : decode cX8_onTheTray 1 = .ok (.getfield 29, 3) := by decide +kernel
theorem dX8_onTheTray_4 : decode cX8_onTheTray 4 = .ok (.ireturn, 1) := by decide +kernel
theorem dX8_lawPart_0 : decode cX8_lawPart 0 = .ok (.iload_n 1, 1) := by decide +kernel
theorem dX8_lawPart_1 : decode cX8_lawPart 1 = .ok (.iconst 4, 1) := by decide +kernel
theorem dX8_lawPart_2 : decode cX8_lawPart 2 = .ok (.imul, 1) := by decide +kernel
theorem dX8_lawPart_3 : decode cX8_lawPart 3 = .ok (.iload_n 2, 1) := by decide +kernel
theorem dX8_lawPart_4 : decode cX8_lawPart 4 = .ok (.iadd, 1) := by decide +kernel
theorem dX8_lawPart_5 : decode cX8_lawPart 5 = .ok (.istore_n 3, 1) := by decide +kernel
theorem dX8_lawPart_6 : decode cX8_lawPart 6 = .ok (.iload_n 3, 1) := by decide +kernel
theorem dX8_lawPart_7 : decode cX8_lawPart 7 = .ok (.ifCond .lt 21, 3) := by decide +kernel
theorem dX8_lawPart_10 : decode cX8_lawPart 10 = .ok (.iload_n 3, 1) := by decide +kernel
theorem dX8_lawPart_11 : decode cX8_lawPart 11 = .ok (.aload_n 0, 1) := by decide +kernel
theorem dX8_lawPart_12 : decode cX8_lawPart 12 = .ok (.getfield 9, 3) := by decide +kernel
theorem dX8_lawPart_15 : decode cX8_lawPart 15 = .ok (.arraylength, 1) := by decide +kernel
theorem dX8_lawPart_16 : decode cX8_lawPart 16 = .ok (.if_icmp .ge 12, 3) := by decide +kernel
theorem dX8_lawPart_19 : decode cX8_lawPart 19 = .ok (.aload_n 0, 1) := by decide +kernel
theorem dX8_lawPart_20 : decode cX8_lawPart 20 = .ok (.getfield 9, 3) := by decide +kernel
theorem dX8_lawPart_23 : decode cX8_lawPart 23 = .ok (.iload_n 3, 1) := by decide +kernel
theorem dX8_lawPart_24 : decode cX8_lawPart 24 = .ok (.iaload, 1) := by decide +kernel
theorem dX8_lawPart_25 : decode cX8_lawPart 25 = .ok (.goto 4, 3) := by decide +kernel
theorem dX8_lawPart_28 : decode cX8_lawPart 28 = .ok (.iconst 0, 1) := by decide +kernel
theorem dX8_lawPart_29 : decode cX8_lawPart 29 = .ok (.ireturn, 1) := by decide +kernel
theorem dX8_setLawPart_0 : decode cX8_setLawPart 0 = .ok (.aload_n 0, 1) := by decide +kernel
theorem dX8_setLawPart_1 : decode cX8_setLawPart 1 = .ok (.getfield 9, 3) := by decide +kernel
theorem dX8_setLawPart_4 : decode cX8_setLawPart 4 = .ok (.iload_n 1, 1) := by decide +kernel
theorem dX8_setLawPart_5 : decode cX8_setLawPart 5 = .ok (.iconst 4, 1) := by decide +kernel
theorem dX8_setLawPart_6 : decode cX8_setLawPart 6 = .ok (.imul, 1) := by decide +kernel
theorem dX8_setLawPart_7 : decode cX8_setLawPart 7 = .ok (.iload_n 2, 1) := by decide +kernel
theorem dX8_setLawPart_8 : decode cX8_setLawPart 8 = .ok (.iadd, 1) := by decide +kernel
theorem dX8_setLawPart_9 : decode cX8_setLawPart 9 = .ok (.iload_n 3, 1) := by decide +kernel
theorem dX8_setLawPart_10 : decode cX8_setLawPart 10 = .ok (.invokestatic 35, 3) := by decide +kernel
theorem dX8_setLawPart_13 : decode cX8_setLawPart 13 = .ok (.return_, 1) := by decide +kernel
theorem dX8_pocketsOf_0 : decode cX8_pocketsOf 0 = .ok (.aload_n 0, 1) := by decide +kernel
theorem dX8_pocketsOf_1 : decode cX8_pocketsOf 1 = .ok (.getfield 15, 3) := by decide +kernel
theorem dX8_pocketsOf_4 : decode cX8_pocketsOf 4 = .ok (.iload_n 1, 1) := by decide +kernel
theorem dX8_pocketsOf_5 : decode cX8_pocketsOf 5 = .ok (.invokestatic 39, 3) := by decide +kernel
theorem dX8_pocketsOf_8 : decode cX8_pocketsOf 8 = .ok (.ireturn, 1) := by decide +kernel
theorem dX8_thingsInPockets_0 : decode cX8_thingsInPockets 0 = .ok (.iconst 0, 1) := by decide +kernel
theorem dX8_thingsInPockets_1 : decode cX8_thingsInPockets 1 = .ok (.istore_n 1, 1) := by decide +kernel
theorem dX8_thingsInPockets_2 : decode cX8_thingsInPockets 2 = .ok (.iconst 0, 1) := by decide +kernel
theorem dX8_thingsInPockets_3 : decode cX8_thingsInPockets 3 = .ok (.istore_n 2, 1) := by decide +kernel
theorem dX8_thingsInPockets_4 : decode cX8_thingsInPockets 4 = .ok (.iload_n 2, 1) := by decide +kernel
theorem dX8_thingsInPockets_5 : decode cX8_thingsInPockets 5 = .ok (.aload_n 0, 1) := by decide +kernel
theorem dX8_thingsInPockets_6 : decode cX8_thingsInPockets 6 = .ok (.getfield 26, 3) := by decide +kernel
theorem dX8_thingsInPockets_9 : decode cX8_thingsInPockets 9 = .ok (.if_icmp .ge 20, 3) := by decide +kernel
theorem dX8_thingsInPockets_12 : decode cX8_thingsInPockets 12 = .ok (.iload_n 1, 1) := by decide +kernel
theorem dX8_thingsInPockets_13 : decode cX8_thingsInPockets 13 = .ok (.aload_n 0, 1) := by decide +kernel
theorem dX8_thingsInPockets_14 : decode cX8_thingsInPockets 14 = .ok (.iload_n 2, 1) := by decide +kernel
theorem dX8_thingsInPockets_15 : decode cX8_thingsInPockets 15 = .ok (.invokevirtual 43, 3) := by decide +kernel
theorem dX8_thingsInPockets_18 : decode cX8_thingsInPockets 18 = .ok (.invokestatic 47, 3) := by decide +kernel
theorem dX8_thingsInPockets_21 : decode cX8_thingsInPockets 21 = .ok (.iadd, 1) := by decide +kernel
theorem dX8_thingsInPockets_22 : decode cX8_thingsInPockets 22 = .ok (.istore_n 1, 1) := by decide +kernel
theorem dX8_thingsInPockets_23 : decode cX8_thingsInPockets 23 = .ok (.iinc 2 1, 3) := by decide +kernel
theorem dX8_thingsInPockets_26 : decode cX8_thingsInPockets 26 = .ok (.goto (-22), 3) := by decide +kernel
theorem dX8_thingsInPockets_29 : decode cX8_thingsInPockets 29 = .ok (.iload_n 1, 1) := by decide +kernel
theorem dX8_thingsInPockets_30 : decode cX8_thingsInPockets 30 = .ok (.ireturn, 1) := by decide +kernel
theorem dX8_addLaw_0 : decode cX8_addLaw 0 = .ok (.aload_n 0, 1) := by decide +kernel
theorem dX8_addLaw_1 : decode cX8_addLaw 1 = .ok (.dup, 1) := by decide +kernel
theorem dX8_addLaw_2 : decode cX8_addLaw 2 = .ok (.getfield 22, 3) := by decide +kernel
theorem dX8_addLaw_5 : decode cX8_addLaw 5 = .ok (.dup_x1, 1) := by decide +kernel
theorem dX8_addLaw_6 : decode cX8_addLaw 6 = .ok (.iconst 1, 1) := by decide +kernel
theorem dX8_addLaw_7 : decode cX8_addLaw 7 = .ok (.iadd, 1) := by decide +kernel
theorem dX8_addLaw_8 : decode cX8_addLaw 8 = .ok (.putfield 22, 3) := by decide +kernel
theorem dX8_addLaw_11 : decode cX8_addLaw 11 = .ok (.istore 5, 2) := by decide +kernel
theorem dX8_addLaw_13 : decode cX8_addLaw 13 = .ok (.aload_n 0, 1) := by decide +kernel
theorem dX8_addLaw_14 : decode cX8_addLaw 14 = .ok (.iload 5, 2) := by decide +kernel
theorem dX8_addLaw_16 : decode cX8_addLaw 16 = .ok (.iconst 0, 1) := by decide +kernel
theorem dX8_addLaw_17 : decode cX8_addLaw 17 = .ok (.iload_n 1, 1) := by decide +kernel
theorem dX8_addLaw_18 : decode cX8_addLaw 18 = .ok (.invokevirtual 52, 3) := by decide +kernel
theorem dX8_addLaw_21 : decode cX8_addLaw 21 = .ok (.aload_n 0, 1) := by decide +kernel
theorem dX8_addLaw_22 : decode cX8_addLaw 22 = .ok (.iload 5, 2) := by decide +kernel
theorem dX8_addLaw_24 : decode cX8_addLaw 24 = .ok (.iconst 1, 1) := by decide +kernel
theorem dX8_addLaw_25 : decode cX8_addLaw 25 = .ok (.iload_n 2, 1) := by decide +kernel
theorem dX8_addLaw_26 : decode cX8_addLaw 26 = .ok (.invokevirtual 52, 3) := by decide +kernel
theorem dX8_addLaw_29 : decode cX8_addLaw 29 = .ok (.aload_n 0, 1) := by decide +kernel
theorem dX8_addLaw_30 : decode cX8_addLaw 30 = .ok (.iload 5, 2) := by decide +kernel
theorem dX8_addLaw_32 : decode cX8_addLaw 32 = .ok (.iconst 2, 1) := by decide +kernel
theorem dX8_addLaw_33 : decode cX8_addLaw 33 = .ok (.iload_n 3, 1) := by decide +kernel
theorem dX8_addLaw_34 : decode cX8_addLaw 34 = .ok (.invokevirtual 52, 3) := by decide +kernel
theorem dX8_addLaw_37 : decode cX8_addLaw 37 = .ok (.aload_n 0, 1) := by decide +kernel
theorem dX8_addLaw_38 : decode cX8_addLaw 38 = .ok (.iload 5, 2) := by decide +kernel
theorem dX8_addLaw_40 : decode cX8_addLaw 40 = .ok (.iconst 3, 1) := by decide +kernel
theorem dX8_addLaw_41 : decode cX8_addLaw 41 = .ok (.iload 4, 2) := by decide +kernel
theorem dX8_addLaw_43 : decode cX8_addLaw 43 = .ok (.invokevirtual 52, 3) := by decide +kernel
theorem dX8_addLaw_46 : decode cX8_addLaw 46 = .ok (.iload 5, 2) := by decide +kernel
theorem dX8_addLaw_48 : decode cX8_addLaw 48 = .ok (.ireturn, 1) := by decide +kernel
theorem dX8_addPerson_0 : decode cX8_addPerson 0 = .ok (.aload_n 0, 1) := by decide +kernel
theorem dX8_addPerson_1 : decode cX8_addPerson 1 = .ok (.dup, 1) := by decide +kernel
theorem dX8_addPerson_2 : decode cX8_addPerson 2 = .ok (.getfield 26, 3) := by decide +kernel
theorem dX8_addPerson_5 : decode cX8_addPerson 5 = .ok (.dup_x1, 1) := by decide +kernel
theorem dX8_addPerson_6 : decode cX8_addPerson 6 = .ok (.iconst 1, 1) := by decide +kernel
theorem dX8_addPerson_7 : decode cX8_addPerson 7 = .ok (.iadd, 1) := by decide +kernel
theorem dX8_addPerson_8 : decode cX8_addPerson 8 = .ok (.putfield 26, 3) := by decide +kernel
theorem dX8_addPerson_11 : decode cX8_addPerson 11 = .ok (.istore_n 2, 1) := by decide +kernel
theorem dX8_addPerson_12 : decode cX8_addPerson 12 = .ok (.aload_n 0, 1) := by decide +kernel
theorem dX8_addPerson_13 : decode cX8_addPerson 13 = .ok (.getfield 15, 3) := by decide +kernel
theorem dX8_addPerson_16 : decode cX8_addPerson 16 = .ok (.iload_n 2, 1) := by decide +kernel
theorem dX8_addPerson_17 : decode cX8_addPerson 17 = .ok (.iload_n 1, 1) := by decide +kernel
theorem dX8_addPerson_18 : decode cX8_addPerson 18 = .ok (.invokestatic 35, 3) := by decide +kernel
theorem dX8_addPerson_21 : decode cX8_addPerson 21 = .ok (.iload_n 2, 1) := by decide +kernel
theorem dX8_addPerson_22 : decode cX8_addPerson 22 = .ok (.ireturn, 1) := by decide +kernel
theorem dX8_takeOut_0 : decode cX8_takeOut 0 = .ok (.aload_n 0, 1) := by decide +kernel
theorem dX8_takeOut_1 : decode cX8_takeOut 1 = .ok (.iload_n 1, 1) := by decide +kernel
theorem dX8_takeOut_2 : decode cX8_takeOut 2 = .ok (.invokevirtual 43, 3) := by decide +kernel
theorem dX8_takeOut_5 : decode cX8_takeOut 5 = .ok (.iload_n 2, 1) := by decide +kernel
theorem dX8_takeOut_6 : decode cX8_takeOut 6 = .ok (.invokestatic 56, 3) := by decide +kernel
theorem dX8_takeOut_9 : decode cX8_takeOut 9 = .ok (.iconst (-1), 1) := by decide +kernel
theorem dX8_takeOut_10 : decode cX8_takeOut 10 = .ok (.ixor, 1) := by decide +kernel
theorem dX8_takeOut_11 : decode cX8_takeOut 11 = .ok (.iand, 1) := by decide +kernel
theorem dX8_takeOut_12 : decode cX8_takeOut 12 = .ok (.istore_n 3, 1) := by decide +kernel
theorem dX8_takeOut_13 : decode cX8_takeOut 13 = .ok (.aload_n 0, 1) := by decide +kernel
theorem dX8_takeOut_14 : decode cX8_takeOut 14 = .ok (.getfield 15, 3) := by decide +kernel
theorem dX8_takeOut_17 : decode cX8_takeOut 17 = .ok (.iload_n 1, 1) := by decide +kernel
theorem dX8_takeOut_18 : decode cX8_takeOut 18 = .ok (.iload_n 3, 1) := by decide +kernel
theorem dX8_takeOut_19 : decode cX8_takeOut 19 = .ok (.invokestatic 35, 3) := by decide +kernel
theorem dX8_takeOut_22 : decode cX8_takeOut 22 = .ok (.aload_n 0, 1) := by decide +kernel
theorem dX8_takeOut_23 : decode cX8_takeOut 23 = .ok (.dup, 1) := by decide +kernel
theorem dX8_takeOut_24 : decode cX8_takeOut 24 = .ok (.getfield 29, 3) := by decide +kernel
theorem dX8_takeOut_27 : decode cX8_takeOut 27 = .ok (.iload_n 2, 1) := by decide +kernel
theorem dX8_takeOut_28 : decode cX8_takeOut 28 = .ok (.invokestatic 56, 3) := by decide +kernel
theorem dX8_takeOut_31 : decode cX8_takeOut 31 = .ok (.ior, 1) := by decide +kernel
theorem dX8_takeOut_32 : decode cX8_takeOut 32 = .ok (.putfield 29, 3) := by decide +kernel
theorem dX8_takeOut_35 : decode cX8_takeOut 35 = .ok (.iload_n 3, 1) := by decide +kernel
theorem dX8_takeOut_36 : decode cX8_takeOut 36 = .ok (.ireturn, 1) := by decide +kernel
theorem dX8_bringIn_0 : decode cX8_bringIn 0 = .ok (.aload_n 0, 1) := by decide +kernel
theorem dX8_bringIn_1 : decode cX8_bringIn 1 = .ok (.iload_n 1, 1) := by decide +kernel
theorem dX8_bringIn_2 : decode cX8_bringIn 2 = .ok (.invokevirtual 43, 3) := by decide +kernel
theorem dX8_bringIn_5 : decode cX8_bringIn 5 = .ok (.iload_n 2, 1) := by decide +kernel
theorem dX8_bringIn_6 : decode cX8_bringIn 6 = .ok (.invokestatic 56, 3) := by decide +kernel
theorem dX8_bringIn_9 : decode cX8_bringIn 9 = .ok (.ior, 1) := by decide +kernel
theorem dX8_bringIn_10 : decode cX8_bringIn 10 = .ok (.istore_n 3, 1) := by decide +kernel
theorem dX8_bringIn_11 : decode cX8_bringIn 11 = .ok (.aload_n 0, 1) := by decide +kernel
theorem dX8_bringIn_12 : decode cX8_bringIn 12 = .ok (.getfield 15, 3) := by decide +kernel
theorem dX8_bringIn_15 : decode cX8_bringIn 15 = .ok (.iload_n 1, 1) := by decide +kernel
theorem dX8_bringIn_16 : decode cX8_bringIn 16 = .ok (.iload_n 3, 1) := by decide +kernel
theorem dX8_bringIn_17 : decode cX8_bringIn 17 = .ok (.invokestatic 35, 3) := by decide +kernel
theorem dX8_bringIn_20 : decode cX8_bringIn 20 = .ok (.aload_n 0, 1) := by decide +kernel
theorem dX8_bringIn_21 : decode cX8_bringIn 21 = .ok (.dup, 1) := by decide +kernel
theorem dX8_bringIn_22 : decode cX8_bringIn 22 = .ok (.getfield 29, 3) := by decide +kernel
theorem dX8_bringIn_25 : decode cX8_bringIn 25 = .ok (.iload_n 2, 1) := by decide +kernel
theorem dX8_bringIn_26 : decode cX8_bringIn 26 = .ok (.invokestatic 56, 3) := by decide +kernel
theorem dX8_bringIn_29 : decode cX8_bringIn 29 = .ok (.iconst (-1), 1) := by decide +kernel
theorem dX8_bringIn_30 : decode cX8_bringIn 30 = .ok (.ixor, 1) := by decide +kernel
theorem dX8_bringIn_31 : decode cX8_bringIn 31 = .ok (.iand, 1) := by decide +kernel
theorem dX8_bringIn_32 : decode cX8_bringIn 32 = .ok (.putfield 29, 3) := by decide +kernel
theorem dX8_bringIn_35 : decode cX8_bringIn 35 = .ok (.iload_n 3, 1) := by decide +kernel
theorem dX8_bringIn_36 : decode cX8_bringIn 36 = .ok (.ireturn, 1) := by decide +kernel
theorem dX8_emptyTray_0 : decode cX8_emptyTray 0 = .ok (.aload_n 0, 1) := by decide +kernel
theorem dX8_emptyTray_1 : decode cX8_emptyTray 1 = .ok (.getfield 29, 3) := by decide +kernel
theorem dX8_emptyTray_4 : decode cX8_emptyTray 4 = .ok (.istore_n 1, 1) := by decide +kernel
theorem dX8_emptyTray_5 : decode cX8_emptyTray 5 = .ok (.aload_n 0, 1) := by decide +kernel
theorem dX8_emptyTray_6 : decode cX8_emptyTray 6 = .ok (.iconst 0, 1) := by decide +kernel
theorem dX8_emptyTray_7 : decode cX8_emptyTray 7 = .ok (.putfield 29, 3) := by decide +kernel
theorem dX8_emptyTray_10 : decode cX8_emptyTray 10 = .ok (.iload_n 1, 1) := by decide +kernel
theorem dX8_emptyTray_11 : decode cX8_emptyTray 11 = .ok (.ireturn, 1) := by decide +kernel
theorem dX8_passDay_0 : decode cX8_passDay 0 = .ok (.iconst 0, 1) := by decide +kernel
theorem dX8_passDay_1 : decode cX8_passDay 1 = .ok (.istore_n 2, 1) := by decide +kernel
theorem dX8_passDay_2 : decode cX8_passDay 2 = .ok (.iconst 0, 1) := by decide +kernel
theorem dX8_passDay_3 : decode cX8_passDay 3 = .ok (.istore_n 3, 1) := by decide +kernel
theorem dX8_passDay_4 : decode cX8_passDay 4 = .ok (.iload_n 3, 1) := by decide +kernel
theorem dX8_passDay_5 : decode cX8_passDay 5 = .ok (.aload_n 0, 1) := by decide +kernel
theorem dX8_passDay_6 : decode cX8_passDay 6 = .ok (.getfield 26, 3) := by decide +kernel
theorem dX8_passDay_9 : decode cX8_passDay 9 = .ok (.if_icmp .ge 38, 3) := by decide +kernel
theorem dX8_passDay_12 : decode cX8_passDay 12 = .ok (.iload_n 2, 1) := by decide +kernel
theorem dX8_passDay_13 : decode cX8_passDay 13 = .ok (.aload_n 1, 1) := by decide +kernel
theorem dX8_passDay_14 : decode cX8_passDay 14 = .ok (.aload_n 0, 1) := by decide +kernel
theorem dX8_passDay_15 : decode cX8_passDay 15 = .ok (.aload_n 0, 1) := by decide +kernel
theorem dX8_passDay_16 : decode cX8_passDay 16 = .ok (.iload_n 3, 1) := by decide +kernel
theorem dX8_passDay_17 : decode cX8_passDay 17 = .ok (.invokevirtual 43, 3) := by decide +kernel
theorem dX8_passDay_20 : decode cX8_passDay 20 = .ok (.iconst 0, 1) := by decide +kernel
theorem dX8_passDay_21 : decode cX8_passDay 21 = .ok (.invokevirtual 59, 3) := by decide +kernel
theorem dX8_passDay_24 : decode cX8_passDay 24 = .ok (.invokestatic 47, 3) := by decide +kernel
theorem dX8_passDay_27 : decode cX8_passDay 27 = .ok (.iadd, 1) := by decide +kernel
theorem dX8_passDay_28 : decode cX8_passDay 28 = .ok (.istore_n 2, 1) := by decide +kernel
theorem dX8_passDay_29 : decode cX8_passDay 29 = .ok (.aload_n 0, 1) := by decide +kernel
theorem dX8_passDay_30 : decode cX8_passDay 30 = .ok (.getfield 15, 3) := by decide +kernel
theorem dX8_passDay_33 : decode cX8_passDay 33 = .ok (.iload_n 3, 1) := by decide +kernel
theorem dX8_passDay_34 : decode cX8_passDay 34 = .ok (.aload_n 1, 1) := by decide +kernel
theorem dX8_passDay_35 : decode cX8_passDay 35 = .ok (.invokevirtual 65, 3) := by decide +kernel
theorem dX8_passDay_38 : decode cX8_passDay 38 = .ok (.invokestatic 35, 3) := by decide +kernel
theorem dX8_passDay_41 : decode cX8_passDay 41 = .ok (.iinc 3 1, 3) := by decide +kernel
theorem dX8_passDay_44 : decode cX8_passDay 44 = .ok (.goto (-40), 3) := by decide +kernel
theorem dX8_passDay_47 : decode cX8_passDay 47 = .ok (.aload_n 0, 1) := by decide +kernel
theorem dX8_passDay_48 : decode cX8_passDay 48 = .ok (.dup, 1) := by decide +kernel
theorem dX8_passDay_49 : decode cX8_passDay 49 = .ok (.getfield 32, 3) := by decide +kernel
theorem dX8_passDay_52 : decode cX8_passDay 52 = .ok (.iconst 1, 1) := by decide +kernel
theorem dX8_passDay_53 : decode cX8_passDay 53 = .ok (.iadd, 1) := by decide +kernel
theorem dX8_passDay_54 : decode cX8_passDay 54 = .ok (.putfield 32, 3) := by decide +kernel
theorem dX8_passDay_57 : decode cX8_passDay 57 = .ok (.iload_n 2, 1) := by decide +kernel
theorem dX8_passDay_58 : decode cX8_passDay 58 = .ok (.ireturn, 1) := by decide +kernel
theorem dX8_firstHolding_0 : decode cX8_firstHolding 0 = .ok (.iconst 0, 1) := by decide +kernel
theorem dX8_firstHolding_1 : decode cX8_firstHolding 1 = .ok (.istore 4, 2) := by decide +kernel
theorem dX8_firstHolding_3 : decode cX8_firstHolding 3 = .ok (.iload 4, 2) := by decide +kernel
theorem dX8_firstHolding_5 : decode cX8_firstHolding 5 = .ok (.aload_n 0, 1) := by decide +kernel
theorem dX8_firstHolding_6 : decode cX8_firstHolding 6 = .ok (.getfield 22, 3) := by decide +kernel
theorem dX8_firstHolding_9 : decode cX8_firstHolding 9 = .ok (.if_icmp .ge 32, 3) := by decide +kernel
theorem dX8_firstHolding_12 : decode cX8_firstHolding 12 = .ok (.iload_n 3, 1) := by decide +kernel
theorem dX8_firstHolding_13 : decode cX8_firstHolding 13 = .ok (.iconst 1, 1) := by decide +kernel
theorem dX8_firstHolding_14 : decode cX8_firstHolding 14 = .ok (.iload 4, 2) := by decide +kernel
theorem dX8_firstHolding_16 : decode cX8_firstHolding 16 = .ok (.ishl, 1) := by decide +kernel
theorem dX8_firstHolding_17 : decode cX8_firstHolding 17 = .ok (.iand, 1) := by decide +kernel
theorem dX8_firstHolding_18 : decode cX8_firstHolding 18 = .ok (.ifCond .ne 17, 3) := by decide +kernel
theorem dX8_firstHolding_21 : decode cX8_firstHolding 21 = .ok (.aload_n 0, 1) := by decide +kernel
theorem dX8_firstHolding_22 : decode cX8_firstHolding 22 = .ok (.iload 4, 2) := by decide +kernel
theorem dX8_firstHolding_24 : decode cX8_firstHolding 24 = .ok (.iload_n 1, 1) := by decide +kernel
theorem dX8_firstHolding_25 : decode cX8_firstHolding 25 = .ok (.iload_n 2, 1) := by decide +kernel
theorem dX8_firstHolding_26 : decode cX8_firstHolding 26 = .ok (.invokevirtual 69, 3) := by decide +kernel
theorem dX8_firstHolding_29 : decode cX8_firstHolding 29 = .ok (.ifCond .eq 6, 3) := by decide +kernel
theorem dX8_firstHolding_32 : decode cX8_firstHolding 32 = .ok (.iload 4, 2) := by decide +kernel
theorem dX8_firstHolding_34 : decode cX8_firstHolding 34 = .ok (.ireturn, 1) := by decide +kernel
theorem dX8_firstHolding_35 : decode cX8_firstHolding 35 = .ok (.iinc 4 1, 3) := by decide +kernel
theorem dX8_firstHolding_38 : decode cX8_firstHolding 38 = .ok (.goto (-35), 3) := by decide +kernel
theorem dX8_firstHolding_41 : decode cX8_firstHolding 41 = .ok (.bipush (-9), 2) := by decide +kernel
theorem dX8_firstHolding_43 : decode cX8_firstHolding 43 = .ok (.ireturn, 1) := by decide +kernel
theorem dX8_holds_0 : decode cX8_holds 0 = .ok (.iload_n 1, 1) := by decide +kernel
theorem dX8_holds_1 : decode cX8_holds 1 = .ok (.iconst 4, 1) := by decide +kernel
theorem dX8_holds_2 : decode cX8_holds 2 = .ok (.imul, 1) := by decide +kernel
theorem dX8_holds_3 : decode cX8_holds 3 = .ok (.istore 4, 2) := by decide +kernel
theorem dX8_holds_5 : decode cX8_holds 5 = .ok (.iload 4, 2) := by decide +kernel
theorem dX8_holds_7 : decode cX8_holds 7 = .ok (.ifCond .lt 28, 3) := by decide +kernel
theorem dX8_holds_10 : decode cX8_holds 10 = .ok (.iload 4, 2) := by decide +kernel
theorem dX8_holds_12 : decode cX8_holds 12 = .ok (.iconst 3, 1) := by decide +kernel
theorem dX8_holds_13 : decode cX8_holds 13 = .ok (.iadd, 1) := by decide +kernel
theorem dX8_holds_14 : decode cX8_holds 14 = .ok (.aload_n 0, 1) := by decide +kernel
theorem dX8_holds_15 : decode cX8_holds 15 = .ok (.getfield 9, 3) := by decide +kernel
theorem dX8_holds_18 : decode cX8_holds 18 = .ok (.arraylength, 1) := by decide +kernel
theorem dX8_holds_19 : decode cX8_holds 19 = .ok (.if_icmp .ge 16, 3) := by decide +kernel
theorem dX8_holds_22 : decode cX8_holds 22 = .ok (.iload_n 2, 1) := by decide +kernel
theorem dX8_holds_23 : decode cX8_holds 23 = .ok (.aload_n 0, 1) := by decide +kernel
theorem dX8_holds_24 : decode cX8_holds 24 = .ok (.getfield 9, 3) := by decide +kernel
theorem dX8_holds_27 : decode cX8_holds 27 = .ok (.iload 4, 2) := by decide +kernel
theorem dX8_holds_29 : decode cX8_holds 29 = .ok (.iconst 1, 1) := by decide +kernel
theorem dX8_holds_30 : decode cX8_holds 30 = .ok (.iadd, 1) := by decide +kernel
theorem dX8_holds_31 : decode cX8_holds 31 = .ok (.iaload, 1) := by decide +kernel
theorem dX8_holds_32 : decode cX8_holds 32 = .ok (.if_icmp .ge 5, 3) := by decide +kernel
theorem dX8_holds_35 : decode cX8_holds 35 = .ok (.iconst 0, 1) := by decide +kernel
theorem dX8_holds_36 : decode cX8_holds 36 = .ok (.ireturn, 1) := by decide +kernel
theorem dX8_holds_37 : decode cX8_holds 37 = .ok (.iload_n 3, 1) := by decide +kernel
theorem dX8_holds_38 : decode cX8_holds 38 = .ok (.iconst 1, 1) := by decide +kernel
theorem dX8_holds_39 : decode cX8_holds 39 = .ok (.aload_n 0, 1) := by decide +kernel
theorem dX8_holds_40 : decode cX8_holds 40 = .ok (.getfield 9, 3) := by decide +kernel
theorem dX8_holds_43 : decode cX8_holds 43 = .ok (.iload 4, 2) := by decide +kernel
theorem dX8_holds_45 : decode cX8_holds 45 = .ok (.iconst 2, 1) := by decide +kernel
theorem dX8_holds_46 : decode cX8_holds 46 = .ok (.iadd, 1) := by decide +kernel
theorem dX8_holds_47 : decode cX8_holds 47 = .ok (.iaload, 1) := by decide +kernel
theorem dX8_holds_48 : decode cX8_holds 48 = .ok (.ishl, 1) := by decide +kernel
theorem dX8_holds_49 : decode cX8_holds 49 = .ok (.iand, 1) := by decide +kernel
theorem dX8_holds_50 : decode cX8_holds 50 = .ok (.ifCond .eq 7, 3) := by decide +kernel
theorem dX8_holds_53 : decode cX8_holds 53 = .ok (.iconst 1, 1) := by decide +kernel
theorem dX8_holds_54 : decode cX8_holds 54 = .ok (.goto 4, 3) := by decide +kernel
theorem dX8_holds_57 : decode cX8_holds 57 = .ok (.iconst 0, 1) := by decide +kernel
theorem dX8_holds_58 : decode cX8_holds 58 = .ok (.istore 5, 2) := by decide +kernel
theorem dX8_holds_60 : decode cX8_holds 60 = .ok (.iload_n 3, 1) := by decide +kernel
theorem dX8_holds_61 : decode cX8_holds 61 = .ok (.iconst 1, 1) := by decide +kernel
theorem dX8_holds_62 : decode cX8_holds 62 = .ok (.aload_n 0, 1) := by decide +kernel
theorem dX8_holds_63 : decode cX8_holds 63 = .ok (.getfield 9, 3) := by decide +kernel
theorem dX8_holds_66 : decode cX8_holds 66 = .ok (.iload 4, 2) := by decide +kernel
theorem dX8_holds_68 : decode cX8_holds 68 = .ok (.iconst 3, 1) := by decide +kernel
theorem dX8_holds_69 : decode cX8_holds 69 = .ok (.iadd, 1) := by decide +kernel
theorem dX8_holds_70 : decode cX8_holds 70 = .ok (.iaload, 1) := by decide +kernel
theorem dX8_holds_71 : decode cX8_holds 71 = .ok (.ishl, 1) := by decide +kernel
theorem dX8_holds_72 : decode cX8_holds 72 = .ok (.iand, 1) := by decide +kernel
theorem dX8_holds_73 : decode cX8_holds 73 = .ok (.ifCond .eq 7, 3) := by decide +kernel
theorem dX8_holds_76 : decode cX8_holds 76 = .ok (.iconst 1, 1) := by decide +kernel
theorem dX8_holds_77 : decode cX8_holds 77 = .ok (.goto 4, 3) := by decide +kernel
theorem dX8_holds_80 : decode cX8_holds 80 = .ok (.iconst 0, 1) := by decide +kernel
theorem dX8_holds_81 : decode cX8_holds 81 = .ok (.istore 6, 2) := by decide +kernel
theorem dX8_holds_83 : decode cX8_holds 83 = .ok (.aload_n 0, 1) := by decide +kernel
theorem dX8_holds_84 : decode cX8_holds 84 = .ok (.getfield 9, 3) := by decide +kernel
theorem dX8_holds_87 : decode cX8_holds 87 = .ok (.iload 4, 2) := by decide +kernel
theorem dX8_holds_89 : decode cX8_holds 89 = .ok (.iconst 0, 1) := by decide +kernel
theorem dX8_holds_90 : decode cX8_holds 90 = .ok (.iadd, 1) := by decide +kernel
theorem dX8_holds_91 : decode cX8_holds 91 = .ok (.iaload, 1) := by decide +kernel
theorem dX8_holds_92 : decode cX8_holds 92 = .ok (.tableswitch 110 0 5 #[40, 40, 43, 59, 70, 87], 40) := by decide +kernel
theorem dX8_holds_132 : decode cX8_holds 132 = .ok (.iload 5, 2) := by decide +kernel
theorem dX8_holds_134 : decode cX8_holds 134 = .ok (.ireturn, 1) := by decide +kernel
theorem dX8_holds_135 : decode cX8_holds 135 = .ok (.iload 5, 2) := by decide +kernel
theorem dX8_holds_137 : decode cX8_holds 137 = .ok (.ifCond .ne 8, 3) := by decide +kernel
theorem dX8_holds_140 : decode cX8_holds 140 = .ok (.iload 6, 2) := by decide +kernel
theorem dX8_holds_142 : decode cX8_holds 142 = .ok (.ifCond .eq 7, 3) := by decide +kernel
theorem dX8_holds_145 : decode cX8_holds 145 = .ok (.iconst 1, 1) := by decide +kernel
theorem dX8_holds_146 : decode cX8_holds 146 = .ok (.goto 4, 3) := by decide +kernel
theorem dX8_holds_149 : decode cX8_holds 149 = .ok (.iconst 0, 1) := by decide +kernel
theorem dX8_holds_150 : decode cX8_holds 150 = .ok (.ireturn, 1) := by decide +kernel
theorem dX8_holds_151 : decode cX8_holds 151 = .ok (.iload 5, 2) := by decide +kernel
theorem dX8_holds_153 : decode cX8_holds 153 = .ok (.ifCond .ne 7, 3) := by decide +kernel
theorem dX8_holds_156 : decode cX8_holds 156 = .ok (.iconst 1, 1) := by decide +kernel
theorem dX8_holds_157 : decode cX8_holds 157 = .ok (.goto 4, 3) := by decide +kernel
theorem dX8_holds_160 : decode cX8_holds 160 = .ok (.iconst 0, 1) := by decide +kernel
theorem dX8_holds_161 : decode cX8_holds 161 = .ok (.ireturn, 1) := by decide +kernel
theorem dX8_holds_162 : decode cX8_holds 162 = .ok (.iload 5, 2) := by decide +kernel
theorem dX8_holds_164 : decode cX8_holds 164 = .ok (.ifCond .eq 13, 3) := by decide +kernel
theorem dX8_holds_167 : decode cX8_holds 167 = .ok (.iload_n 2, 1) := by decide +kernel
theorem dX8_holds_168 : decode cX8_holds 168 = .ok (.iconst 2, 1) := by decide +kernel
theorem dX8_holds_169 : decode cX8_holds 169 = .ok (.irem, 1) := by decide +kernel
theorem dX8_holds_170 : decode cX8_holds 170 = .ok (.ifCond .ne 7, 3) := by decide +kernel
theorem dX8_holds_173 : decode cX8_holds 173 = .ok (.iconst 1, 1) := by decide +kernel
theorem dX8_holds_174 : decode cX8_holds 174 = .ok (.goto 4, 3) := by decide +kernel
theorem dX8_holds_177 : decode cX8_holds 177 = .ok (.iconst 0, 1) := by decide +kernel
theorem dX8_holds_178 : decode cX8_holds 178 = .ok (.ireturn, 1) := by decide +kernel
theorem dX8_holds_179 : decode cX8_holds 179 = .ok (.iload 5, 2) := by decide +kernel
theorem dX8_holds_181 : decode cX8_holds 181 = .ok (.ifCond .ne 8, 3) := by decide +kernel
theorem dX8_holds_184 : decode cX8_holds 184 = .ok (.iload 6, 2) := by decide +kernel
theorem dX8_holds_186 : decode cX8_holds 186 = .ok (.ifCond .eq 14, 3) := by decide +kernel
theorem dX8_holds_189 : decode cX8_holds 189 = .ok (.aload_n 0, 1) := by decide +kernel
theorem dX8_holds_190 : decode cX8_holds 190 = .ok (.getfield 29, 3) := by decide +kernel
theorem dX8_holds_193 : decode cX8_holds 193 = .ok (.ifCond .eq 7, 3) := by decide +kernel
theorem dX8_holds_196 : decode cX8_holds 196 = .ok (.iconst 1, 1) := by decide +kernel
theorem dX8_holds_197 : decode cX8_holds 197 = .ok (.goto 4, 3) := by decide +kernel
theorem dX8_holds_200 : decode cX8_holds 200 = .ok (.iconst 0, 1) := by decide +kernel
theorem dX8_holds_201 : decode cX8_holds 201 = .ok (.ireturn, 1) := by decide +kernel
theorem dX8_holds_202 : decode cX8_holds 202 = .ok (.iconst 0, 1) := by decide +kernel
theorem dX8_holds_203 : decode cX8_holds 203 = .ok (.ireturn, 1) := by decide +kernel
theorem dX8_pocketsAfter_0 : decode cX8_pocketsAfter 0 = .ok (.aload_n 0, 1) := by decide +kernel
theorem dX8_pocketsAfter_1 : decode cX8_pocketsAfter 1 = .ok (.iload_n 1, 1) := by decide +kernel
theorem dX8_pocketsAfter_2 : decode cX8_pocketsAfter 2 = .ok (.iconst 2, 1) := by decide +kernel
theorem dX8_pocketsAfter_3 : decode cX8_pocketsAfter 3 = .ok (.invokevirtual 73, 3) := by decide +kernel
theorem dX8_pocketsAfter_6 : decode cX8_pocketsAfter 6 = .ok (.invokestatic 56, 3) := by decide +kernel
theorem dX8_pocketsAfter_9 : decode cX8_pocketsAfter 9 = .ok (.istore_n 3, 1) := by decide +kernel
theorem dX8_pocketsAfter_10 : decode cX8_pocketsAfter 10 = .ok (.aload_n 0, 1) := by decide +kernel
theorem dX8_pocketsAfter_11 : decode cX8_pocketsAfter 11 = .ok (.iload_n 1, 1) := by decide +kernel
theorem dX8_pocketsAfter_12 : decode cX8_pocketsAfter 12 = .ok (.iconst 3, 1) := by decide +kernel
theorem dX8_pocketsAfter_13 : decode cX8_pocketsAfter 13 = .ok (.invokevirtual 73, 3) := by decide +kernel
theorem dX8_pocketsAfter_16 : decode cX8_pocketsAfter 16 = .ok (.invokestatic 56, 3) := by decide +kernel
theorem dX8_pocketsAfter_19 : decode cX8_pocketsAfter 19 = .ok (.istore 4, 2) := by decide +kernel
theorem dX8_pocketsAfter_21 : decode cX8_pocketsAfter 21 = .ok (.aload_n 0, 1) := by decide +kernel
theorem dX8_pocketsAfter_22 : decode cX8_pocketsAfter 22 = .ok (.iload_n 1, 1) := by decide +kernel
theorem dX8_pocketsAfter_23 : decode cX8_pocketsAfter 23 = .ok (.iconst 0, 1) := by decide +kernel
theorem dX8_pocketsAfter_24 : decode cX8_pocketsAfter 24 = .ok (.invokevirtual 73, 3) := by decide +kernel
theorem dX8_pocketsAfter_27 : decode cX8_pocketsAfter 27 = .ok (.tableswitch 83 0 5 #[37, 46, 51, 46, 59, 76], 37) := by decide +kernel
theorem dX8_pocketsAfter_64 : decode cX8_pocketsAfter 64 = .ok (.iload_n 2, 1) := by decide +kernel
theorem dX8_pocketsAfter_65 : decode cX8_pocketsAfter 65 = .ok (.iload_n 3, 1) := by decide +kernel
theorem dX8_pocketsAfter_66 : decode cX8_pocketsAfter 66 = .ok (.iconst (-1), 1) := by decide +kernel
theorem dX8_pocketsAfter_67 : decode cX8_pocketsAfter 67 = .ok (.ixor, 1) := by decide +kernel
theorem dX8_pocketsAfter_68 : decode cX8_pocketsAfter 68 = .ok (.iand, 1) := by decide +kernel
theorem dX8_pocketsAfter_69 : decode cX8_pocketsAfter 69 = .ok (.iload 4, 2) := by decide +kernel
theorem dX8_pocketsAfter_71 : decode cX8_pocketsAfter 71 = .ok (.ior, 1) := by decide +kernel
theorem dX8_pocketsAfter_72 : decode cX8_pocketsAfter 72 = .ok (.ireturn, 1) := by decide +kernel
theorem dX8_pocketsAfter_73 : decode cX8_pocketsAfter 73 = .ok (.iload_n 2, 1) := by decide +kernel
theorem dX8_pocketsAfter_74 : decode cX8_pocketsAfter 74 = .ok (.iload 4, 2) := by decide +kernel
theorem dX8_pocketsAfter_76 : decode cX8_pocketsAfter 76 = .ok (.ior, 1) := by decide +kernel
theorem dX8_pocketsAfter_77 : decode cX8_pocketsAfter 77 = .ok (.ireturn, 1) := by decide +kernel
theorem dX8_pocketsAfter_78 : decode cX8_pocketsAfter 78 = .ok (.iload_n 2, 1) := by decide +kernel
theorem dX8_pocketsAfter_79 : decode cX8_pocketsAfter 79 = .ok (.iload_n 3, 1) := by decide +kernel
theorem dX8_pocketsAfter_80 : decode cX8_pocketsAfter 80 = .ok (.iload 4, 2) := by decide +kernel
theorem dX8_pocketsAfter_82 : decode cX8_pocketsAfter 82 = .ok (.invokestatic 77, 3) := by decide +kernel
theorem dX8_pocketsAfter_85 : decode cX8_pocketsAfter 85 = .ok (.ireturn, 1) := by decide +kernel
theorem dX8_pocketsAfter_86 : decode cX8_pocketsAfter 86 = .ok (.iload_n 2, 1) := by decide +kernel
theorem dX8_pocketsAfter_87 : decode cX8_pocketsAfter 87 = .ok (.iload 4, 2) := by decide +kernel
theorem dX8_pocketsAfter_89 : decode cX8_pocketsAfter 89 = .ok (.ior, 1) := by decide +kernel
theorem dX8_pocketsAfter_90 : decode cX8_pocketsAfter 90 = .ok (.aload_n 0, 1) := by decide +kernel
theorem dX8_pocketsAfter_91 : decode cX8_pocketsAfter 91 = .ok (.iload_n 1, 1) := by decide +kernel
theorem dX8_pocketsAfter_92 : decode cX8_pocketsAfter 92 = .ok (.iconst 1, 1) := by decide +kernel
theorem dX8_pocketsAfter_93 : decode cX8_pocketsAfter 93 = .ok (.invokevirtual 73, 3) := by decide +kernel
theorem dX8_pocketsAfter_96 : decode cX8_pocketsAfter 96 = .ok (.invokestatic 56, 3) := by decide +kernel
theorem dX8_pocketsAfter_99 : decode cX8_pocketsAfter 99 = .ok (.iconst (-1), 1) := by decide +kernel
theorem dX8_pocketsAfter_100 : decode cX8_pocketsAfter 100 = .ok (.ixor, 1) := by decide +kernel
theorem dX8_pocketsAfter_101 : decode cX8_pocketsAfter 101 = .ok (.iand, 1) := by decide +kernel
theorem dX8_pocketsAfter_102 : decode cX8_pocketsAfter 102 = .ok (.ireturn, 1) := by decide +kernel
theorem dX8_pocketsAfter_103 : decode cX8_pocketsAfter 103 = .ok (.iload_n 2, 1) := by decide +kernel
theorem dX8_pocketsAfter_104 : decode cX8_pocketsAfter 104 = .ok (.aload_n 0, 1) := by decide +kernel
theorem dX8_pocketsAfter_105 : decode cX8_pocketsAfter 105 = .ok (.getfield 29, 3) := by decide +kernel
theorem dX8_pocketsAfter_108 : decode cX8_pocketsAfter 108 = .ok (.ior, 1) := by decide +kernel
theorem dX8_pocketsAfter_109 : decode cX8_pocketsAfter 109 = .ok (.ireturn, 1) := by decide +kernel
theorem dX8_pocketsAfter_110 : decode cX8_pocketsAfter 110 = .ok (.iload_n 2, 1) := by decide +kernel
theorem dX8_pocketsAfter_111 : decode cX8_pocketsAfter 111 = .ok (.ireturn, 1) := by decide +kernel
theorem dX8_eitherWay_0 : decode cX8_eitherWay 0 = .ok (.iload_n 0, 1) := by decide +kernel
theorem dX8_eitherWay_1 : decode cX8_eitherWay 1 = .ok (.iload_n 1, 1) := by decide +kernel
theorem dX8_eitherWay_2 : decode cX8_eitherWay 2 = .ok (.iand, 1) := by decide +kernel
theorem dX8_eitherWay_3 : decode cX8_eitherWay 3 = .ok (.ifCond .eq 13, 3) := by decide +kernel
theorem dX8_eitherWay_6 : decode cX8_eitherWay 6 = .ok (.iload_n 0, 1) := by decide +kernel
theorem dX8_eitherWay_7 : decode cX8_eitherWay 7 = .ok (.iload_n 2, 1) := by decide +kernel
theorem dX8_eitherWay_8 : decode cX8_eitherWay 8 = .ok (.iand, 1) := by decide +kernel
theorem dX8_eitherWay_9 : decode cX8_eitherWay 9 = .ok (.ifCond .eq 7, 3) := by decide +kernel
theorem dX8_eitherWay_12 : decode cX8_eitherWay 12 = .ok (.iconst 1, 1) := by decide +kernel
theorem dX8_eitherWay_13 : decode cX8_eitherWay 13 = .ok (.goto 4, 3) := by decide +kernel
theorem dX8_eitherWay_16 : decode cX8_eitherWay 16 = .ok (.iconst 0, 1) := by decide +kernel
theorem dX8_eitherWay_17 : decode cX8_eitherWay 17 = .ok (.istore_n 3, 1) := by decide +kernel
theorem dX8_eitherWay_18 : decode cX8_eitherWay 18 = .ok (.iload_n 3, 1) := by decide +kernel
theorem dX8_eitherWay_19 : decode cX8_eitherWay 19 = .ok (.ifCond .eq 11, 3) := by decide +kernel
theorem dX8_eitherWay_22 : decode cX8_eitherWay 22 = .ok (.iload_n 0, 1) := by decide +kernel
theorem dX8_eitherWay_23 : decode cX8_eitherWay 23 = .ok (.iload_n 2, 1) := by decide +kernel
theorem dX8_eitherWay_24 : decode cX8_eitherWay 24 = .ok (.iconst (-1), 1) := by decide +kernel
theorem dX8_eitherWay_25 : decode cX8_eitherWay 25 = .ok (.ixor, 1) := by decide +kernel
theorem dX8_eitherWay_26 : decode cX8_eitherWay 26 = .ok (.iand, 1) := by decide +kernel
theorem dX8_eitherWay_27 : decode cX8_eitherWay 27 = .ok (.goto 8, 3) := by decide +kernel
theorem dX8_eitherWay_30 : decode cX8_eitherWay 30 = .ok (.iload_n 0, 1) := by decide +kernel
theorem dX8_eitherWay_31 : decode cX8_eitherWay 31 = .ok (.iload_n 1, 1) := by decide +kernel
theorem dX8_eitherWay_32 : decode cX8_eitherWay 32 = .ok (.iload_n 2, 1) := by decide +kernel
theorem dX8_eitherWay_33 : decode cX8_eitherWay 33 = .ok (.ior, 1) := by decide +kernel
